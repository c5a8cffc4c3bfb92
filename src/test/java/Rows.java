/** What the tests by the document's words have in common: ways to fill rows, and to read them. */
final class Rows {
    /** 2^60, the last time there is. */
    static final long LAST = 1152921504606846976L;
    static final int BY_FIRST_DELAY = 0;
    static final int CARRIED = 1;
    static final int BY_LIMIT = 2;

    private Rows() {
    }

    /** Lays down elements, given as value and delay by turns. */
    static void lay(WaveRows x, long... valuesAndDelays) {
        for (int i = 0; i + 1 < valuesAndDelays.length; i += 2) {
            x.element(valuesAndDelays[i], valuesAndDelays[i + 1]);
        }
    }

    static int carry(WaveRows x, int driver, long... valuesAndDelays) {
        lay(x, valuesAndDelays);
        return x.assign(driver, CARRIED, 0);
    }

    static String row(WaveRows x, int driver) {
        StringBuilder text = new StringBuilder();
        for (int i = 0; i < x.count(driver); i++) {
            text.append(i == 0 ? "" : " ").append(x.at(driver, i, false)).append('@').append(x.at(driver, i, true));
        }
        return text.toString();
    }

    static void rowDue(String what, String want, WaveRows x, int driver) {
        Check.same(what + ": row " + driver, want, row(x, driver));
    }
}
