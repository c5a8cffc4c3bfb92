/** One test for each sentence of the document's part "Terms" that names a boundary case. */
public final class TermsTest {
    private static final int[] NO_DRIVERS = {-1, 3, 4, Integer.MIN_VALUE, Integer.MAX_VALUE};

    public static void main(String[] args) {
        Check.sentence("DRIVERS have numbers from 0 on", TermsTest::numbersFromZeroOn);
        Check.sentence("a VALUE it has now, at first 0", TermsTest::valueAtFirst);
        Check.sentence("the times rising", TermsTest::timesRising);
        Check.sentence("and none before NOW", TermsTest::noneBeforeNow);
        Check.sentence("NOW is a time, at first 0", TermsTest::nowAtFirst);
        Check.sentence("times are at most 2^60", TermsTest::timesAtMost);
        Check.sentence("times are at most 2^60 (no sum wraps around)", TermsTest::noSumWrapsAround);
        Check.sentence("All rows together may have so many transactions (ROOM)", TermsTest::roomForAllRows);
        Check.sentence("ELEMENTS, at most 16", TermsTest::elementsAtMost);
        Check.sentence("makes of each element a NEW transaction", TermsTest::eachElement);
        Check.sentence("at NOW and its delay", TermsTest::atNowAndDelay);
        Check.sentence("the delays must rise from one to the next", TermsTest::delaysMustRise);
        Check.sentence("at or behind the time of the first new one are deleted", TermsTest::atOrBehindAreDeleted);
        Check.sentence("transactions of the row", TermsTest::onlyOfTheRow);
        Check.sentence("the new ones come behind the others", TermsTest::newOnesBehind);
        Check.sentence("That is all for mode 1", TermsTest::allForMode1);
        Check.sentence("a LIMIT: the first delay for mode 0", TermsTest::limitForMode0);
        Check.sentence("what is given for mode 2", TermsTest::limitForMode2);
        Check.sentence("all new transactions are marked", TermsTest::newOnesAreMarked);
        Check.sentence("those before the first new one's time less the limit", TermsTest::beforeTheLimit);
        Check.sentence("from the last of the others to the first", TermsTest::fromLastToFirst);
        Check.sentence("whose next one in the row is marked", TermsTest::nextOneIsMarked);
        Check.sentence("and has the same value", TermsTest::sameValue);
        Check.sentence("All that are not marked are deleted", TermsTest::notMarkedAreDeleted);
        Check.sentence("A call that throws changes nothing", TermsTest::throwsChangeNothing);
        Check.sentence("elements stay, too", TermsTest::elementsStay);
        Check.sentence("the one named first is thrown (element)", TermsTest::firstNamedOfElement);
        Check.sentence("the one named first is thrown (assign)", TermsTest::firstNamedOfAssign);
        Check.sentence("the one named first is thrown (projected)", TermsTest::firstNamedOfProjected);
        Check.sentence("IndexOutOfBoundsException: there is no such driver", TermsTest::noSuchDriver);
        Check.end("TermsTest");
    }

    private static void numbersFromZeroOn() {
        WaveRows x = new WaveRows(2, 8);
        Check.due("start of 0", 0, () -> x.start(0, 5));
        Check.due("start of the last", 0, () -> x.start(1, 6));
        Check.due("value of 0", 5, () -> x.value(0));
        Check.due("value of the last", 6, () -> x.value(1));
        Check.due("value of -1", Check.INDEX, () -> x.value(-1));
        Check.due("value of 2", Check.INDEX, () -> x.value(2));
    }

    private static void valueAtFirst() {
        WaveRows x = new WaveRows(128, 8);
        for (int d = 0; d < 128; d++) {
            int driver = d;
            Check.due("value of " + d, 0, () -> x.value(driver));
        }
    }

    private static void timesRising() {
        WaveRows x = new WaveRows(1, 20);
        Rows.carry(x, 0, 1, 3, 2, 4, 3, 5);
        Rows.carry(x, 0, 4, 6, 5, 7);
        Rows.rowDue("all behind", "1@3 2@4 3@5 4@6 5@7", x, 0);
        Rows.carry(x, 0, 6, 7);
        Rows.rowDue("never the same time twice", "1@3 2@4 3@5 4@6 6@7", x, 0);
        Rows.carry(x, 0, 6, 7);
        Rows.rowDue("nor with the same value", "1@3 2@4 3@5 4@6 6@7", x, 0);
        Rows.carry(x, 0, 7, 4, 8, 8);
        Rows.rowDue("never back", "1@3 7@4 8@8", x, 0);
    }

    private static void noneBeforeNow() {
        WaveRows x = new WaveRows(1, 20);
        Rows.carry(x, 0, 1, 3, 2, 4, 3, 5);
        x.advance(4);
        Rows.rowDue("those before NOW are gone, and the one at NOW", "3@5", x, 0);
        Rows.carry(x, 0, 9, 0);
        Rows.rowDue("the least delay makes one at NOW", "9@4", x, 0);
        Check.due("next is NOW", 4, x::next);
        x.advance(4);
        Rows.rowDue("it is gone when time goes on to NOW", "", x, 0);
    }

    private static void nowAtFirst() {
        WaveRows x = new WaveRows(1, 8);
        Check.due("now", 0, x::now);
        Check.due("time 0 is not before NOW", 0, () -> x.projected(0, 0));
        Check.due("time -1 is", Check.ARGUMENT, () -> x.projected(0, -1));
        Rows.carry(x, 0, 7, 0);
        Rows.rowDue("delay 0", "7@0", x, 0);
    }

    private static void timesAtMost() {
        WaveRows x = new WaveRows(2, 8);
        Check.due("a transaction at 2^60", 0, () -> Rows.carry(x, 0, 1, Rows.LAST));
        x.advance(1);
        Rows.lay(x, 2, Rows.LAST);
        for (int mode = 0; mode <= 2; mode++) {
            int by = mode;
            Check.due("one above 2^60, mode " + mode, Check.ARGUMENT, () -> x.assign(1, by, 0));
        }
        x.drop();
        Rows.lay(x, 2, 0, 3, Rows.LAST);
        Check.due("only the last one above 2^60", Check.ARGUMENT, () -> x.assign(1, Rows.CARRIED, 0));
        x.drop();
        Check.due("a transaction at 2^60 again", 0, () -> Rows.carry(x, 1, 2, Rows.LAST - 1));
        Rows.rowDue("at 2^60", "2@" + Rows.LAST, x, 1);
        Check.due("NOW above 2^60", Check.ARGUMENT, () -> x.advance(Rows.LAST + 1));
        Check.due("NOW at 2^60", 2, () -> x.advance(Rows.LAST));
        Check.due("still one at NOW", 0, () -> Rows.carry(x, 1, 3, 0));
        Rows.rowDue("still one at NOW", "3@" + Rows.LAST, x, 1);
        Rows.lay(x, 4, 1);
        Check.due("none behind it", Check.ARGUMENT, () -> x.assign(1, Rows.CARRIED, 0));
    }

    private static void noSumWrapsAround() {
        WaveRows x = new WaveRows(1, 8);
        x.advance(Rows.LAST);
        Rows.lay(x, 1, Rows.LAST);
        for (int mode = 0; mode <= 2; mode++) {
            int by = mode;
            Check.due("at 2^61, mode " + mode, Check.ARGUMENT, () -> x.assign(0, by, Rows.LAST));
        }
        x.drop();
        Rows.lay(x, 1, 0, 2, Rows.LAST);
        Check.due("the last at 2^61", Check.ARGUMENT, () -> x.assign(0, Rows.CARRIED, 0));
        Check.due("no row", 0, x::total);
        Check.due("the least limit", Check.ARGUMENT, () -> x.assign(0, Rows.BY_LIMIT, Long.MIN_VALUE));
        Check.due("the greatest limit", Check.ARGUMENT, () -> x.assign(0, Rows.BY_LIMIT, Long.MAX_VALUE));
        WaveRows y = new WaveRows(1, 8);
        Rows.carry(y, 0, 1, 5, 2, Rows.LAST - 1);
        Rows.lay(y, 3, Rows.LAST);
        Check.due("the greatest limit there is", 2, () -> y.assign(0, Rows.BY_LIMIT, Rows.LAST));
        Rows.rowDue("the greatest limit there is", "3@" + Rows.LAST, y, 0);
    }

    private static void roomForAllRows() {
        WaveRows x = new WaveRows(3, 5);
        Rows.carry(x, 0, 1, 1, 2, 2);
        Rows.carry(x, 2, 1, 1, 2, 2);
        Check.due("up to ROOM", 0, () -> Rows.carry(x, 1, 1, 1));
        Check.due("full", 5, x::total);
        Rows.lay(x, 1, 3);
        for (int d = 0; d < 3; d++) {
            int driver = d;
            Check.due("full for row " + d, Check.STATE, () -> x.assign(driver, Rows.CARRIED, 0));
        }
        x.drop();
        Check.due("one row alone may have them all", 2, () -> {
            x.start(0, 0);
            x.start(1, 0);
            return Rows.carry(x, 2, 1, 1, 2, 2, 3, 3, 4, 4, 5, 5);
        });
        Check.due("full", 5, x::total);
    }

    private static void elementsAtMost() {
        WaveRows x = new WaveRows(1, 100);
        for (int i = 0; i < 16; i++) {
            int delay = i;
            Check.same("element " + (i + 1), Check.DONE, Check.said(() -> x.element(7, delay)));
        }
        Check.same("element 17", Check.STATE, Check.said(() -> x.element(7, 99)));
        Check.due("assign 16", 0, () -> x.assign(0, Rows.CARRIED, 0));
        Check.due("16 transactions", 16, () -> x.count(0));
        Check.due("the last of them", 15, () -> x.at(0, 15, true));
        Check.same("element 1 again", Check.DONE, Check.said(() -> x.element(7, 0)));
    }

    private static void eachElement() {
        WaveRows x = new WaveRows(1, 20);
        Rows.carry(x, 0, 5, 3);
        Rows.rowDue("one", "5@3", x, 0);
        Rows.carry(x, 0, 6, 3, 6, 4, 6, 5);
        Rows.rowDue("each, though the values are the same", "6@3 6@4 6@5", x, 0);
        Rows.carry(x, 0, Long.MIN_VALUE, 0, Long.MAX_VALUE, Rows.LAST);
        Rows.rowDue("any value", Long.MIN_VALUE + "@0 " + Long.MAX_VALUE + "@" + Rows.LAST, x, 0);
    }

    private static void atNowAndDelay() {
        WaveRows x = new WaveRows(1, 20);
        Rows.lay(x, 1, 0, 2, 5);
        x.advance(100);
        x.assign(0, Rows.CARRIED, 0);
        Rows.rowDue("NOW of the assignment, not of the element", "1@100 2@105", x, 0);
    }

    private static void delaysMustRise() {
        delaysDue("one", 0, 4);
        delaysDue("by one", 0, 4, 5, 6);
        delaysDue("from 0 on", 0, 0, 1);
        delaysRefused("the same twice", 4, 4);
        delaysRefused("0 twice", 0, 0);
        delaysRefused("falling", 5, 4);
        delaysRefused("the last falls", 1, 2, 3, 4, 3);
        delaysRefused("the last is the same", 1, 2, 3, 4, 4);
        delaysRefused("the second falls, though the last is above the first", 5, 4, 6);
        delaysRefused("the last of 16", 1, 2, 3, 4, 5, 6, 7, 8, 9, 10, 11, 12, 13, 14, 15, 15);
    }

    private static void delaysDue(String what, long want, long... delays) {
        for (int mode = 0; mode <= 2; mode++) {
            WaveRows x = laidDown(delays);
            int by = mode;
            Check.due(what + ", mode " + mode, want, () -> x.assign(0, by, 0));
            Check.due(what + ", mode " + mode, delays.length, x::total);
        }
    }

    private static void delaysRefused(String what, long... delays) {
        for (int mode = 0; mode <= 2; mode++) {
            WaveRows x = laidDown(delays);
            int by = mode;
            Check.due(what + ", mode " + mode, Check.ARGUMENT, () -> x.assign(0, by, 0));
            Check.due(what + ", mode " + mode, 0, x::total);
        }
    }

    private static WaveRows laidDown(long... delays) {
        WaveRows x = new WaveRows(1, 100);
        for (long delay : delays) {
            x.element(1, delay);
        }
        return x;
    }

    private static void atOrBehindAreDeleted() {
        for (int mode = 0; mode <= 2; mode++) {
            WaveRows x = new WaveRows(1, 20);
            // One value throughout: so no mode swallows what stands before the new one.
            Rows.carry(x, 0, 1, 9, 1, 10, 1, 11);
            Rows.lay(x, 1, 12);
            assignDue("mode " + mode + ", none at or behind", 0, x, mode, "1@9 1@10 1@11 1@12");
            Rows.lay(x, 1, 12);
            assignDue("mode " + mode + ", the last one at", 1, x, mode, "1@9 1@10 1@11 1@12");
            Rows.lay(x, 1, 10);
            assignDue("mode " + mode + ", one at, two behind", 3, x, mode, "1@9 1@10");
            Rows.lay(x, 1, 8, 1, 20);
            assignDue("mode " + mode + ", all behind", 2, x, mode, "1@8 1@20");
            Rows.lay(x, 1, 9);
            assignDue("mode " + mode + ", behind the first new one", 1, x, mode, "1@8 1@9");
        }
    }

    private static void assignDue(String what, long deleted, WaveRows x, int mode, String row) {
        Check.due(what, deleted, () -> x.assign(0, mode, 0));
        Rows.rowDue(what, row, x, 0);
    }

    private static void onlyOfTheRow() {
        for (int mode = 0; mode <= 2; mode++) {
            WaveRows x = new WaveRows(3, 20);
            Rows.carry(x, 0, 1, 4, 2, 6);
            Rows.carry(x, 1, 3, 4, 4, 6);
            Rows.carry(x, 2, 5, 4, 6, 6);
            Rows.lay(x, 9, 5);
            int by = mode;
            Check.due("mode " + mode, mode == 1 ? 1 : 2, () -> x.assign(1, by, 5));
            Rows.rowDue("mode " + mode, "1@4 2@6", x, 0);
            Rows.rowDue("mode " + mode, mode == 1 ? "3@4 9@5" : "9@5", x, 1);
            Rows.rowDue("mode " + mode, "5@4 6@6", x, 2);
        }
    }

    private static void newOnesBehind() {
        WaveRows x = new WaveRows(1, 20);
        Rows.carry(x, 0, 1, 5, 2, 6, 3, 7, 4, 8);
        Rows.carry(x, 0, 9, 7, 8, 8, 7, 9);
        Rows.rowDue("behind two others", "1@5 2@6 9@7 8@8 7@9", x, 0);
        Rows.carry(x, 0, 7, 8);
        Rows.rowDue("behind three, though the last one has the same value", "1@5 2@6 9@7 7@8", x, 0);
        Rows.carry(x, 0, 1, 5);
        Rows.rowDue("no others", "1@5", x, 0);
        WaveRows empty = new WaveRows(1, 20);
        Rows.carry(empty, 0, 1, 5, 2, 6);
        Rows.rowDue("an empty row", "1@5 2@6", empty, 0);
    }

    private static void allForMode1() {
        long[] limits = {0, 1, 12, 13, -1, Long.MIN_VALUE, Long.MAX_VALUE};
        for (long limit : limits) {
            WaveRows x = new WaveRows(1, 20);
            Rows.carry(x, 0, 1, 9, 2, 10, 3, 11);
            Rows.lay(x, 4, 12);
            Check.due("limit " + limit, 0, () -> x.assign(0, Rows.CARRIED, limit));
            Rows.rowDue("limit " + limit, "1@9 2@10 3@11 4@12", x, 0);
        }
    }

    private static void limitForMode0() {
        long[] limits = {0, 1, 10, 12, 13, -1, Long.MIN_VALUE, Long.MAX_VALUE};
        for (long limit : limits) {
            WaveRows x = new WaveRows(1, 20);
            x.advance(100);
            // The first of them is at NOW, which is the first new time less the first delay.
            Rows.carry(x, 0, 1, 0, 2, 10, 3, 11);
            Rows.lay(x, 3, 12, 5, 13);
            Check.due("limit " + limit, 2, () -> x.assign(0, Rows.BY_FIRST_DELAY, limit));
            Rows.rowDue("limit " + limit, "3@111 3@112 5@113", x, 0);
        }
        WaveRows x = new WaveRows(1, 20);
        x.advance(100);
        Rows.lay(x, 1, 0);
        Check.due("the first delay is 0", 0, () -> x.assign(0, Rows.BY_FIRST_DELAY, 0));
        Rows.rowDue("the first delay is 0", "1@100", x, 0);
    }

    private static void limitForMode2() {
        limitDue(0, 0, "1@9 2@10 3@11 4@12 5@13");
        limitDue(1, 1, "1@9 2@10 4@12 5@13");
        limitDue(2, 2, "1@9 4@12 5@13");
        limitDue(3, 3, "4@12 5@13");
        limitDue(12, 3, "4@12 5@13");
    }

    private static void limitDue(long limit, long deleted, String row) {
        WaveRows x = new WaveRows(1, 20);
        Rows.carry(x, 0, 1, 9, 2, 10, 3, 11);
        Rows.lay(x, 4, 12, 5, 13);
        Check.due("limit " + limit, deleted, () -> x.assign(0, Rows.BY_LIMIT, limit));
        Rows.rowDue("limit " + limit, row, x, 0);
    }

    private static void newOnesAreMarked() {
        for (int mode = 0; mode <= 2; mode++) {
            WaveRows x = new WaveRows(1, 20);
            Rows.lay(x, 1, 5, 2, 6, 1, 7, 1, 8, 3, 9);
            int by = mode;
            Check.due("mode " + mode, 0, () -> x.assign(0, by, 5));
            Rows.rowDue("mode " + mode + ": other values, all stay", "1@5 2@6 1@7 1@8 3@9", x, 0);
        }
    }

    private static void beforeTheLimit() {
        WaveRows x = new WaveRows(1, 20);
        Rows.carry(x, 0, 1, 9, 2, 10, 3, 11);
        Rows.lay(x, 4, 15);
        Check.due("one at the first new time less the limit is no such one", 2, () -> x.assign(0, Rows.BY_LIMIT, 5));
        Rows.rowDue("one right before it is", "1@9 4@15", x, 0);
        WaveRows y = new WaveRows(1, 20);
        Rows.carry(y, 0, 1, 9, 2, 10, 3, 11);
        Rows.lay(y, 4, 16);
        Check.due("the limit ends between two", 1, () -> y.assign(0, Rows.BY_LIMIT, 5));
        Rows.rowDue("the limit ends between two", "1@9 2@10 4@16", y, 0);
        WaveRows z = new WaveRows(1, 20);
        Rows.carry(z, 0, 1, 9, 2, 10, 3, 11);
        Rows.lay(z, 4, 17);
        Check.due("all are before it", 0, () -> z.assign(0, Rows.BY_LIMIT, 5));
        Rows.rowDue("all are before it", "1@9 2@10 3@11 4@17", z, 0);
    }

    private static void fromLastToFirst() {
        WaveRows x = new WaveRows(1, 20);
        Rows.carry(x, 0, 7, 5, 7, 6, 7, 7, 7, 8);
        Rows.lay(x, 7, 9);
        Check.due("a whole row of one value", 0, () -> x.assign(0, Rows.BY_FIRST_DELAY, 0));
        Rows.rowDue("a whole row of one value", "7@5 7@6 7@7 7@8 7@9", x, 0);
        WaveRows y = new WaveRows(1, 20);
        Rows.carry(y, 0, 3, 5, 3, 6, 7, 7, 7, 8);
        Rows.lay(y, 7, 9);
        Check.due("the last two", 2, () -> y.assign(0, Rows.BY_FIRST_DELAY, 0));
        Rows.rowDue("the last two", "7@7 7@8 7@9", y, 0);
    }

    private static void nextOneIsMarked() {
        WaveRows x = new WaveRows(1, 20);
        Rows.carry(x, 0, 7, 5, 7, 6, 3, 7, 7, 8);
        Rows.lay(x, 7, 9);
        Check.due("same value, but behind it one that is not marked", 3, () -> x.assign(0, Rows.BY_FIRST_DELAY, 0));
        Rows.rowDue("only the last", "7@8 7@9", x, 0);
        WaveRows y = new WaveRows(1, 20);
        Rows.carry(y, 0, 3, 5, 3, 6, 3, 7);
        Rows.lay(y, 4, 8);
        Check.due("the next has the same value, but no mark", 3, () -> y.assign(0, Rows.BY_FIRST_DELAY, 0));
        Rows.rowDue("the next has no mark", "4@8", y, 0);
        WaveRows z = new WaveRows(1, 20);
        Rows.carry(z, 0, 3, 5, 3, 6, 7, 7);
        Rows.lay(z, 4, 8);
        Check.due("a mark before it does not help", 2, () -> z.assign(0, Rows.BY_LIMIT, 2));
        Rows.rowDue("a mark before it does not help", "3@5 4@8", z, 0);
    }

    private static void sameValue() {
        WaveRows x = new WaveRows(1, 20);
        Rows.carry(x, 0, 2, 5);
        Rows.lay(x, 1, 6, 2, 7);
        Check.due("the first new one's value counts, no later one's", 1, () -> x.assign(0, Rows.BY_FIRST_DELAY, 0));
        Rows.rowDue("the first new one's value", "1@6 2@7", x, 0);
        WaveRows y = new WaveRows(1, 20);
        y.start(0, 2);
        Rows.carry(y, 0, 2, 5);
        Rows.lay(y, 1, 6);
        Check.due("nor the driver's value now", 1, () -> y.assign(0, Rows.BY_FIRST_DELAY, 0));
        Rows.rowDue("nor the driver's value now", "1@6", y, 0);
        // Alike in their lower or their upper half, but not the same.
        long[] others = {1L + (1L << 32), 1L - (1L << 32), -1, 0, Long.MIN_VALUE + 1};
        for (long other : others) {
            WaveRows z = new WaveRows(1, 20);
            Rows.carry(z, 0, other, 5);
            Rows.lay(z, 1, 6);
            Check.due("1 and " + other, 1, () -> z.assign(0, Rows.BY_FIRST_DELAY, 0));
        }
    }

    private static void notMarkedAreDeleted() {
        WaveRows x = new WaveRows(1, 20);
        Rows.carry(x, 0, 1, 2, 2, 4, 3, 6, 4, 8, 4, 9, 5, 12, 6, 13);
        Rows.lay(x, 4, 11);
        Check.due("in the midst of a row, and at its end", 4, () -> x.assign(0, Rows.BY_LIMIT, 7));
        Rows.rowDue("what stood before stays, what follows closes up", "1@2 4@8 4@9 4@11", x, 0);
        Check.due("total", 4, x::total);
        Check.due("none is there any more", Check.INDEX, () -> x.at(0, 4, true));
    }

    /** NOW is 5, driver 1 is ACTIVE, ROOM is full, and two elements are laid down that would be too many. */
    private static WaveRows busy() {
        WaveRows x = new WaveRows(3, 4);
        Rows.carry(x, 0, 1, 7, 2, 9);
        Rows.carry(x, 1, 3, 4);
        x.advance(5);
        Rows.carry(x, 1, 4, 3, 5, 6);
        x.start(2, 6);
        Rows.lay(x, 8, 6, 9, 7);
        return x;
    }

    private static String state(WaveRows x) {
        StringBuilder text = new StringBuilder();
        text.append("now ").append(x.now()).append(" next ").append(x.next()).append(" total ").append(x.total());
        text.append(" active");
        for (int i = 0; i <= 3; i++) {
            text.append(' ').append(x.active(i));
        }
        for (int d = 0; d < 3; d++) {
            text.append("; ").append(d).append(": ").append(x.value(d)).append(", ").append(Rows.row(x, d));
        }
        return text.toString();
    }

    private interface Use {
        long of(WaveRows x);
    }

    private static void refusedChangesNothing(String call, String exception, Use use) {
        WaveRows x = busy();
        Check.due(call, exception, () -> use.of(x));
        Check.same("state behind " + call, state(busy()), state(x));
        Check.due("start behind " + call, 2, () -> x.start(1, 0));
        Check.due("assign behind " + call, 1, () -> x.assign(0, Rows.BY_LIMIT, 2));
        Rows.rowDue("elements behind " + call, "1@7 8@11 9@12", x, 0);
    }

    private static void throwsChangeNothing() {
        Check.same("the state at first", "now 5 next 7 total 4 active 1 -1 -1 -1;"
            + " 0: 0, 1@7 2@9; 1: 3, 4@8 5@11; 2: 6, ", state(busy()));
        refusedChangesNothing("element(1, -1)", Check.ARGUMENT, x -> laid(x, -1));
        refusedChangesNothing("element(1, 2^60 + 1)", Check.ARGUMENT, x -> laid(x, Rows.LAST + 1));
        refusedChangesNothing("assign to no driver", Check.INDEX, x -> x.assign(3, Rows.CARRIED, 0));
        refusedChangesNothing("assign, wrong mode", Check.ARGUMENT, x -> x.assign(0, 3, 0));
        refusedChangesNothing("assign, limit -1", Check.ARGUMENT, x -> x.assign(0, Rows.BY_LIMIT, -1));
        refusedChangesNothing("assign, limit 7", Check.ARGUMENT, x -> x.assign(0, Rows.BY_LIMIT, 7));
        refusedChangesNothing("assign, no room, mode 0", Check.STATE, x -> x.assign(2, Rows.BY_FIRST_DELAY, 0));
        refusedChangesNothing("assign, no room, mode 1", Check.STATE, x -> x.assign(0, Rows.CARRIED, 0));
        refusedChangesNothing("assign, no room, mode 2", Check.STATE, x -> x.assign(0, Rows.BY_LIMIT, 2));
        refusedChangesNothing("assign, no room, one deleted", Check.STATE, x -> x.assign(1, Rows.CARRIED, 0));
        refusedChangesNothing("assign, no room, mode 2, one deleted", Check.STATE, x -> x.assign(1, Rows.BY_LIMIT, 2));
        refusedChangesNothing("start of no driver", Check.INDEX, x -> x.start(3, 1));
        refusedChangesNothing("advance before NOW", Check.ARGUMENT, x -> x.advance(4));
        refusedChangesNothing("advance above 2^60", Check.ARGUMENT, x -> x.advance(Rows.LAST + 1));
        refusedChangesNothing("value of no driver", Check.INDEX, x -> x.value(3));
        refusedChangesNothing("count of no driver", Check.INDEX, x -> x.count(3));
        refusedChangesNothing("at of no driver", Check.INDEX, x -> x.at(3, 0, true));
        refusedChangesNothing("at of no transaction", Check.INDEX, x -> x.at(0, 2, true));
        refusedChangesNothing("projected of no driver", Check.INDEX, x -> x.projected(3, 5));
        refusedChangesNothing("projected before NOW", Check.ARGUMENT, x -> x.projected(0, 4));
    }

    private static long laid(WaveRows x, long delay) {
        x.element(1, delay);
        return 0;
    }

    private static void elementsStay() {
        WaveRows none = new WaveRows(1, 8);
        Check.due("no element", Check.STATE, () -> none.assign(0, Rows.CARRIED, 0));
        Check.due("still none", 0, none::drop);
        WaveRows full = new WaveRows(1, 20);
        for (int i = 0; i < 16; i++) {
            full.element(i, i);
        }
        Check.due("a 17th", Check.STATE, () -> laid(full, 20));
        Check.due("the 16", 0, () -> full.assign(0, Rows.CARRIED, 0));
        Check.due("the 16th", 15, () -> full.at(0, 15, false));
        stayed("not rising", 0, 4, 4);
        stayed("a time above 2^60", 1, 4, Rows.LAST);
        WaveRows small = new WaveRows(1, 1);
        Rows.lay(small, 1, 4, 2, 5);
        Check.due("no room", Check.STATE, () -> small.assign(0, Rows.CARRIED, 0));
        Check.due("no room, again", Check.STATE, () -> small.assign(0, Rows.CARRIED, 0));
        Check.due("both stay", 2, small::drop);
        WaveRows once = new WaveRows(1, 8);
        Rows.lay(once, 1, 4);
        Check.due("wrong mode", Check.ARGUMENT, () -> once.assign(0, -1, 0));
        Rows.lay(once, 2, 5);
        Check.due("more behind those that stayed", 0, () -> once.assign(0, Rows.CARRIED, 0));
        Rows.rowDue("more behind those that stayed", "1@4 2@5", once, 0);
    }

    private static void stayed(String what, long now, long first, long second) {
        WaveRows x = new WaveRows(1, 8);
        x.advance(now);
        Rows.lay(x, 1, first, 2, second);
        for (int i = 0; i < 2; i++) {
            Check.due(what, Check.ARGUMENT, () -> x.assign(0, Rows.CARRIED, 0));
        }
        Check.due(what + ": both stay", 2, x::drop);
        Check.due(what + ": no row", 0, x::total);
    }

    private static void firstNamedOfElement() {
        WaveRows x = new WaveRows(1, 20);
        for (int i = 0; i < 16; i++) {
            x.element(1, i);
        }
        Check.due("delay below 0 and 16 elements", Check.ARGUMENT, () -> laid(x, -1));
        Check.due("delay above 2^60 and 16 elements", Check.ARGUMENT, () -> laid(x, Rows.LAST + 1));
        Check.due("16 elements alone", Check.STATE, () -> laid(x, 16));
    }

    private static void firstNamedOfAssign() {
        WaveRows x = new WaveRows(1, 1);
        Check.due("no driver, no element", Check.INDEX, () -> x.assign(1, 1, 0));
        Check.due("no driver, no element, wrong mode", Check.INDEX, () -> x.assign(-1, 3, 0));
        Check.due("no element, wrong mode", Check.STATE, () -> x.assign(0, 3, 0));
        Check.due("no element, wrong limit", Check.STATE, () -> x.assign(0, 2, -1));
        Check.due("no element, limit above any delay", Check.STATE, () -> x.assign(0, 2, 1));
        Rows.carry(x, 0, 1, 5);
        Check.due("no element, and full", Check.STATE, () -> x.assign(0, 3, 0));
        Rows.lay(x, 1, 6);
        Check.due("no driver, wrong mode", Check.INDEX, () -> x.assign(1, 3, 0));
        Check.due("no driver, wrong limit", Check.INDEX, () -> x.assign(1, 2, 7));
        Check.due("no driver, no room", Check.INDEX, () -> x.assign(1, 1, 0));
        Check.due("wrong mode, no room", Check.ARGUMENT, () -> x.assign(0, 3, 0));
        Check.due("limit below 0, no room", Check.ARGUMENT, () -> x.assign(0, 2, -1));
        Check.due("limit above the first delay, no room", Check.ARGUMENT, () -> x.assign(0, 2, 7));
        Check.due("no room alone", Check.STATE, () -> x.assign(0, 1, 0));
        Rows.lay(x, 1, 6);
        Check.due("no driver, delays do not rise", Check.INDEX, () -> x.assign(1, 1, 0));
        Check.due("delays do not rise, no room", Check.ARGUMENT, () -> x.assign(0, 1, 0));
        x.drop();
        x.advance(1);
        Rows.lay(x, 1, Rows.LAST);
        Check.due("no driver, a time above 2^60", Check.INDEX, () -> x.assign(1, 1, 0));
        Check.due("a time above 2^60, no room", Check.ARGUMENT, () -> x.assign(0, 1, 0));
    }

    private static void firstNamedOfProjected() {
        WaveRows x = new WaveRows(1, 8);
        x.advance(5);
        Check.due("no driver, before NOW", Check.INDEX, () -> x.projected(1, 4));
        Check.due("driver -1, before NOW", Check.INDEX, () -> x.projected(-1, Long.MIN_VALUE));
        Check.due("before NOW alone", Check.ARGUMENT, () -> x.projected(0, 4));
    }

    private static void noSuchDriver() {
        for (int no : NO_DRIVERS) {
            refused("assign", no, x -> x.assign(no, Rows.CARRIED, 0));
            refused("start", no, x -> x.start(no, 1));
            refused("value", no, x -> x.value(no));
            refused("count", no, x -> x.count(no));
            refused("at, a time", no, x -> x.at(no, 0, true));
            refused("at, a value", no, x -> x.at(no, 0, false));
            refused("projected", no, x -> x.projected(no, 5));
        }
        WaveRows one = new WaveRows(1, 8);
        Check.due("value(0) of one driver", 0, () -> one.value(0));
        Check.due("value(1) of one driver", Check.INDEX, () -> one.value(1));
        WaveRows most = new WaveRows(512, 8);
        Check.due("value(511) of 512 drivers", 0, () -> most.value(511));
        Check.due("value(512) of 512 drivers", Check.INDEX, () -> most.value(512));
    }

    private static void refused(String call, int driver, Use use) {
        WaveRows x = new WaveRows(3, 20);
        for (int d = 0; d < 3; d++) {
            Rows.carry(x, d, 1, 5);
        }
        x.element(1, 6);
        Check.due(call + " of driver " + driver, Check.INDEX, () -> use.of(x));
    }
}
