/**
 * Every small row with every small assignment, and every pair of small rows with every step of time,
 * held against Model: where ModelTest picks, this leaves nothing out. A code tells which delays
 * 0 .. SLOTS - 1 have a transaction, and whether its value is 0 or 1: one digit (0 none, 1, 2) each.
 */
public final class SmallRowsTest {
    private static final int SLOTS = 5;
    private static final int CODES = 243;
    private static final long NOW = 3;
    private static final int NO_END = 64;

    public static void main(String[] args) {
        for (int old = 0; old < CODES && Check.wrongSoFar() == 0; old++) {
            for (int fresh = 1; fresh < CODES; fresh++) {
                everyModeAndLimit(old, fresh);
            }
        }
        for (int first = 0; first < CODES && Check.wrongSoFar() == 0; first++) {
            for (int last = 0; last < CODES; last++) {
                everyStep(first, last);
            }
        }
        Check.end("SmallRowsTest");
    }

    private static void everyModeAndLimit(int old, int fresh) {
        oneAssignment(old, fresh, Rows.BY_FIRST_DELAY, 0);
        oneAssignment(old, fresh, Rows.CARRIED, 0);
        for (int limit = -1; limit <= firstDelay(fresh) + 1; limit++) {
            oneAssignment(old, fresh, Rows.BY_LIMIT, limit);
        }
    }

    private static int digit(int code, int slot) {
        int rest = code;
        for (int i = 0; i < slot; i++) {
            rest /= 3;
        }
        return rest % 3;
    }

    private static int firstDelay(int code) {
        int slot = 0;
        while (slot < SLOTS && digit(code, slot) == 0) {
            slot++;
        }
        return slot;
    }

    /** With ROOM for all that there will be; with ROOM for just so many; and with one too few. */
    private static void oneAssignment(int old, int fresh, int mode, long limit) {
        Pair free = assigned(NO_END, old, fresh, mode, limit);
        int before = rows(NO_END, old).model.total();
        int just = free.model.total();
        // A smaller ROOM than the old rows need could not be filled to begin with.
        if (just >= before) {
            assigned(just, old, fresh, mode, limit);
        }
        if (just - 1 >= before) {
            assigned(just - 1, old, fresh, mode, limit);
        }
    }

    private static Pair rows(int room, int old) {
        Pair pair = new Pair(3, room);
        pair.advance(NOW);
        pair.lay(0, 5);
        pair.assign(0, Rows.CARRIED, 0);
        pair.lay(1, 5);
        pair.assign(2, Rows.CARRIED, 0);
        if (old != 0) {
            layCode(pair, old);
            pair.assign(1, Rows.CARRIED, 0);
        }
        return pair;
    }

    private static void layCode(Pair pair, int code) {
        for (int slot = 0; slot < SLOTS; slot++) {
            int digit = digit(code, slot);
            if (digit != 0) {
                pair.lay(digit - 1, slot);
            }
        }
    }

    private static Pair assigned(int room, int old, int fresh, int mode, long limit) {
        Pair pair = rows(room, old);
        layCode(pair, fresh);
        pair.name = "room " + room + ", row " + old + ", elements " + fresh + ", mode " + mode
            + ", limit " + limit + ": ";
        pair.assign(1, mode, limit);
        pair.same();
        return pair;
    }

    private static void everyStep(int first, int last) {
        for (long step = -1; step <= SLOTS; step++) {
            Pair pair = new Pair(2, NO_END);
            pair.name = "rows " + first + " and " + last + ", step " + step + ": ";
            pair.advance(NOW);
            if (first != 0) {
                layCode(pair, first);
                pair.assign(0, Rows.CARRIED, 0);
            }
            if (last != 0) {
                layCode(pair, last);
                pair.assign(1, Rows.CARRIED, 0);
            }
            long to = NOW + step;
            for (int d = 0; d < 2; d++) {
                int driver = d;
                pair.due("projected(" + d + ", " + to + ")",
                    () -> pair.model.projected(driver, to), () -> pair.real.projected(driver, to));
            }
            pair.advance(to);
            pair.same();
        }
    }

    /** An object and the model of it, asked alike. */
    private static final class Pair {
        private final int drivers;
        private final WaveRows real;
        private final Model model;
        private String name = "";

        Pair(int drivers, int room) {
            this.drivers = drivers;
            real = new WaveRows(drivers, room);
            model = new Model(drivers, room);
        }

        void due(String what, Check.Call want, Check.Call got) {
            Check.same(name + what, Check.said(want), Check.said(got));
        }

        void lay(long value, long delay) {
            model.element(value, delay);
            real.element(value, delay);
        }

        void assign(int driver, int mode, long limit) {
            due("assign", () -> model.assign(driver, mode, limit), () -> real.assign(driver, mode, limit));
        }

        void advance(long to) {
            due("advance(" + to + ")", () -> model.advance(to), () -> real.advance(to));
        }

        void same() {
            due("total()", model::total, real::total);
            due("next()", model::next, real::next);
            due("now()", model::now, real::now);
            due("drop()", model::drop, real::drop);
            for (int d = 0; d < drivers; d++) {
                int driver = d;
                due("active(" + d + ")", () -> model.active(driver), () -> real.active(driver));
                due("value(" + d + ")", () -> model.value(driver), () -> real.value(driver));
                due("count(" + d + ")", () -> model.count(driver), () -> real.count(driver));
                sameRow(driver);
            }
        }

        private void sameRow(int driver) {
            for (int i = 0; i < model.count(driver); i++) {
                int which = i;
                due("at(" + driver + ", " + i + ", true)",
                    () -> model.at(driver, which, true), () -> real.at(driver, which, true));
                due("at(" + driver + ", " + i + ", false)",
                    () -> model.at(driver, which, false), () -> real.at(driver, which, false));
            }
        }
    }
}
