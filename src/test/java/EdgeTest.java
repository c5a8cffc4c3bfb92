/** One test for each sentence of the document's promises that names a boundary case. */
public final class EdgeTest {
    /** So often an object may be asked; what later calls answer is free. */
    private static final int CALLS = 512;

    public static void main(String[] args) {
        promises1To3();
        promise4();
        promises5To7();
        promises8To14();
        Check.end("EdgeTest");
    }

    private static void promises1To3() {
        Check.sentence("1: So many drivers (1 .. 512", EdgeTest::soManyDrivers);
        Check.sentence("1: 64 for any other number", EdgeTest::usualDrivers);
        Check.sentence("1: ROOM for so many transactions (1 .. 8192", EdgeTest::soMuchRoom);
        Check.sentence("1: 1024 for any other", EdgeTest::usualRoom);
        Check.sentence("2: when the delay is below 0", EdgeTest::delayBelow);
        Check.sentence("2: or above 2^60", EdgeTest::delayAbove);
        Check.sentence("2: when there are 16", EdgeTest::sixteenElements);
        Check.sentence("3: No element is laid down any more", EdgeTest::noElementAnyMore);
        Check.sentence("3: answers how many were", EdgeTest::howManyWere);
    }

    private static void promise4() {
        Check.sentence("4: then none is any more", EdgeTest::assignTakesElements);
        Check.sentence("4: answers how many old transactions were deleted", EdgeTest::howManyDeleted);
        Check.sentence("4: IndexOutOfBoundsException", EdgeTest::assignToNoDriver);
        Check.sentence("4: when no element is laid down", EdgeTest::assignOfNothing);
        Check.sentence("4: when the mode is not 0 .. 2", EdgeTest::wrongMode);
        Check.sentence("4: the delays do not rise", EdgeTest::delaysDoNotRise);
        Check.sentence("4: a time would be above 2^60", EdgeTest::timeAbove);
        Check.sentence("4: for mode 2, the limit is below 0", EdgeTest::limitBelow);
        Check.sentence("4: or above the first delay", EdgeTest::limitAbove);
        Check.sentence("4: for mode 2", EdgeTest::limitOfOtherModes);
        Check.sentence("4: when all rows together would have more than ROOM", EdgeTest::moreThanRoom);
        Check.sentence("4: would have (what is deleted makes room)", EdgeTest::deletedMakesRoom);
    }

    private static void promises5To7() {
        Check.sentence("5: another value now, and an empty row", EdgeTest::startValueAndRow);
        Check.sentence("5: answers how many transactions it had", EdgeTest::startAnswer);
        Check.sentence("5: IndexOutOfBoundsException", EdgeTest::startOfNoDriver);
        Check.sentence("6: that has transactions at or before it", EdgeTest::atOrBefore);
        Check.sentence("6: takes the value of the last one of them", EdgeTest::lastOneOfThem);
        Check.sentence("6: and these are gone", EdgeTest::theseAreGone);
        Check.sentence("6: no other driver is ACTIVE any more", EdgeTest::noOtherActive);
        Check.sentence("6: Answers how many are", EdgeTest::howManyAreActive);
        Check.sentence("6: when the time is before NOW", EdgeTest::advanceBeforeNow);
        Check.sentence("6: or above 2^60", EdgeTest::advanceAbove);
        Check.sentence("7: from 0 on, in the order of their numbers", EdgeTest::activeInOrder);
        Check.sentence("7: NONE when there is none such", EdgeTest::noSuchActive);
    }

    private static void promises8To14() {
        Check.sentence("8: NOW", EdgeTest::nowEdges);
        Check.sentence("9: The least time of all transactions", EdgeTest::leastTime);
        Check.sentence("9: NONE when there are none", EdgeTest::noNext);
        Check.sentence("10: IndexOutOfBoundsException", EdgeTest::valueOfNoDriver);
        Check.sentence("10: A driver's value", EdgeTest::valueEdges);
        Check.sentence("11: How many transactions a driver's row has", EdgeTest::countEdges);
        Check.sentence("11: IndexOutOfBoundsException", EdgeTest::countOfNoDriver);
        Check.sentence("12: The time, or else the value, of transaction i", EdgeTest::atEdges);
        Check.sentence("12: IndexOutOfBoundsException", EdgeTest::atOfNoDriver);
        Check.sentence("12: also when there is none such", EdgeTest::atOfNoTransaction);
        Check.sentence("13: The value a driver will have at a time", EdgeTest::projectedEdges);
        Check.sentence("13: IndexOutOfBoundsException", EdgeTest::projectedOfNoDriver);
        Check.sentence("13: when the time is before NOW", EdgeTest::projectedBeforeNow);
        Check.sentence("14: How many transactions there are in all", EdgeTest::totalEdges);
    }

    private static void driversDue(int asked, int many) {
        WaveRows x = new WaveRows(asked, 8);
        Check.due("asked for " + asked + ", the last", 0, () -> x.value(many - 1));
        Check.due("asked for " + asked + ", one more", Check.INDEX, () -> x.value(many));
        Check.due("asked for " + asked + ", the last has a row", 0, () -> Rows.carry(x, many - 1, 5, 0));
        Check.due("asked for " + asked + ", the last becomes ACTIVE", 1, () -> x.advance(0));
        Check.due("asked for " + asked + ", the last is ACTIVE", many - 1, () -> x.active(0));
    }

    private static void soManyDrivers() {
        driversDue(1, 1);
        driversDue(2, 2);
        driversDue(63, 63);
        driversDue(65, 65);
        driversDue(511, 511);
        driversDue(512, 512);
    }

    private static void usualDrivers() {
        driversDue(0, 64);
        driversDue(-1, 64);
        driversDue(513, 64);
        driversDue(1024, 64);
        driversDue(65537, 64);
        driversDue(Integer.MIN_VALUE, 64);
        driversDue(Integer.MAX_VALUE, 64);
    }

    /** Lays so many transactions into two rows. */
    private static WaveRows filled(int asked, int many) {
        WaveRows x = new WaveRows(2, asked);
        for (int laid = 0; laid < many; laid++) {
            x.element(laid + 1, laid);
            if (laid % 16 == 15 || laid == many - 1) {
                int driver = laid / 16 % 2;
                Check.due("asked for " + asked + ", up to " + laid, 0, () -> x.assign(driver, Rows.CARRIED, 0));
            }
        }
        Check.due("asked for " + asked, many, x::total);
        Check.due("asked for " + asked + ", the first", 1, () -> x.at(0, 0, false));
        return x;
    }

    private static void fullDue(int room) {
        fullDue(room, room);
    }

    /** Above 470 it goes beyond the 512 calls: where ROOM ends could not be seen otherwise. */
    private static void fullDue(int asked, int room) {
        WaveRows x = filled(asked, room);
        x.element(1, Rows.LAST);
        for (int mode = 1; mode <= 2; mode++) {
            int by = mode;
            Check.due("asked for " + asked + ", one more", Check.STATE, () -> x.assign(0, by, 0));
            Check.due("asked for " + asked + ", still full", room, x::total);
        }
    }

    private static void soMuchRoom() {
        fullDue(1);
        fullDue(2);
        fullDue(15);
        fullDue(16);
        fullDue(17);
        fullDue(63);
        fullDue(64);
        fullDue(65);
        fullDue(128);
        fullDue(129);
        fullDue(470);
        notFullDue(1000);
        notFullDue(8191);
        notFullDue(8192);
        fullDue(1023);
        fullDue(1024);
        fullDue(1025);
        fullDue(8191);
        fullDue(8192);
    }

    /** So much as 512 calls can lay down: 30 assignments of 16 elements. */
    private static void notFullDue(int asked) {
        filled(asked, (CALLS - 2) / 17 * 16);
    }

    private static void usualRoom() {
        int[] others = {0, -1, 8193, 65537, Integer.MIN_VALUE, Integer.MAX_VALUE};
        for (int other : others) {
            notFullDue(other);
            fullDue(other, 1024);
        }
    }

    private static long lay(WaveRows x, long delay) {
        x.element(1, delay);
        return 0;
    }

    private static void delayBelow() {
        WaveRows x = new WaveRows(1, 8);
        Check.due("delay -1", Check.ARGUMENT, () -> lay(x, -1));
        Check.due("delay -2^60", Check.ARGUMENT, () -> lay(x, -Rows.LAST));
        Check.due("the least delay", Check.ARGUMENT, () -> lay(x, Long.MIN_VALUE));
        Check.due("none of them was laid down", 0, x::drop);
        Check.due("delay 0", 0, () -> lay(x, 0));
        Check.due("it was laid down", 1, x::drop);
    }

    private static void delayAbove() {
        WaveRows x = new WaveRows(1, 8);
        Check.due("delay 2^60 + 1", Check.ARGUMENT, () -> lay(x, Rows.LAST + 1));
        Check.due("delay 2^61", Check.ARGUMENT, () -> lay(x, 2 * Rows.LAST));
        Check.due("the greatest delay", Check.ARGUMENT, () -> lay(x, Long.MAX_VALUE));
        Check.due("none of them was laid down", 0, x::drop);
        Check.due("delay 2^60", 0, () -> lay(x, Rows.LAST));
        x.advance(1);
        Check.due("delay 2^60, though its time would be above", 0, () -> lay(x, Rows.LAST));
        Check.due("both were laid down", 2, x::drop);
    }

    private static void sixteenElements() {
        WaveRows x = new WaveRows(1, 8);
        for (int round = 0; round < 2; round++) {
            for (int i = 1; i <= 16; i++) {
                Check.due("element " + i, 0, () -> lay(x, 5));
            }
            Check.due("element 17", Check.STATE, () -> lay(x, 5));
            Check.due("element 17 again", Check.STATE, () -> lay(x, 6));
            Check.due("there are 16", 16, x::drop);
        }
    }

    private static void noElementAnyMore() {
        WaveRows x = new WaveRows(1, 8);
        Rows.lay(x, 1, 5, 2, 6);
        x.drop();
        Check.due("nothing to assign", Check.STATE, () -> x.assign(0, Rows.CARRIED, 0));
        Rows.carry(x, 0, 3, 1);
        Rows.rowDue("what was dropped does not come again", "3@1", x, 0);
        Rows.lay(x, 4, 2);
        x.drop();
        Rows.rowDue("rows stay", "3@1", x, 0);
    }

    private static void howManyWere() {
        WaveRows x = new WaveRows(1, 8);
        Check.due("of a new object", 0, x::drop);
        x.element(1, 1);
        Check.due("one", 1, x::drop);
        Check.due("then none", 0, x::drop);
        for (int i = 0; i < 16; i++) {
            x.element(1, 1);
        }
        Check.due("16", 16, x::drop);
        Check.due("then none", 0, x::drop);
        Rows.carry(x, 0, 1, 1);
        Check.due("none behind an assignment", 0, x::drop);
    }

    private static void assignTakesElements() {
        for (int mode = 0; mode <= 2; mode++) {
            WaveRows x = new WaveRows(2, 8);
            Rows.lay(x, 1, 5, 2, 6);
            x.assign(0, mode, 0);
            int by = mode;
            Check.due("mode " + mode + ", again", Check.STATE, () -> x.assign(1, by, 0));
            Check.due("mode " + mode + ", drop", 0, x::drop);
            Rows.carry(x, 1, 3, 7);
            Rows.rowDue("mode " + mode + ", only what came later", "3@7", x, 1);
        }
    }

    private static void howManyDeleted() {
        deletedDue("an empty row", 0, 1, 0, new long[] {}, 4, 5);
        deletedDue("none", 0, 1, 0, new long[] {1, 3, 2, 4}, 4, 5);
        deletedDue("new ones are not counted", 0, 0, 0, new long[] {}, 1, 5, 2, 6, 1, 7);
        deletedDue("all, at or behind", 3, 1, 0, new long[] {1, 5, 2, 6, 3, 7}, 4, 5);
        deletedDue("all, swallowed", 3, 0, 0, new long[] {1, 2, 2, 3, 3, 4}, 4, 5);
        deletedDue("both together", 2, 0, 0, new long[] {1, 2, 4, 3, 3, 6}, 4, 5);
        deletedDue("both together, but for the limit", 3, 2, 2, new long[] {1, 2, 4, 3, 3, 4, 3, 6}, 4, 5);
        deletedDue("as many as come", 2, 1, 0, new long[] {1, 5, 2, 6}, 4, 5, 5, 6);
        deletedDue("fewer than come", 1, 1, 0, new long[] {1, 4, 2, 6}, 4, 5, 5, 6);
        deletedDue("of the same time and value", 1, 1, 0, new long[] {4, 5}, 4, 5);
    }

    private static void deletedDue(String what, int want, int mode, long limit, long[] old, long... fresh) {
        WaveRows x = new WaveRows(1, 8);
        if (old.length > 0) {
            Rows.carry(x, 0, old);
        }
        Rows.lay(x, fresh);
        Check.due(what, want, () -> x.assign(0, mode, limit));
        Check.due(what + ", left", old.length / 2 - want + fresh.length / 2, () -> x.count(0));
    }

    private static void assignToNoDriver() {
        int[] none = {-1, 2, Integer.MIN_VALUE, Integer.MAX_VALUE};
        WaveRows x = new WaveRows(2, 8);
        Rows.lay(x, 1, 5);
        for (int driver : none) {
            Check.due("driver " + driver, Check.INDEX, () -> x.assign(driver, Rows.CARRIED, 0));
        }
        Check.due("the last driver", 0, () -> x.assign(1, Rows.CARRIED, 0));
    }

    private static void assignOfNothing() {
        WaveRows x = new WaveRows(1, 8);
        for (int mode = 0; mode <= 2; mode++) {
            int by = mode;
            Check.due("a new object, mode " + mode, Check.STATE, () -> x.assign(0, by, 0));
        }
        Rows.lay(x, 1, 5);
        Check.due("one element is enough", 0, () -> x.assign(0, Rows.CARRIED, 0));
        Check.due("behind an assignment", Check.STATE, () -> x.assign(0, Rows.CARRIED, 0));
        Rows.lay(x, 1, 5);
        x.drop();
        Check.due("behind drop", Check.STATE, () -> x.assign(0, Rows.CARRIED, 0));
        Rows.rowDue("the row stays", "1@5", x, 0);
    }

    private static void wrongMode() {
        int[] wrong = {-1, 3, 4, -2, 256, 65536, Integer.MIN_VALUE, Integer.MAX_VALUE};
        for (int mode : wrong) {
            WaveRows x = new WaveRows(1, 8);
            Rows.lay(x, 1, 5);
            Check.due("mode " + mode, Check.ARGUMENT, () -> x.assign(0, mode, 0));
        }
        for (int mode = 0; mode <= 2; mode++) {
            WaveRows x = new WaveRows(1, 8);
            Rows.lay(x, 1, 5);
            int by = mode;
            Check.due("mode " + mode, 0, () -> x.assign(0, by, 0));
        }
    }

    private static void delaysDoNotRise() {
        WaveRows x = new WaveRows(1, 20);
        Rows.lay(x, 1, 5, 2, 5);
        Check.due("5 5", Check.ARGUMENT, () -> x.assign(0, Rows.CARRIED, 0));
        x.drop();
        Rows.lay(x, 1, 5, 2, 4);
        Check.due("5 4", Check.ARGUMENT, () -> x.assign(0, Rows.CARRIED, 0));
        x.drop();
        Rows.lay(x, 1, 5, 2, 4, 3, 6);
        Check.due("5 4 6", Check.ARGUMENT, () -> x.assign(0, Rows.CARRIED, 0));
        x.drop();
        Rows.lay(x, 1, 4, 2, 6, 3, 5);
        Check.due("4 6 5", Check.ARGUMENT, () -> x.assign(0, Rows.CARRIED, 0));
        x.drop();
        Rows.lay(x, 1, 0, 2, 0);
        Check.due("0 0", Check.ARGUMENT, () -> x.assign(0, Rows.CARRIED, 0));
        x.drop();
        Rows.lay(x, 1, 4, 1, 5, 1, 6);
        Check.due("4 5 6, of one value", 0, () -> x.assign(0, Rows.CARRIED, 0));
    }

    private static void timeAbove() {
        WaveRows x = new WaveRows(1, 20);
        x.advance(10);
        Rows.lay(x, 1, Rows.LAST - 9);
        Check.due("2^60 + 1", Check.ARGUMENT, () -> x.assign(0, Rows.CARRIED, 0));
        x.drop();
        Rows.lay(x, 1, Rows.LAST - 10);
        Check.due("2^60", 0, () -> x.assign(0, Rows.CARRIED, 0));
        Rows.lay(x, 1, 1, 2, 2, 3, Rows.LAST - 9);
        Check.due("the last at 2^60 + 1", Check.ARGUMENT, () -> x.assign(0, Rows.CARRIED, 0));
        x.drop();
        Rows.lay(x, 1, 1, 2, 2, 3, Rows.LAST - 10);
        Check.due("the last at 2^60", 1, () -> x.assign(0, Rows.CARRIED, 0));
        x.advance(Rows.LAST);
        Rows.lay(x, 1, 1);
        Check.due("behind the last time", Check.ARGUMENT, () -> x.assign(0, Rows.BY_FIRST_DELAY, 0));
        x.drop();
        Rows.lay(x, 1, Rows.LAST);
        Check.due("far behind the last time", Check.ARGUMENT, () -> x.assign(0, Rows.BY_LIMIT, 0));
        x.drop();
        Rows.lay(x, 1, 0);
        Check.due("at the last time", 0, () -> x.assign(0, Rows.BY_LIMIT, 0));
    }

    private static void limitBelow() {
        long[] wrong = {-1, -2, -Rows.LAST, Long.MIN_VALUE};
        WaveRows x = new WaveRows(1, 8);
        Rows.lay(x, 1, 5);
        for (long limit : wrong) {
            Check.due("limit " + limit, Check.ARGUMENT, () -> x.assign(0, Rows.BY_LIMIT, limit));
        }
        Check.due("limit 0", 0, () -> x.assign(0, Rows.BY_LIMIT, 0));
    }

    private static void limitAbove() {
        long[] wrong = {6, 7, 5 + (1L << 32), Rows.LAST, Long.MAX_VALUE};
        WaveRows x = new WaveRows(1, 8);
        x.advance(50);
        Rows.lay(x, 1, 5, 2, 7);
        for (long limit : wrong) {
            Check.due("limit " + limit, Check.ARGUMENT, () -> x.assign(0, Rows.BY_LIMIT, limit));
        }
        Check.due("limit as the first delay", 0, () -> x.assign(0, Rows.BY_LIMIT, 5));
        Rows.lay(x, 1, 0);
        Check.due("limit 1, first delay 0", Check.ARGUMENT, () -> x.assign(0, Rows.BY_LIMIT, 1));
        Check.due("limit 0, first delay 0", 2, () -> x.assign(0, Rows.BY_LIMIT, 0));
        WaveRows y = new WaveRows(1, 8);
        Rows.lay(y, 1, Rows.LAST);
        Check.due("limit 2^60 + 1", Check.ARGUMENT, () -> y.assign(0, Rows.BY_LIMIT, Rows.LAST + 1));
        Check.due("limit 2^60", 0, () -> y.assign(0, Rows.BY_LIMIT, Rows.LAST));
    }

    private static void limitOfOtherModes() {
        long[] any = {-1, 6, Long.MIN_VALUE, Long.MAX_VALUE};
        for (long limit : any) {
            WaveRows x = new WaveRows(1, 8);
            Rows.lay(x, 1, 5);
            Check.due("mode 0, limit " + limit, 0, () -> x.assign(0, Rows.BY_FIRST_DELAY, limit));
            Rows.lay(x, 1, 5);
            Check.due("mode 1, limit " + limit, 1, () -> x.assign(0, Rows.CARRIED, limit));
        }
    }

    private static void moreThanRoom() {
        WaveRows x = new WaveRows(2, 3);
        Rows.lay(x, 1, 1, 2, 2, 3, 3, 4, 4);
        Check.due("four for an empty object of three", Check.STATE, () -> x.assign(0, Rows.CARRIED, 0));
        Check.due("nothing was laid", 0, x::total);
        x.drop();
        Check.due("three", 0, () -> Rows.carry(x, 0, 1, 1, 2, 2, 3, 3));
        Rows.lay(x, 1, 4);
        Check.due("one more in its row", Check.STATE, () -> x.assign(0, Rows.CARRIED, 0));
        Check.due("one more in another row", Check.STATE, () -> x.assign(1, Rows.CARRIED, 0));
        Check.due("one more, mode 0", Check.STATE, () -> x.assign(1, Rows.BY_FIRST_DELAY, 0));
        Check.due("one more, mode 2", Check.STATE, () -> x.assign(0, Rows.BY_LIMIT, 0));
        WaveRows one = new WaveRows(1, 1);
        Rows.lay(one, 1, 1, 2, 2);
        Check.due("two for a room of one", Check.STATE, () -> one.assign(0, Rows.CARRIED, 0));
    }

    private static void deletedMakesRoom() {
        WaveRows x = new WaveRows(2, 3);
        Rows.carry(x, 0, 1, 1, 2, 2, 3, 3);
        Check.due("one at, in a full object", 1, () -> Rows.carry(x, 0, 4, 3));
        Check.due("all at or behind", 3, () -> Rows.carry(x, 0, 1, 1, 2, 2, 3, 3));
        Rows.lay(x, 4, 4);
        Check.due("one swallowed", 1, () -> x.assign(0, Rows.BY_LIMIT, 1));
        Rows.rowDue("one swallowed", "1@1 2@2 4@4", x, 0);
        Rows.lay(x, 5, 5, 6, 6);
        Check.due("one swallowed, but two come", Check.STATE, () -> x.assign(0, Rows.BY_LIMIT, 1));
        Check.due("two come for three", 3, () -> x.assign(0, Rows.BY_FIRST_DELAY, 0));
        Rows.rowDue("two come for three", "5@5 6@6", x, 0);
        Check.due("so there is room for one", 0, () -> Rows.carry(x, 1, 7, 7));
        Rows.lay(x, 7, 7);
        Check.due("what is deleted in one row makes room for it alone", Check.STATE,
            () -> x.assign(0, Rows.CARRIED, 0));
        Check.due("start makes room", 2, () -> x.start(0, 0));
        Check.due("start made room", 0, () -> x.assign(0, Rows.CARRIED, 0));
        Rows.carry(x, 0, 8, 7, 9, 8);
        Rows.lay(x, 9, 9);
        Check.due("full again", Check.STATE, () -> x.assign(0, Rows.CARRIED, 0));
        x.advance(7);
        Check.due("time makes room", 0, () -> x.assign(0, Rows.CARRIED, 0));
        Rows.rowDue("time makes room", "9@8 9@16", x, 0);
    }

    private static void startValueAndRow() {
        WaveRows x = new WaveRows(3, 6);
        Rows.carry(x, 0, 1, 1, 2, 2);
        Rows.carry(x, 1, 3, 1, 4, 2);
        Rows.carry(x, 2, 5, 1, 6, 2);
        x.start(1, Long.MIN_VALUE);
        Check.due("the least value", Long.MIN_VALUE, () -> x.value(1));
        Rows.rowDue("its row", "", x, 1);
        Rows.rowDue("the row before", "1@1 2@2", x, 0);
        Rows.rowDue("the row behind", "5@1 6@2", x, 2);
        Check.due("the value before", 0, () -> x.value(0));
        Check.due("the value behind", 0, () -> x.value(2));
        x.start(0, Long.MAX_VALUE);
        Check.due("the first driver", Long.MAX_VALUE, () -> x.value(0));
        Rows.rowDue("the first driver", "", x, 0);
        x.start(2, -1);
        Check.due("the last driver", -1, () -> x.value(2));
        Check.due("all are empty", 0, x::total);
        x.start(2, -1);
        Check.due("the same value again", -1, () -> x.value(2));
        Check.due("nothing comes any more", 0, () -> x.advance(2));
        Check.due("the value stays", Long.MIN_VALUE, () -> x.value(1));
    }

    private static void startAnswer() {
        WaveRows x = new WaveRows(2, 20);
        Check.due("of a new object", 0, () -> x.start(0, 1));
        for (int i = 0; i < 16; i++) {
            x.element(1, i);
        }
        x.assign(0, Rows.CARRIED, 0);
        Check.due("of another row", 0, () -> x.start(1, 1));
        Check.due("16", 16, () -> x.start(0, 1));
        Check.due("then none", 0, () -> x.start(0, 1));
    }

    private static void startOfNoDriver() {
        int[] none = {-1, 2, Integer.MIN_VALUE, Integer.MAX_VALUE};
        WaveRows x = new WaveRows(2, 8);
        for (int driver : none) {
            Check.due("driver " + driver, Check.INDEX, () -> x.start(driver, 1));
        }
        Check.due("the last driver", 0, () -> x.start(1, 1));
    }

    private static void atOrBefore() {
        WaveRows x = new WaveRows(4, 8);
        Rows.carry(x, 0, 1, 9);
        Rows.carry(x, 1, 2, 10);
        Rows.carry(x, 2, 3, 11);
        Check.due("one before, one at, one behind, one empty", 2, () -> x.advance(10));
        Check.due("before", 1, () -> x.value(0));
        Check.due("at", 2, () -> x.value(1));
        Check.due("behind", 0, () -> x.value(2));
        Check.due("empty", 0, () -> x.value(3));
        Rows.carry(x, 3, 4, 0);
        Check.due("to NOW, one at NOW", 1, () -> x.advance(10));
        Check.due("to NOW, one at NOW", 4, () -> x.value(3));
        Check.due("to NOW, none", 0, () -> x.advance(10));
        WaveRows y = new WaveRows(1, 8);
        Rows.carry(y, 0, 5, 0);
        Check.due("to 0, of a new object", 1, () -> y.advance(0));
        Rows.carry(y, 0, 6, Rows.LAST);
        Check.due("right before 2^60", 0, () -> y.advance(Rows.LAST - 1));
        Check.due("at 2^60", 1, () -> y.advance(Rows.LAST));
        Check.due("at 2^60", 6, () -> y.value(0));
        Rows.carry(y, 0, 6, 0);
        Check.due("ACTIVE, though the value is the same", 1, () -> y.advance(Rows.LAST));
    }

    private static void lastOneOfThem() {
        WaveRows x = new WaveRows(1, 8);
        Rows.carry(x, 0, 1, 5, 2, 6, 3, 7, 4, 8);
        x.advance(7);
        Check.due("the third of three", 3, () -> x.value(0));
        x.advance(100);
        Check.due("the last of all", 4, () -> x.value(0));
        Rows.carry(x, 0, 9, 0, 8, 1, 0, 2);
        x.advance(102);
        Check.due("0, behind others", 0, () -> x.value(0));
    }

    private static void theseAreGone() {
        WaveRows x = new WaveRows(3, 8);
        Rows.carry(x, 0, 1, 5, 2, 6);
        Rows.carry(x, 1, 3, 6, 4, 7);
        Rows.carry(x, 2, 5, 7, 6, 8);
        x.advance(6);
        Rows.rowDue("all", "", x, 0);
        Rows.rowDue("some", "4@7", x, 1);
        Rows.rowDue("none", "5@7 6@8", x, 2);
        Check.due("total", 3, x::total);
        Check.due("next", 7, x::next);
        x.advance(Rows.LAST);
        Check.due("all", 0, x::total);
    }

    private static void noOtherActive() {
        WaveRows x = new WaveRows(3, 8);
        Rows.carry(x, 0, 1, 5);
        Rows.carry(x, 1, 2, 5, 3, 6);
        Rows.carry(x, 2, 4, 6);
        x.advance(5);
        Check.due("0", 0, () -> x.active(0));
        Check.due("1", 1, () -> x.active(1));
        x.advance(6);
        Check.due("1 again", 1, () -> x.active(0));
        Check.due("2", 2, () -> x.active(1));
        Check.due("0 no more", -1, () -> x.active(2));
        x.advance(6);
        Check.due("none, though time stands", -1, () -> x.active(0));
    }

    private static void howManyAreActive() {
        WaveRows x = new WaveRows(512, 8);
        Check.due("none", 0, () -> x.advance(0));
        Rows.carry(x, 0, 1, 1, 2, 2, 3, 3);
        Rows.carry(x, 511, 1, 2);
        Check.due("drivers are counted, not transactions", 2, () -> x.advance(3));
        WaveRows all = new WaveRows(100, 100);
        for (int d = 0; d < 100; d++) {
            Rows.carry(all, d, 1, 1);
        }
        Check.due("all", 100, () -> all.advance(1));
        Check.due("the last of all", 99, () -> all.active(99));
        Check.due("then none", 0, () -> all.advance(2));
    }

    private static void advanceBeforeNow() {
        WaveRows x = new WaveRows(1, 8);
        Check.due("-1", Check.ARGUMENT, () -> x.advance(-1));
        x.advance(10);
        Check.due("9", Check.ARGUMENT, () -> x.advance(9));
        Check.due("0", Check.ARGUMENT, () -> x.advance(0));
        Check.due("NONE", Check.ARGUMENT, () -> x.advance(x.next()));
        Check.due("the least", Check.ARGUMENT, () -> x.advance(Long.MIN_VALUE));
        Check.due("now", 10, x::now);
        Check.due("10", 0, () -> x.advance(10));
        Check.due("11", 0, () -> x.advance(11));
    }

    private static void advanceAbove() {
        WaveRows x = new WaveRows(1, 8);
        Check.due("2^60 + 1", Check.ARGUMENT, () -> x.advance(Rows.LAST + 1));
        Check.due("the greatest", Check.ARGUMENT, () -> x.advance(Long.MAX_VALUE));
        Check.due("now", 0, x::now);
        Check.due("2^60", 0, () -> x.advance(Rows.LAST));
        Check.due("2^60 again", 0, () -> x.advance(Rows.LAST));
        Check.due("2^60 + 1 from there", Check.ARGUMENT, () -> x.advance(Rows.LAST + 1));
    }

    private static void activeInOrder() {
        WaveRows x = new WaveRows(512, 8);
        int[] laid = {300, 511, 0, 7};
        for (int driver : laid) {
            Rows.carry(x, driver, 1, 512 - driver);
        }
        x.advance(512);
        int[] due = {0, 7, 300, 511};
        for (int i = 0; i < due.length; i++) {
            int which = i;
            Check.due("active(" + i + ")", due[i], () -> x.active(which));
        }
    }

    private static void noSuchActive() {
        WaveRows x = new WaveRows(2, 8);
        int[] wrong = {-1, Integer.MIN_VALUE, 2, 3, Integer.MAX_VALUE};
        Check.due("active(0) of a new object", -1, () -> x.active(0));
        Rows.carry(x, 1, 1, 1);
        Check.due("active(0) before time goes on", -1, () -> x.active(0));
        x.advance(1);
        Check.due("active(0)", 1, () -> x.active(0));
        Check.due("active(1), behind the last", -1, () -> x.active(1));
        for (int i : wrong) {
            Check.due("active(" + i + ")", -1, () -> x.active(i));
        }
        Rows.carry(x, 0, 1, 1);
        Rows.carry(x, 1, 1, 1);
        x.advance(2);
        Check.due("active(1) of all", 1, () -> x.active(1));
        for (int i : wrong) {
            Check.due("active(" + i + ") of all", -1, () -> x.active(i));
        }
        x.advance(3);
        Check.due("active(0) when none is any more", -1, () -> x.active(0));
    }

    private static void nowEdges() {
        WaveRows x = new WaveRows(1, 8);
        Check.due("a new object", 0, x::now);
        x.advance(0);
        Check.due("to 0", 0, x::now);
        x.advance(5);
        Check.due("to 5, where no transaction is", 5, x::now);
        Rows.carry(x, 0, 1, 3, 2, 4);
        Check.due("an assignment does not move it", 5, x::now);
        x.advance(20);
        Check.due("over transactions", 20, x::now);
        x.advance(Rows.LAST);
        Check.due("to 2^60", Rows.LAST, x::now);
        Check.due("refused", Check.ARGUMENT, () -> x.advance(Rows.LAST + 1));
        Check.due("behind a refused call", Rows.LAST, x::now);
    }

    private static void leastTime() {
        WaveRows x = new WaveRows(3, 8);
        Rows.carry(x, 2, 1, Rows.LAST);
        Check.due("2^60, of the last driver", Rows.LAST, x::next);
        Rows.carry(x, 1, 1, 8, 1, 9);
        Check.due("the first of its row", 8, x::next);
        Rows.carry(x, 0, 1, 9);
        Check.due("not the first driver's", 8, x::next);
        Rows.carry(x, 2, 1, 7);
        Check.due("the last driver's", 7, x::next);
        Rows.carry(x, 0, 1, 0);
        Check.due("0 is a time", 0, x::next);
        x.advance(0);
        Check.due("it is gone", 7, x::next);
        WaveRows y = new WaveRows(2, 8);
        Rows.carry(y, 0, 1, 0);
        Rows.carry(y, 1, 1, 4);
        Check.due("0, before later ones", 0, y::next);
    }

    private static void noNext() {
        WaveRows x = new WaveRows(2, 8);
        Check.due("a new object", WaveRows.NONE, x::next);
        x.element(1, 3);
        Check.due("an element is no transaction", -1, x::next);
        x.assign(1, Rows.CARRIED, 0);
        Check.due("one", 3, x::next);
        x.advance(3);
        Check.due("gone by time", -1, x::next);
        Rows.carry(x, 0, 1, 5);
        x.start(0, 0);
        Check.due("gone by start", -1, x::next);
    }

    private static void valueOfNoDriver() {
        int[] none = {-1, 2, Integer.MIN_VALUE, Integer.MAX_VALUE};
        WaveRows x = new WaveRows(2, 8);
        for (int driver : none) {
            Check.due("driver " + driver, Check.INDEX, () -> x.value(driver));
        }
        Check.due("the last driver", 0, () -> x.value(1));
    }

    private static void valueEdges() {
        WaveRows x = new WaveRows(2, 8);
        Check.due("at first", 0, () -> x.value(0));
        Rows.carry(x, 0, Long.MAX_VALUE, 0, Long.MIN_VALUE, 1);
        Check.due("one at NOW is not taken before time goes on", 0, () -> x.value(0));
        x.advance(0);
        Check.due("the greatest", Long.MAX_VALUE, () -> x.value(0));
        x.advance(1);
        Check.due("the least", Long.MIN_VALUE, () -> x.value(0));
        Check.due("the other driver's", 0, () -> x.value(1));
    }

    private static void countEdges() {
        WaveRows x = new WaveRows(3, 32);
        Check.due("an empty row", 0, () -> x.count(1));
        Rows.carry(x, 0, 1, 1, 1, 2);
        Check.due("an empty row behind another", 0, () -> x.count(1));
        x.advance(2);
        for (int i = 0; i < 32; i++) {
            x.element(1, i);
            if (i % 16 == 15) {
                x.assign(1, Rows.CARRIED, 0);
            }
        }
        Check.due("the whole ROOM", 32, () -> x.count(1));
        Check.due("the row before", 0, () -> x.count(0));
        Check.due("the row behind", 0, () -> x.count(2));
        x.advance(32);
        Check.due("the last one", 1, () -> x.count(1));
        x.advance(33);
        Check.due("none", 0, () -> x.count(1));
    }

    private static void countOfNoDriver() {
        int[] none = {-1, 2, Integer.MIN_VALUE, Integer.MAX_VALUE};
        WaveRows x = new WaveRows(2, 8);
        for (int driver : none) {
            Check.due("driver " + driver, Check.INDEX, () -> x.count(driver));
        }
        Check.due("the last driver", 0, () -> x.count(1));
    }

    private static WaveRows threeRows() {
        WaveRows x = new WaveRows(3, 8);
        Rows.carry(x, 0, 10, 1);
        Rows.carry(x, 1, 20, 2, 30, 3);
        Rows.carry(x, 2, 40, 4);
        return x;
    }

    private static void atEdges() {
        WaveRows x = threeRows();
        Check.due("the first one's time", 2, () -> x.at(1, 0, true));
        Check.due("the first one's value", 20, () -> x.at(1, 0, false));
        Check.due("the last one's time", 3, () -> x.at(1, 1, true));
        Check.due("the last one's value", 30, () -> x.at(1, 1, false));
        x.advance(2);
        Check.due("0 is the first that is left", 3, () -> x.at(1, 0, true));
        Check.due("its value", 30, () -> x.at(1, 0, false));
        Rows.carry(x, 0, Long.MIN_VALUE, 0, Long.MAX_VALUE, Rows.LAST - 2);
        Check.due("a time at NOW", 2, () -> x.at(0, 0, true));
        Check.due("the least value", Long.MIN_VALUE, () -> x.at(0, 0, false));
        Check.due("2^60", Rows.LAST, () -> x.at(0, 1, true));
        Check.due("the greatest value", Long.MAX_VALUE, () -> x.at(0, 1, false));
    }

    private static void atOfNoDriver() {
        int[] none = {-1, 3, Integer.MIN_VALUE, Integer.MAX_VALUE};
        WaveRows x = threeRows();
        for (int driver : none) {
            Check.due("time of driver " + driver, Check.INDEX, () -> x.at(driver, 0, true));
            Check.due("value of driver " + driver, Check.INDEX, () -> x.at(driver, 0, false));
            Check.due("driver " + driver + ", transaction -1", Check.INDEX, () -> x.at(driver, -1, true));
        }
        Check.due("the last driver", 4, () -> x.at(2, 0, true));
    }

    private static void atOfNoTransaction() {
        int[] none = {-1, -2, 2, 3, Integer.MIN_VALUE, Integer.MAX_VALUE, Integer.MAX_VALUE - 1};
        WaveRows x = threeRows();
        for (int i : none) {
            Check.due("time of " + i, Check.INDEX, () -> x.at(1, i, true));
            Check.due("value of " + i, Check.INDEX, () -> x.at(1, i, false));
        }
        Check.due("behind the last of the last row", Check.INDEX, () -> x.at(2, 1, true));
        Check.due("before the first of the first row", Check.INDEX, () -> x.at(0, -1, true));
        x.start(1, 0);
        Check.due("an empty row between others, time", Check.INDEX, () -> x.at(1, 0, true));
        Check.due("an empty row between others, value", Check.INDEX, () -> x.at(1, 0, false));
        x.advance(4);
        Check.due("what is gone by time", Check.INDEX, () -> x.at(2, 0, true));
        Check.due("a new object", Check.INDEX, () -> new WaveRows(1, 1).at(0, 0, true));
        WaveRows full = new WaveRows(1, 1);
        Rows.carry(full, 0, 5, 6);
        Check.due("the last of a full object", 6, () -> full.at(0, 0, true));
        Check.due("behind the last of a full object", Check.INDEX, () -> full.at(0, 1, true));
    }

    private static void projectedEdges() {
        WaveRows x = new WaveRows(2, 8);
        x.start(0, -5);
        Check.due("an empty row", -5, () -> x.projected(0, 0));
        Check.due("an empty row, at 2^60", -5, () -> x.projected(0, Rows.LAST));
        Rows.carry(x, 0, 1, 10, 2, 20);
        Check.due("at NOW", -5, () -> x.projected(0, 0));
        Check.due("right before the first", -5, () -> x.projected(0, 9));
        Check.due("at the first", 1, () -> x.projected(0, 10));
        Check.due("right before the last", 1, () -> x.projected(0, 19));
        Check.due("at the last", 2, () -> x.projected(0, 20));
        Check.due("at 2^60", 2, () -> x.projected(0, Rows.LAST));
        Check.due("above 2^60, which the promise does not refuse", 2, () -> x.projected(0, Rows.LAST + 1));
        Check.due("at the greatest", 2, () -> x.projected(0, Long.MAX_VALUE));
        Check.due("the other driver", 0, () -> x.projected(1, Rows.LAST));
        Check.due("it is only asked", -5, () -> x.value(0));
        Rows.rowDue("it is only asked", "1@10 2@20", x, 0);
        x.element(9, 0);
        Check.due("an element is not assigned yet", -5, () -> x.projected(0, 0));
        x.assign(0, Rows.CARRIED, 0);
        Check.due("one at NOW counts at NOW", 9, () -> x.projected(0, 0));
        Check.due("though it is not taken yet", -5, () -> x.value(0));
    }

    private static void projectedOfNoDriver() {
        int[] none = {-1, 2, Integer.MIN_VALUE, Integer.MAX_VALUE};
        WaveRows x = new WaveRows(2, 8);
        for (int driver : none) {
            Check.due("driver " + driver, Check.INDEX, () -> x.projected(driver, 5));
        }
        Check.due("the last driver", 0, () -> x.projected(1, 5));
    }

    private static void projectedBeforeNow() {
        WaveRows x = new WaveRows(1, 8);
        Check.due("-1", Check.ARGUMENT, () -> x.projected(0, -1));
        Check.due("the least", Check.ARGUMENT, () -> x.projected(0, Long.MIN_VALUE));
        Check.due("0", 0, () -> x.projected(0, 0));
        x.start(0, 3);
        x.advance(10);
        Check.due("9", Check.ARGUMENT, () -> x.projected(0, 9));
        Check.due("0 of later", Check.ARGUMENT, () -> x.projected(0, 0));
        Check.due("10", 3, () -> x.projected(0, 10));
        x.advance(Rows.LAST);
        Check.due("2^60 - 1", Check.ARGUMENT, () -> x.projected(0, Rows.LAST - 1));
        Check.due("2^60", 3, () -> x.projected(0, Rows.LAST));
    }

    private static void totalEdges() {
        WaveRows x = new WaveRows(3, 5);
        Check.due("a new object", 0, x::total);
        Rows.lay(x, 1, 1, 2, 2);
        Check.due("elements are no transactions", 0, x::total);
        x.assign(0, Rows.CARRIED, 0);
        Check.due("two", 2, x::total);
        Rows.carry(x, 2, 1, 1, 2, 2, 3, 3);
        Check.due("the whole ROOM", 5, x::total);
        Rows.lay(x, 1, 4);
        Check.due("refused", Check.STATE, () -> x.assign(2, Rows.CARRIED, 0));
        Check.due("still the whole ROOM", 5, x::total);
        Check.due("fewer by an assignment", 3, () -> {
            x.drop();
            return Rows.carry(x, 2, 9, 1);
        });
        Check.due("three", 3, x::total);
        x.start(2, 0);
        Check.due("fewer by start", 2, x::total);
        x.advance(1);
        Check.due("fewer by time", 1, x::total);
        x.advance(2);
        Check.due("none", 0, x::total);
    }
}
