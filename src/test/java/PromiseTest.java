/** One method a promise: ordinary inputs, the edges that the document names, and wrong inputs. */
public final class PromiseTest {
    public static void main(String[] args) {
        promise1NewObject();
        promise1Room();
        promise2Element();
        promise3Drop();
        promise4Carried();
        promise4FirstDelay();
        promise4GivenLimit();
        promise4Exceptions();
        promise4ThrowsChangeNothing();
        promise4Room();
        promise4Order();
        promise4NeighbourRows();
        promise5Start();
        promise6Advance();
        promise6Exceptions();
        promise7Active();
        promise8Now();
        promise9Next();
        promise10Value();
        promise11Count();
        promise12At();
        promise13Projected();
        promise14Total();
        Check.end("PromiseTest");
    }

    private static void driversDue(int asked, int many) {
        WaveRows x = new WaveRows(asked, 8);
        Check.due("drivers " + asked + ", the last", 0, () -> x.value(many - 1));
        Check.due("drivers " + asked + ", one more", Check.INDEX, () -> x.value(many));
    }

    private static void promise1NewObject() {
        driversDue(1, 1);
        driversDue(2, 2);
        driversDue(511, 511);
        driversDue(512, 512);
        driversDue(0, 64);
        driversDue(-1, 64);
        driversDue(513, 64);
        driversDue(Integer.MIN_VALUE, 64);
        driversDue(Integer.MAX_VALUE, 64);
        WaveRows x = new WaveRows(3, 8);
        Check.due("new now", 0, x::now);
        Check.due("new next", -1, x::next);
        Check.due("new total", 0, x::total);
        Check.due("new active", -1, () -> x.active(0));
        Check.due("new drop", 0, x::drop);
        for (int d = 0; d < 3; d++) {
            int driver = d;
            Check.due("new value", 0, () -> x.value(driver));
            Check.due("new count", 0, () -> x.count(driver));
        }
    }

    private static void promise1Room() {
        roomDue(1, 1);
        roomDue(2, 2);
        roomDue(63, 63);
        roomDue(64, 64);
        roomDue(65, 65);
        roomDue(200, 200);
        // 512 calls cannot fill these, but nothing is lost by asking.
        roomDue(8191, 8191);
        roomDue(8192, 8192);
        roomDue(0, 1024);
        roomDue(-1, 1024);
        roomDue(8193, 1024);
        roomDue(Integer.MIN_VALUE, 1024);
        roomDue(Integer.MAX_VALUE, 1024);
    }

    private static void roomDue(int asked, int room) {
        WaveRows x = new WaveRows(2, asked);
        int driver = 0;
        for (int laid = 0; laid < room; laid++) {
            x.element(laid, laid);
            if (laid % 16 == 15 || laid == room - 1) {
                int to = driver;
                Check.due("room " + asked + ", filling", 0, () -> x.assign(to, Rows.CARRIED, 0));
                driver = 1 - driver;
            }
        }
        Check.due("room " + asked + ", full", room, x::total);
        x.element(1, Rows.LAST);
        Check.due("room " + asked + ", one too many", Check.STATE, () -> x.assign(0, Rows.CARRIED, 0));
        Check.due("room " + asked + ", still full", room, x::total);
        for (int i = 0; i < x.count(0); i++) {
            int which = i;
            long at = i % 16 + 32L * (i / 16);
            Check.due("room " + asked + ", time " + i, at, () -> x.at(0, which, true));
            Check.due("room " + asked + ", value " + i, at, () -> x.at(0, which, false));
        }
    }

    private static void elementDue(WaveRows x, String want, long value, long delay) {
        Check.same("element(" + value + ", " + delay + ")", want, Check.said(() -> x.element(value, delay)));
    }

    private static void promise2Element() {
        WaveRows x = new WaveRows(1, 100);
        elementDue(x, Check.ARGUMENT, 1, -1);
        elementDue(x, Check.ARGUMENT, 1, Long.MIN_VALUE);
        elementDue(x, Check.ARGUMENT, 1, Rows.LAST + 1);
        elementDue(x, Check.ARGUMENT, 1, Long.MAX_VALUE);
        Check.due("none was laid down", 0, x::drop);
        elementDue(x, Check.DONE, Long.MIN_VALUE, 0);
        elementDue(x, Check.DONE, Long.MAX_VALUE, Rows.LAST);
        Check.due("assign both", 0, () -> x.assign(0, Rows.CARRIED, 0));
        Rows.rowDue("edges", Long.MIN_VALUE + "@0 " + Long.MAX_VALUE + "@" + Rows.LAST, x, 0);
        for (int i = 0; i < 16; i++) {
            elementDue(x, Check.DONE, i, 16 - i);
        }
        elementDue(x, Check.STATE, 16, 17);
        elementDue(x, Check.ARGUMENT, 16, -1);
        elementDue(x, Check.ARGUMENT, 16, Rows.LAST + 1);
        Check.due("16 are laid down", 16, x::drop);
        elementDue(x, Check.DONE, 16, 17);
    }

    private static void promise3Drop() {
        WaveRows x = new WaveRows(1, 8);
        Check.due("drop of none", 0, x::drop);
        Rows.lay(x, 1, 5, 2, 4);
        Check.due("drop of two", 2, x::drop);
        Check.due("drop again", 0, x::drop);
        Check.due("nothing to assign", Check.STATE, () -> x.assign(0, Rows.CARRIED, 0));
        Rows.carry(x, 0, 7, 3);
        Rows.rowDue("what was dropped does not come back", "7@3", x, 0);
        Check.due("an assignment takes them", 0, x::drop);
    }

    private static void promise4Carried() {
        WaveRows x = new WaveRows(2, 20);
        Check.due("first", 0, () -> Rows.carry(x, 0, 1, 10, 2, 20, 3, 30));
        Check.due("behind", 0, () -> Rows.carry(x, 0, 4, 31));
        Rows.rowDue("behind", "1@10 2@20 3@30 4@31", x, 0);
        Check.due("at a time that is there", 2, () -> Rows.carry(x, 0, 5, 30, 6, 40));
        Rows.rowDue("at a time that is there", "1@10 2@20 5@30 6@40", x, 0);
        Check.due("in the midst", 3, () -> Rows.carry(x, 0, 7, 11));
        Rows.rowDue("in the midst", "1@10 7@11", x, 0);
        Check.due("before all", 2, () -> Rows.carry(x, 0, 8, 9, 9, 12));
        Rows.rowDue("before all", "8@9 9@12", x, 0);
        x.advance(9);
        Check.due("delays count from NOW", 1, () -> Rows.carry(x, 0, 1, 3, 1, 4));
        Rows.rowDue("delays count from NOW", "1@12 1@13", x, 0);
        Rows.lay(x, 2, 1);
        Check.due("mode 1 takes any limit", 2, () -> x.assign(0, Rows.CARRIED, Long.MIN_VALUE));
        Rows.lay(x, 3, 2);
        Check.due("mode 1 takes any limit", 0, () -> x.assign(0, Rows.CARRIED, Long.MAX_VALUE));
        Rows.rowDue("mode 1 takes any limit", "2@10 3@11", x, 0);
        Check.due("elements laid down before time goes on", 0, () -> {
            x.element(5, 100);
            x.advance(50);
            return x.assign(1, Rows.CARRIED, 0);
        });
        Rows.rowDue("elements laid down before time goes on", "5@150", x, 1);
    }

    private static void promise4FirstDelay() {
        WaveRows x = new WaveRows(1, 20);
        Rows.carry(x, 0, 1, 10, 2, 20, 1, 30, 1, 40);
        Rows.lay(x, 1, 50, 3, 60);
        Check.due("same values before the first new one stay", 2,
            () -> x.assign(0, Rows.BY_FIRST_DELAY, Long.MIN_VALUE));
        Rows.rowDue("same values stay", "1@30 1@40 1@50 3@60", x, 0);
        Rows.lay(x, 1, 70);
        Check.due("behind another value none stays", 4, () -> x.assign(0, Rows.BY_FIRST_DELAY, Long.MAX_VALUE));
        Rows.rowDue("behind another value none stays", "1@70", x, 0);
        Rows.lay(x, 1, 70);
        Check.due("the one at the same time is deleted", 1, () -> x.assign(0, Rows.BY_FIRST_DELAY, 0));
        Rows.rowDue("the one at the same time is deleted", "1@70", x, 0);
        Rows.carry(x, 0, 4, 0, 1, 5);
        Rows.lay(x, 1, 6);
        Check.due("one at NOW can be swallowed", 1, () -> x.assign(0, Rows.BY_FIRST_DELAY, 0));
        Rows.rowDue("one at NOW can be swallowed", "1@5 1@6", x, 0);
        Rows.lay(x, 2, 0, 2, 1);
        Check.due("delay 0", 2, () -> x.assign(0, Rows.BY_FIRST_DELAY, 0));
        Rows.rowDue("new ones all stay", "2@0 2@1", x, 0);
    }

    private static void promise4GivenLimit() {
        limitDue("limit 0 swallows nothing", 0, 0, "1@10 0@12 1@14 0@16 1@18 1@20");
        limitDue("the last has the same value", 2, 0, "1@10 0@12 1@14 0@16 1@18 1@20");
        limitDue("one less than the pulse", 3, 0, "1@10 0@12 1@14 0@16 1@18 1@20");
        limitDue("the pulse at the limit is swallowed", 4, 1, "1@10 0@12 1@14 1@18 1@20");
        limitDue("the same value behind a swallowed one", 6, 2, "1@10 0@12 1@18 1@20");
        limitDue("up to the first", 9, 3, "1@10 1@18 1@20");
        limitDue("the first too", 10, 4, "1@18 1@20");
        limitDue("limit as the first delay", 20, 4, "1@18 1@20");
        WaveRows x = new WaveRows(1, 20);
        Rows.carry(x, 0, 5, 10, 6, 12, 7, 14, 8, 30);
        Rows.lay(x, 9, 13, 7, 14);
        Check.due("cut and swallow count together", 3, () -> x.assign(0, Rows.BY_LIMIT, 1));
        Rows.rowDue("cut and swallow", "5@10 9@13 7@14", x, 0);
        x.advance(10);
        Rows.carry(x, 0, 1, 5, 1, 6, 2, 7);
        Rows.lay(x, 2, 8);
        Check.due("the limit goes back from the first new time", 1, () -> x.assign(0, Rows.BY_LIMIT, 2));
        Rows.rowDue("the limit after time went on", "9@13 7@14 1@15 2@17 2@18", x, 0);
    }

    private static void limitDue(String what, long limit, long deleted, String want) {
        WaveRows x = new WaveRows(1, 20);
        Rows.carry(x, 0, 1, 10, 0, 12, 1, 14, 0, 16, 1, 18);
        Rows.lay(x, 1, 20);
        Check.due(what, deleted, () -> x.assign(0, Rows.BY_LIMIT, limit));
        Rows.rowDue(what, want, x, 0);
    }

    private static void promise4Exceptions() {
        WaveRows x = new WaveRows(2, 8);
        Check.due("no element", Check.STATE, () -> x.assign(0, Rows.CARRIED, 0));
        Rows.lay(x, 1, 5, 2, 6);
        Check.due("driver -1", Check.INDEX, () -> x.assign(-1, Rows.CARRIED, 0));
        Check.due("driver 2", Check.INDEX, () -> x.assign(2, Rows.CARRIED, 0));
        Check.due("driver least", Check.INDEX, () -> x.assign(Integer.MIN_VALUE, Rows.CARRIED, 0));
        Check.due("driver most", Check.INDEX, () -> x.assign(Integer.MAX_VALUE, Rows.CARRIED, 0));
        Check.due("mode -1", Check.ARGUMENT, () -> x.assign(0, -1, 0));
        Check.due("mode 3", Check.ARGUMENT, () -> x.assign(0, 3, 0));
        Check.due("mode least", Check.ARGUMENT, () -> x.assign(0, Integer.MIN_VALUE, 0));
        Check.due("mode most", Check.ARGUMENT, () -> x.assign(0, Integer.MAX_VALUE, 0));
        Check.due("limit -1", Check.ARGUMENT, () -> x.assign(0, Rows.BY_LIMIT, -1));
        Check.due("limit 6", Check.ARGUMENT, () -> x.assign(0, Rows.BY_LIMIT, 6));
        Check.due("limit least", Check.ARGUMENT, () -> x.assign(0, Rows.BY_LIMIT, Long.MIN_VALUE));
        Check.due("limit most", Check.ARGUMENT, () -> x.assign(0, Rows.BY_LIMIT, Long.MAX_VALUE));
        Check.due("limit 5", 0, () -> x.assign(0, Rows.BY_LIMIT, 5));
        Rows.lay(x, 1, 5, 2, 5);
        Check.due("equal delays", Check.ARGUMENT, () -> x.assign(0, Rows.CARRIED, 0));
        Check.due("equal delays", Check.ARGUMENT, () -> x.assign(0, Rows.BY_FIRST_DELAY, 0));
        Check.due("equal delays", Check.ARGUMENT, () -> x.assign(0, Rows.BY_LIMIT, 0));
        x.drop();
        Rows.lay(x, 1, 5, 2, 6, 3, 4);
        Check.due("falling delays", Check.ARGUMENT, () -> x.assign(0, Rows.CARRIED, 0));
        x.drop();
        x.advance(1);
        Rows.lay(x, 1, 0, 2, Rows.LAST);
        Check.due("time above 2^60", Check.ARGUMENT, () -> x.assign(0, Rows.CARRIED, 0));
        x.drop();
        Rows.lay(x, 1, 0, 2, Rows.LAST - 1);
        Check.due("time 2^60", 2, () -> x.assign(0, Rows.CARRIED, 0));
        Rows.rowDue("time 2^60", "1@1 2@" + Rows.LAST, x, 0);
        x.advance(Rows.LAST);
        Rows.lay(x, 1, Rows.LAST);
        Check.due("time 2^61", Check.ARGUMENT, () -> x.assign(0, Rows.CARRIED, 0));
    }

    private static void promise4ThrowsChangeNothing() {
        WaveRows x = new WaveRows(1, 3);
        Rows.carry(x, 0, 1, 5, 2, 6, 3, 7);
        Rows.lay(x, 4, 7, 5, 8);
        for (int i = 0; i < 2; i++) {
            Check.due("no room", Check.STATE, () -> x.assign(0, Rows.CARRIED, 0));
            Check.due("wrong mode", Check.ARGUMENT, () -> x.assign(0, 3, 0));
            Check.due("wrong driver", Check.INDEX, () -> x.assign(1, Rows.CARRIED, 0));
            Rows.rowDue("after exceptions", "1@5 2@6 3@7", x, 0);
            Check.due("total after exceptions", 3, x::total);
        }
        Check.due("elements stayed", 3, () -> x.assign(0, Rows.BY_FIRST_DELAY, 0));
        Rows.rowDue("elements stayed", "4@7 5@8", x, 0);
        Check.due("elements are gone", 0, x::drop);
    }

    private static void promise4Room() {
        WaveRows x = new WaveRows(3, 4);
        Rows.carry(x, 1, 1, 5, 2, 6, 3, 7);
        Rows.carry(x, 2, 1, 5);
        Rows.lay(x, 9, 6, 9, 7);
        Check.due("as many as are deleted", 2, () -> x.assign(1, Rows.CARRIED, 0));
        Rows.lay(x, 9, 8);
        Check.due("one too many", Check.STATE, () -> x.assign(1, Rows.BY_LIMIT, 2));
        Check.due("nothing swallowed", Check.STATE, () -> x.assign(1, Rows.BY_LIMIT, 0));
        x.drop();
        Rows.lay(x, 4, 8);
        Check.due("room when swallowed", 1, () -> x.assign(1, Rows.BY_LIMIT, 1));
        Rows.rowDue("room when swallowed", "1@5 9@6 4@8", x, 1);
        Rows.rowDue("the other row", "1@5", x, 2);
        Check.due("start makes room", 3, () -> x.start(1, 0));
        Check.due("start makes room", 0, () -> Rows.carry(x, 0, 1, 1, 2, 2, 3, 3));
        x.advance(2);
        Check.due("time makes room", 0, () -> Rows.carry(x, 0, 1, 2, 2, 3));
        Rows.lay(x, 5, 4);
        Check.due("but no more", Check.STATE, () -> x.assign(0, Rows.CARRIED, 0));
    }

    private static void promise4Order() {
        WaveRows x = new WaveRows(1, 1);
        Check.due("driver before no element", Check.INDEX, () -> x.assign(1, 3, -1));
        Check.due("no element before mode", Check.STATE, () -> x.assign(0, 3, -1));
        Rows.carry(x, 0, 1, 5);
        Rows.lay(x, 1, 6);
        Check.due("driver before room", Check.INDEX, () -> x.assign(1, Rows.CARRIED, 0));
        Check.due("mode before room", Check.ARGUMENT, () -> x.assign(0, 3, 0));
        Check.due("limit before room", Check.ARGUMENT, () -> x.assign(0, Rows.BY_LIMIT, 7));
        Rows.lay(x, 1, 6);
        Check.due("delays before room", Check.ARGUMENT, () -> x.assign(0, Rows.CARRIED, 0));
        x.drop();
        x.element(1, Rows.LAST);
        x.advance(1);
        Check.due("time before room", Check.ARGUMENT, () -> x.assign(0, Rows.CARRIED, 0));
    }

    private static void promise4NeighbourRows() {
        WaveRows x = new WaveRows(3, 40);
        Rows.carry(x, 0, 1, 1, 2, 2);
        Rows.carry(x, 1, 3, 1, 4, 2);
        Rows.carry(x, 2, 5, 1, 6, 2);
        Rows.carry(x, 1, 7, 2, 8, 3, 9, 4);
        Rows.rowDue("row grown", "1@1 2@2", x, 0);
        Rows.rowDue("row grown", "3@1 7@2 8@3 9@4", x, 1);
        Rows.rowDue("row grown", "5@1 6@2", x, 2);
        Rows.carry(x, 1, 1, 0);
        Rows.rowDue("row shrunk", "1@1 2@2", x, 0);
        Rows.rowDue("row shrunk", "1@0", x, 1);
        Rows.rowDue("row shrunk", "5@1 6@2", x, 2);
    }

    private static void promise5Start() {
        WaveRows x = new WaveRows(3, 20);
        Rows.carry(x, 0, 1, 1, 2, 2);
        Rows.carry(x, 1, 3, 1, 4, 2, 5, 3);
        Rows.carry(x, 2, 6, 2);
        x.advance(1);
        x.element(8, 8);
        Check.due("start", 2, () -> x.start(1, -9));
        Check.due("the value", -9, () -> x.value(1));
        Rows.rowDue("start", "", x, 1);
        Rows.rowDue("start", "2@2", x, 0);
        Rows.rowDue("start", "6@2", x, 2);
        Check.due("others' values", 1, () -> x.value(0));
        Check.due("it stays ACTIVE", 1, () -> x.active(1));
        Check.due("start again", 0, () -> x.start(1, Long.MIN_VALUE));
        Check.due("the value", Long.MIN_VALUE, () -> x.value(1));
        Check.due("elements stay", 1, x::drop);
        Check.due("driver -1", Check.INDEX, () -> x.start(-1, 0));
        Check.due("driver 3", Check.INDEX, () -> x.start(3, 0));
        Check.due("it takes nothing later", 2, () -> x.advance(10));
        Check.due("the value stays", Long.MIN_VALUE, () -> x.value(1));
    }

    private static void promise6Advance() {
        WaveRows x = new WaveRows(4, 20);
        Rows.carry(x, 0, 1, 5, 2, 6, 3, 7);
        Rows.carry(x, 1, 4, 7);
        Rows.carry(x, 3, 5, 0, 6, 6);
        x.element(9, 9);
        Check.due("to NOW", 1, () -> x.advance(0));
        Check.due("one at NOW is taken", 5, () -> x.value(3));
        Check.due("to NOW again", 0, () -> x.advance(0));
        Check.due("no one is ACTIVE", -1, () -> x.active(0));
        Check.due("before all", 0, () -> x.advance(4));
        Check.due("over two, and at one", 2, () -> x.advance(6));
        Check.due("the last of them", 2, () -> x.value(0));
        Check.due("none yet", 0, () -> x.value(1));
        Check.due("never one", 0, () -> x.value(2));
        Check.due("at the time", 6, () -> x.value(3));
        Rows.rowDue("what is left", "3@7", x, 0);
        Rows.rowDue("what is left", "4@7", x, 1);
        Rows.rowDue("what is left", "", x, 3);
        Check.due("the rest", 2, () -> x.advance(100));
        Check.due("the rest", 3, () -> x.value(0));
        Check.due("the rest", 4, () -> x.value(1));
        Check.due("elements stay", 1, x::drop);
        Rows.carry(x, 2, 4, 0);
        x.start(2, 4);
        Rows.carry(x, 2, 4, 1);
        Check.due("the same value makes ACTIVE too", 1, () -> x.advance(Rows.LAST));
        Check.due("the same value makes ACTIVE too", 2, () -> x.active(0));
    }

    private static void promise6Exceptions() {
        WaveRows x = new WaveRows(2, 20);
        Rows.carry(x, 1, 1, 5, 2, 6);
        x.advance(5);
        Check.due("before NOW", Check.ARGUMENT, () -> x.advance(4));
        Check.due("far before NOW", Check.ARGUMENT, () -> x.advance(Long.MIN_VALUE));
        Check.due("above 2^60", Check.ARGUMENT, () -> x.advance(Rows.LAST + 1));
        Check.due("far above 2^60", Check.ARGUMENT, () -> x.advance(Long.MAX_VALUE));
        Check.due("nothing has changed", 5, x::now);
        Check.due("nothing has changed", 1, () -> x.active(0));
        Rows.rowDue("nothing has changed", "2@6", x, 1);
        Check.due("2^60", 1, () -> x.advance(Rows.LAST));
        Check.due("2^60", 0, () -> x.advance(Rows.LAST));
    }

    private static void promise7Active() {
        WaveRows x = new WaveRows(512, 20);
        Rows.carry(x, 511, 1, 1);
        Rows.carry(x, 0, 1, 2);
        Rows.carry(x, 300, 1, 1);
        Rows.carry(x, 7, 1, 3);
        x.advance(2);
        int[] want = {0, 300, 511, -1};
        for (int i = 0; i < want.length; i++) {
            int which = i;
            Check.due("active(" + i + ")", want[i], () -> x.active(which));
        }
        Check.due("active(-1)", -1, () -> x.active(-1));
        Check.due("active(511)", -1, () -> x.active(511));
        Check.due("active(512)", -1, () -> x.active(512));
        Check.due("active(least)", -1, () -> x.active(Integer.MIN_VALUE));
        Check.due("active(most)", -1, () -> x.active(Integer.MAX_VALUE));
        x.advance(3);
        Check.due("only the new ones", 7, () -> x.active(0));
        Check.due("only the new ones", -1, () -> x.active(1));
        WaveRows all = new WaveRows(2, 2);
        Rows.carry(all, 0, 1, 1);
        Rows.carry(all, 1, 1, 1);
        Check.due("all", 2, () -> all.advance(1));
        Check.due("all", 1, () -> all.active(1));
        Check.due("one more than all", -1, () -> all.active(2));
    }

    private static void promise8Now() {
        WaveRows x = new WaveRows(1, 1);
        Check.due("at first", 0, x::now);
        x.advance(17);
        Check.due("after 17", 17, x::now);
        Rows.carry(x, 0, 1, 5);
        Check.due("an assignment leaves it", 17, x::now);
        x.start(0, 1);
        Check.due("start leaves it", 17, x::now);
        x.advance(Rows.LAST);
        Check.due("after 2^60", Rows.LAST, x::now);
    }

    private static void promise9Next() {
        WaveRows x = new WaveRows(3, 20);
        Check.due("none", -1, x::next);
        x.element(1, 1);
        Check.due("an element is no transaction", -1, x::next);
        x.drop();
        Rows.carry(x, 1, 1, 8, 1, 9);
        Check.due("the first of its row", 8, x::next);
        Rows.carry(x, 2, 1, 7);
        Check.due("a later driver's", 7, x::next);
        Rows.carry(x, 0, 1, 6);
        Check.due("an earlier driver's", 6, x::next);
        x.advance(7);
        Check.due("after 7", 8, x::next);
        Rows.carry(x, 2, 1, 0);
        Check.due("at NOW", 7, x::next);
        x.start(2, 0);
        Check.due("after start", 8, x::next);
        x.advance(9);
        Check.due("none any more", -1, x::next);
        WaveRows zero = new WaveRows(2, 20);
        Rows.carry(zero, 0, 1, 0);
        Rows.carry(zero, 1, 1, 3);
        Check.due("at time 0", 0, zero::next);
    }

    private static void promise10Value() {
        WaveRows x = new WaveRows(2, 20);
        Rows.carry(x, 1, Long.MIN_VALUE, 1, Long.MAX_VALUE, 2);
        Check.due("not yet", 0, () -> x.value(1));
        x.advance(1);
        Check.due("the least", Long.MIN_VALUE, () -> x.value(1));
        x.advance(2);
        Check.due("the most", Long.MAX_VALUE, () -> x.value(1));
        Check.due("the other", 0, () -> x.value(0));
        Check.due("driver -1", Check.INDEX, () -> x.value(-1));
        Check.due("driver 2", Check.INDEX, () -> x.value(2));
        Check.due("driver least", Check.INDEX, () -> x.value(Integer.MIN_VALUE));
        Check.due("driver most", Check.INDEX, () -> x.value(Integer.MAX_VALUE));
    }

    private static void promise11Count() {
        WaveRows x = new WaveRows(2, 20);
        Rows.carry(x, 0, 1, 1, 2, 2, 3, 3);
        Check.due("three", 3, () -> x.count(0));
        Check.due("the other", 0, () -> x.count(1));
        x.advance(2);
        Check.due("one", 1, () -> x.count(0));
        Check.due("driver -1", Check.INDEX, () -> x.count(-1));
        Check.due("driver 2", Check.INDEX, () -> x.count(2));
        Check.due("driver least", Check.INDEX, () -> x.count(Integer.MIN_VALUE));
        Check.due("driver most", Check.INDEX, () -> x.count(Integer.MAX_VALUE));
    }

    private static void promise12At() {
        WaveRows x = new WaveRows(3, 20);
        Rows.carry(x, 0, 10, 1);
        Rows.carry(x, 1, 20, 2, 30, 3);
        Rows.carry(x, 2, 40, 4);
        Check.due("time 0", 2, () -> x.at(1, 0, true));
        Check.due("value 0", 20, () -> x.at(1, 0, false));
        Check.due("time 1", 3, () -> x.at(1, 1, true));
        Check.due("value 1", 30, () -> x.at(1, 1, false));
        for (int i : new int[] {-1, 2, Integer.MIN_VALUE, Integer.MAX_VALUE}) {
            Check.due("transaction " + i, Check.INDEX, () -> x.at(1, i, true));
            Check.due("transaction " + i, Check.INDEX, () -> x.at(1, i, false));
        }
        for (int driver : new int[] {-1, 3, Integer.MIN_VALUE, Integer.MAX_VALUE}) {
            Check.due("driver " + driver, Check.INDEX, () -> x.at(driver, 0, true));
        }
        x.start(1, 0);
        Check.due("an empty row", Check.INDEX, () -> x.at(1, 0, true));
    }

    private static void promise13Projected() {
        WaveRows x = new WaveRows(2, 20);
        x.start(1, -5);
        Rows.carry(x, 1, 1, 10, 2, 20);
        Rows.carry(x, 0, 7, 1);
        Check.due("at NOW", -5, () -> x.projected(1, 0));
        Check.due("before the first", -5, () -> x.projected(1, 9));
        Check.due("at the first", 1, () -> x.projected(1, 10));
        Check.due("before the second", 1, () -> x.projected(1, 19));
        Check.due("at the second", 2, () -> x.projected(1, 20));
        Check.due("at 2^60", 2, () -> x.projected(1, Rows.LAST));
        Check.due("above 2^60", 2, () -> x.projected(1, Rows.LAST + 1));
        Check.due("far above 2^60", 2, () -> x.projected(1, Long.MAX_VALUE));
        Check.due("nothing has changed", -5, () -> x.value(1));
        x.advance(10);
        Check.due("before NOW", Check.ARGUMENT, () -> x.projected(1, 9));
        Check.due("far before NOW", Check.ARGUMENT, () -> x.projected(1, Long.MIN_VALUE));
        Check.due("at NOW", 1, () -> x.projected(1, 10));
        Rows.carry(x, 1, 8, 0);
        Check.due("one at NOW counts", 8, () -> x.projected(1, 10));
        Check.due("an empty row", 7, () -> x.projected(0, 50));
        Check.due("driver before time", Check.INDEX, () -> x.projected(2, 9));
        Check.due("driver -1", Check.INDEX, () -> x.projected(-1, 10));
        Check.due("driver least", Check.INDEX, () -> x.projected(Integer.MIN_VALUE, 10));
        Check.due("driver most", Check.INDEX, () -> x.projected(Integer.MAX_VALUE, 10));
    }

    private static void promise14Total() {
        WaveRows x = new WaveRows(3, 20);
        x.element(1, 1);
        Check.due("an element is no transaction", 0, x::total);
        x.drop();
        Rows.carry(x, 0, 1, 1, 2, 2);
        Rows.carry(x, 2, 1, 2, 2, 3, 3, 4);
        Check.due("five", 5, x::total);
        x.advance(2);
        Check.due("two", 2, x::total);
        Rows.carry(x, 2, 1, 1);
        Check.due("one", 1, x::total);
        x.start(2, 0);
        Check.due("none", 0, x::total);
    }
}
