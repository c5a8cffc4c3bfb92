/**
 * Long runs of calls, the same every time, on objects of many sizes, each held against Model. They
 * go beyond the document's 512 calls, where answers are free: the class has no end of its own there.
 */
public final class ModelTest {
    private static final long LAST = 1L << 60;
    private static final int CALLS = 512;
    private static final int RUNS = 400;
    private static final int[] DRIVERS = {1, 2, 3, 5, 64, 512, 0, 513, -1};
    private static final int[] ROOMS = {1, 2, 4, 7, 16, 40, 100, 1024, 8192, 0, 8193, -7};

    private static final int[] CARRIED_OFTEN = {1, 1, 1, 0, 2};

    private long seed;
    private final WaveRows real;
    private final Model model;
    private final int drivers;
    // Small spans make equal values, equal times and full rows come often; a wide run has long delays
    // and takes all drivers alike, so that many transactions come together.
    private final boolean wide;
    private final int values;
    private final int spread;
    private final boolean far;
    private final String name;

    private ModelTest(int run) {
        seed = run * 7919L + 17;
        int asked = DRIVERS[run % DRIVERS.length];
        int room = ROOMS[(run / 2) % ROOMS.length];
        real = new WaveRows(asked, room);
        model = new Model(asked, room);
        drivers = model.driverCount();
        values = 1 + pick(3);
        wide = pick(3) == 0;
        spread = wide ? 300 : 2 + pick(12);
        far = pick(8) == 0;
        name = "run " + run + " (" + asked + ", " + room + "): ";
    }

    public static void main(String[] args) {
        for (int run = 0; run < RUNS && Check.wrongSoFar() == 0; run++) {
            ModelTest test = new ModelTest(run);
            for (int call = 0; call < CALLS && Check.wrongSoFar() == 0; call++) {
                test.oneCall(call);
            }
        }
        Check.end("ModelTest");
    }

    private int pick(int below) {
        seed = seed * 6364136223846793005L + 1442695040888963407L;
        return (int) Math.floorMod(seed >>> 33, (long) below);
    }

    /** Mostly drivers that there are; now and then one that there is not. */
    private int pickDriver() {
        switch (pick(40)) {
            case 0:
                return -1;
            case 1:
                return drivers;
            case 2:
                return pick(2) == 0 ? Integer.MIN_VALUE : Integer.MAX_VALUE;
            case 3:
                return drivers - 1;
            case 4:
                return pick(drivers);
            default:
                return pick(wide ? drivers : Math.min(drivers, 3));
        }
    }

    private void oneCall(int call) {
        int kind = pick(100);
        if (kind < 40) {
            layElements(call);
        } else if (kind < 78) {
            assignOnce(call);
        } else if (kind < 80) {
            int driver = pickDriver();
            long value = pick(values);
            compare(call, "start(" + driver + ", " + value + ")",
                () -> real.start(driver, value), () -> model.start(driver, value));
        } else if (kind < 90) {
            long to = pickTime();
            compare(call, "advance(" + to + ")", () -> real.advance(to), () -> model.advance(to));
        } else if (kind < 91) {
            compare(call, "drop()", real::drop, model::drop);
        } else {
            ask(call);
        }
        compareState(call);
    }

    private void layElements(int call) {
        long value = pick(30) == 0 ? Long.MIN_VALUE + pick(2) : pick(values);
        long delay = pickDelay();
        compareOrder(call, "element(" + value + ", " + delay + ")",
            () -> real.element(value, delay), () -> model.element(value, delay));
        int more = pick(4) == 0 ? pick(17) : pick(3);
        long at = delay;
        for (int i = 0; i < more; i++) {
            at += 1 + pick(3) - (pick(60) == 0 ? 2 : 0);
            long laterValue = pick(values);
            long laterDelay = at;
            compareOrder(call, "element(" + laterValue + ", " + laterDelay + ")",
                () -> real.element(laterValue, laterDelay), () -> model.element(laterValue, laterDelay));
        }
    }

    private long pickDelay() {
        switch (pick(60)) {
            case 0:
                return -1;
            case 1:
                return LAST + 1;
            case 2:
                return pick(2) == 0 ? Long.MIN_VALUE : Long.MAX_VALUE;
            case 3:
                return LAST - pick(3);
            case 4:
                return Math.max(0, LAST - model.now() - pick(3) + 1);
            default:
                return pick(3 * spread);
        }
    }

    private void assignOnce(int call) {
        int driver = pickDriver();
        int mode = pick(30) == 0 ? (pick(2) == 0 ? -1 : 3) : wide ? CARRIED_OFTEN[pick(CARRIED_OFTEN.length)] : pick(3);
        long limit = pick(20) == 0 ? (pick(2) == 0 ? Long.MIN_VALUE : Long.MAX_VALUE) : pick(spread) - 1;
        compare(call, "assign(" + driver + ", " + mode + ", " + limit + ")",
            () -> real.assign(driver, mode, limit), () -> model.assign(driver, mode, limit));
        if (pick(2) == 0) {
            // Else wrong elements would stay, and hardly any later assignment would be a good one.
            compare(call, "drop()", real::drop, model::drop);
        }
    }

    private long pickTime() {
        switch (pick(40)) {
            case 0:
                return model.now() - 1;
            case 1:
                return pick(2) == 0 ? Long.MIN_VALUE : Long.MAX_VALUE;
            case 2:
                return LAST + 1;
            case 3:
                return far && pick(4) == 0 ? LAST - pick(40) : model.now();
            case 4:
            case 5:
            case 6:
                return model.next();
            default:
                return model.now() + pick(wide ? 10 : spread);
        }
    }

    private void ask(int call) {
        int driver = pickDriver();
        int i = pick(20) == 0 ? (pick(2) == 0 ? Integer.MIN_VALUE : Integer.MAX_VALUE) : pick(12) - 1;
        long time = pick(10) == 0 ? Long.MAX_VALUE : model.now() + pick(3 * spread) - 1;
        compare(call, "value(" + driver + ")", () -> real.value(driver), () -> model.value(driver));
        compare(call, "count(" + driver + ")", () -> real.count(driver), () -> model.count(driver));
        compare(call, "at(" + driver + ", " + i + ", true)",
            () -> real.at(driver, i, true), () -> model.at(driver, i, true));
        compare(call, "at(" + driver + ", " + i + ", false)",
            () -> real.at(driver, i, false), () -> model.at(driver, i, false));
        compare(call, "projected(" + driver + ", " + time + ")",
            () -> real.projected(driver, time), () -> model.projected(driver, time));
        compare(call, "active(" + i + ")", () -> real.active(i), () -> model.active(i));
    }

    private void compareState(int call) {
        compare(call, "now()", real::now, model::now);
        compare(call, "next()", real::next, model::next);
        compare(call, "total()", real::total, model::total);
        for (int i = -1; i <= 4; i++) {
            int which = i;
            compare(call, "active(" + i + ")", () -> real.active(which), () -> model.active(which));
        }
        for (int d = 0; d < drivers; d++) {
            int driver = d;
            compare(call, "value(" + d + ")", () -> real.value(driver), () -> model.value(driver));
            compare(call, "count(" + d + ")", () -> real.count(driver), () -> model.count(driver));
            for (int i = 0; i < model.count(d); i++) {
                int which = i;
                compare(call, "at(" + d + ", " + i + ", true)",
                    () -> real.at(driver, which, true), () -> model.at(driver, which, true));
                compare(call, "at(" + d + ", " + i + ", false)",
                    () -> real.at(driver, which, false), () -> model.at(driver, which, false));
            }
        }
    }

    private void compare(int call, String what, Check.Call got, Check.Call want) {
        Check.same(name + "call " + call + ": " + what, Check.said(want), Check.said(got));
    }

    private void compareOrder(int call, String what, Check.Order got, Check.Order want) {
        Check.same(name + "call " + call + ": " + what, Check.said(want), Check.said(got));
    }
}
