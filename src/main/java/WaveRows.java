import java.util.Arrays;

/**
 * What drivers of signals are going to be: rows of transactions, each a value at a time.
 *
 * All rows lie one behind the other, in the order of their drivers, in one pair of arrays. So an
 * object costs what its transactions cost, however many drivers it has.
 */
public final class WaveRows {
    public static final int NONE = -1;

    private static final long LAST_TIME = 1L << 60;
    private static final int MOST_ELEMENTS = 16;
    private static final int MOST_DRIVERS = 512;
    private static final int USUAL_DRIVERS = 64;
    private static final int MOST_ROOM = 8192;
    private static final int USUAL_ROOM = 1024;
    private static final int FIRST_PLACES = 64;

    private static final int MODE_FIRST_DELAY = 0;
    private static final int MODE_CARRIED = 1;
    private static final int MODE_GIVEN_LIMIT = 2;

    private final int drivers;
    private final int room;
    private final long[] driverValues;

    // The row of driver d is rowStarts[d] .. rowStarts[d + 1] - 1; rowStarts[drivers] is where all
    // rows end, and never more than the length of times and values.
    private final int[] rowStarts;
    private long[] times;
    private long[] values;

    private final long[] elementValues;
    private final long[] elementDelays;
    private int elementCount;

    private final int[] activeDrivers;
    private int activeCount;
    private long timeNow;

    public WaveRows(int drivers, int room) {
        this.drivers = drivers >= 1 && drivers <= MOST_DRIVERS ? drivers : USUAL_DRIVERS;
        this.room = room >= 1 && room <= MOST_ROOM ? room : USUAL_ROOM;
        driverValues = new long[this.drivers];
        rowStarts = new int[this.drivers + 1];
        activeDrivers = new int[this.drivers];
        int places = Math.min(this.room, FIRST_PLACES);
        times = new long[places];
        values = new long[places];
        elementValues = new long[MOST_ELEMENTS];
        elementDelays = new long[MOST_ELEMENTS];
    }

    public void element(long value, long delay) throws IllegalArgumentException, IllegalStateException {
        if (delay < 0 || delay > LAST_TIME) {
            throw new IllegalArgumentException("the delay is below 0 or above 2^60");
        }
        if (elementCount >= MOST_ELEMENTS) {
            throw new IllegalStateException("there are 16 elements");
        }
        elementValues[elementCount] = value;
        elementDelays[elementCount] = delay;
        elementCount++;
    }

    public int drop() {
        int dropped = elementCount;
        elementCount = 0;
        return dropped;
    }

    public int assign(int driver, int mode, long limit)
            throws IndexOutOfBoundsException, IllegalStateException, IllegalArgumentException {
        requireDriver(driver);
        if (elementCount == 0) {
            throw new IllegalStateException("no element is laid down");
        }
        if (!isLimitGood(mode, limit) || !areDelaysGood()) {
            throw new IllegalArgumentException("the mode, the limit or the delays are wrong");
        }
        long firstTime = timeNow + elementDelays[0];
        int begin = rowStarts[driver];
        int end = rowStarts[driver + 1];
        int cut = firstBehind(begin, end, firstTime - 1);
        int pulses = firstBehind(begin, cut, firstTime - limitOf(mode, limit) - 1);
        int same = startOfSameValues(pulses, cut, elementValues[0]);
        // Of the old ones, begin .. pulses - 1 and same .. cut - 1 are those that stay.
        int deleted = (same - pulses) + (end - cut);
        if (rowStarts[drivers] - deleted + elementCount > room) {
            throw new IllegalStateException("there is no room for so many transactions");
        }
        int keptEnd = pulses + cut - same;
        moveTransactions(same, pulses, cut - same);
        endRowAt(driver, keptEnd + elementCount);
        writeElements(keptEnd);
        elementCount = 0;
        return deleted;
    }

    public int start(int driver, long value) throws IndexOutOfBoundsException {
        requireDriver(driver);
        int had = rowLength(driver);
        driverValues[driver] = value;
        endRowAt(driver, rowStarts[driver]);
        return had;
    }

    public int advance(long to) throws IllegalArgumentException {
        if (to < timeNow || to > LAST_TIME) {
            throw new IllegalArgumentException("the time is before NOW or above 2^60");
        }
        timeNow = to;
        activeCount = 0;
        int begin = 0;
        int kept = 0;
        for (int driver = 0; driver < drivers; driver++) {
            int end = rowStarts[driver + 1];
            int later = firstBehind(begin, end, to);
            if (later > begin) {
                driverValues[driver] = values[later - 1];
                activeDrivers[activeCount] = driver;
                activeCount++;
            }
            moveTransactions(later, kept, end - later);
            rowStarts[driver] = kept;
            kept += end - later;
            begin = end;
        }
        rowStarts[drivers] = kept;
        return activeCount;
    }

    public int active(int i) {
        return i >= 0 && i < activeCount ? activeDrivers[i] : NONE;
    }

    public long now() {
        return timeNow;
    }

    public long next() {
        long least = NONE;
        for (int driver = 0; driver < drivers; driver++) {
            if (rowLength(driver) > 0) {
                long first = times[rowStarts[driver]];
                least = least == NONE ? first : Math.min(least, first);
            }
        }
        return least;
    }

    public long value(int driver) throws IndexOutOfBoundsException {
        requireDriver(driver);
        return driverValues[driver];
    }

    public int count(int driver) throws IndexOutOfBoundsException {
        requireDriver(driver);
        return rowLength(driver);
    }

    public long at(int driver, int i, boolean time) throws IndexOutOfBoundsException {
        requireDriver(driver);
        if (i < 0 || i >= rowLength(driver)) {
            throw new IndexOutOfBoundsException("there is no such transaction");
        }
        int place = rowStarts[driver] + i;
        return time ? times[place] : values[place];
    }

    public long projected(int driver, long time) throws IndexOutOfBoundsException, IllegalArgumentException {
        requireDriver(driver);
        if (time < timeNow) {
            throw new IllegalArgumentException("the time is before NOW");
        }
        int begin = rowStarts[driver];
        int later = firstBehind(begin, rowStarts[driver + 1], time);
        return later > begin ? values[later - 1] : driverValues[driver];
    }

    public int total() {
        return rowStarts[drivers];
    }

    private void requireDriver(int driver) {
        if (driver < 0 || driver >= drivers) {
            throw new IndexOutOfBoundsException("there is no such driver");
        }
    }

    private boolean isLimitGood(int mode, long limit) {
        if (mode == MODE_GIVEN_LIMIT) {
            return limit >= 0 && limit <= elementDelays[0];
        }
        return mode == MODE_FIRST_DELAY || mode == MODE_CARRIED;
    }

    private boolean areDelaysGood() {
        long before = -1;
        for (int i = 0; i < elementCount; i++) {
            // Both times are at most 2^60, so their sum does not wrap around.
            if (elementDelays[i] <= before || timeNow + elementDelays[i] > LAST_TIME) {
                return false;
            }
            before = elementDelays[i];
        }
        return true;
    }

    private long limitOf(int mode, long limit) {
        switch (mode) {
            case MODE_FIRST_DELAY:
                return elementDelays[0];
            case MODE_GIVEN_LIMIT:
                return limit;
            default:
                // A limit of 0 marks every old one that is left, so nothing is swallowed.
                return 0;
        }
    }

    private int rowLength(int driver) {
        return rowStarts[driver + 1] - rowStarts[driver];
    }

    private int firstBehind(int from, int end, long time) {
        int place = from;
        while (place < end && times[place] <= time) {
            place++;
        }
        return place;
    }

    // Marks go from the first new transaction backwards and stop for good at the first other value.
    private int startOfSameValues(int from, int end, long value) {
        int place = end;
        while (place > from && values[place - 1] == value) {
            place--;
        }
        return place;
    }

    private void moveTransactions(int from, int to, int length) {
        System.arraycopy(times, from, times, to, length);
        System.arraycopy(values, from, values, to, length);
    }

    private void endRowAt(int driver, int newEnd) {
        int oldEnd = rowStarts[driver + 1];
        int allEnd = rowStarts[drivers];
        int shift = newEnd - oldEnd;
        makePlaces(allEnd + shift);
        moveTransactions(oldEnd, newEnd, allEnd - oldEnd);
        for (int later = driver + 1; later <= drivers; later++) {
            rowStarts[later] += shift;
        }
    }

    // The arrays grow only when they must: most objects never come near a large ROOM.
    private void makePlaces(int needed) {
        if (needed <= times.length) {
            return;
        }
        int places = Math.max(needed, Math.min(room, 2 * times.length));
        times = Arrays.copyOf(times, places);
        values = Arrays.copyOf(values, places);
    }

    private void writeElements(int from) {
        for (int i = 0; i < elementCount; i++) {
            times[from + i] = timeNow + elementDelays[i];
            values[from + i] = elementValues[i];
        }
    }
}
