import java.util.ArrayList;
import java.util.List;

/**
 * The document's words, put down one after the other with no thought of speed or space; what
 * WaveRows answers is held against it.
 */
final class Model {
    private static final long LAST = 1152921504606846976L;

    private static final class Transaction {
        final long value;
        final long time;
        boolean marked = false;

        Transaction(long value, long time) {
            this.value = value;
            this.time = time;
        }
    }

    private static final class Driver {
        long value = 0;
        List<Transaction> row = new ArrayList<>();
    }

    private final List<Driver> drivers = new ArrayList<>();
    private final int room;
    private final List<long[]> elements = new ArrayList<>();
    private final List<Integer> active = new ArrayList<>();
    private long now = 0;

    Model(int drivers, int room) {
        int many = 1 <= drivers && drivers <= 512 ? drivers : 64;
        for (int i = 0; i < many; i++) {
            this.drivers.add(new Driver());
        }
        this.room = 1 <= room && room <= 8192 ? room : 1024;
    }

    int driverCount() {
        return drivers.size();
    }

    void element(long value, long delay) {
        if (delay < 0 || delay > LAST) {
            throw new IllegalArgumentException();
        }
        if (elements.size() == 16) {
            throw new IllegalStateException();
        }
        elements.add(new long[] {value, delay});
    }

    int drop() {
        int were = elements.size();
        elements.clear();
        return were;
    }

    int assign(int driver, int mode, long limit) {
        Driver to = find(driver);
        if (elements.isEmpty()) {
            throw new IllegalStateException();
        }
        refuseWrongAssignment(mode, limit);
        List<Transaction> fresh = new ArrayList<>();
        for (long[] element : elements) {
            fresh.add(new Transaction(element[0], now + element[1]));
        }
        long first = fresh.get(0).time;
        List<Transaction> old = new ArrayList<>(to.row);
        List<Transaction> row = new ArrayList<>(old);
        row.removeIf(t -> t.time >= first);
        int kept = row.size();
        row.addAll(fresh);
        if (mode != 1) {
            long less = first - (mode == 0 ? elements.get(0)[1] : limit);
            mark(row, kept, less);
            row.removeIf(t -> !t.marked);
        }
        for (Transaction t : row) {
            t.marked = false;
        }
        for (Transaction t : old) {
            t.marked = false;
        }
        if (total() - old.size() + row.size() > room) {
            throw new IllegalStateException();
        }
        to.row = row;
        elements.clear();
        int deleted = 0;
        for (Transaction t : old) {
            deleted += row.contains(t) ? 0 : 1;
        }
        return deleted;
    }

    private static void mark(List<Transaction> row, int kept, long less) {
        for (int i = 0; i < row.size(); i++) {
            row.get(i).marked = i >= kept || row.get(i).time < less;
        }
        for (int i = kept - 1; i >= 0; i--) {
            Transaction behind = row.get(i + 1);
            if (!row.get(i).marked && behind.marked && behind.value == row.get(i).value) {
                row.get(i).marked = true;
            }
        }
    }

    private void refuseWrongAssignment(int mode, long limit) {
        boolean good = mode == 0 || mode == 1 || mode == 2;
        for (int i = 0; i < elements.size(); i++) {
            good &= i == 0 || elements.get(i)[1] > elements.get(i - 1)[1];
            good &= now + elements.get(i)[1] <= LAST;
        }
        good &= mode != 2 || 0 <= limit && limit <= elements.get(0)[1];
        if (!good) {
            throw new IllegalArgumentException();
        }
    }

    int start(int driver, long value) {
        Driver it = find(driver);
        int had = it.row.size();
        it.value = value;
        it.row.clear();
        return had;
    }

    int advance(long to) {
        if (to < now || to > LAST) {
            throw new IllegalArgumentException();
        }
        now = to;
        active.clear();
        for (int i = 0; i < drivers.size(); i++) {
            Driver it = drivers.get(i);
            if (!it.row.isEmpty() && it.row.get(0).time <= to) {
                active.add(i);
            }
            while (!it.row.isEmpty() && it.row.get(0).time <= to) {
                it.value = it.row.remove(0).value;
            }
        }
        return active.size();
    }

    int active(int i) {
        return 0 <= i && i < active.size() ? active.get(i) : -1;
    }

    long now() {
        return now;
    }

    long next() {
        long least = Long.MAX_VALUE;
        for (Driver it : drivers) {
            for (Transaction t : it.row) {
                least = Math.min(least, t.time);
            }
        }
        return least == Long.MAX_VALUE ? -1 : least;
    }

    long value(int driver) {
        return find(driver).value;
    }

    int count(int driver) {
        return find(driver).row.size();
    }

    long at(int driver, int i, boolean time) {
        Transaction t = find(driver).row.get(indexIn(find(driver).row, i));
        return time ? t.time : t.value;
    }

    long projected(int driver, long time) {
        Driver it = find(driver);
        if (time < now) {
            throw new IllegalArgumentException();
        }
        long value = it.value;
        for (Transaction t : it.row) {
            value = t.time <= time ? t.value : value;
        }
        return value;
    }

    int total() {
        int sum = 0;
        for (Driver it : drivers) {
            sum += it.row.size();
        }
        return sum;
    }

    private static int indexIn(List<?> list, int i) {
        if (i < 0 || i >= list.size()) {
            throw new IndexOutOfBoundsException();
        }
        return i;
    }

    private Driver find(int driver) {
        return drivers.get(indexIn(drivers, driver));
    }
}
