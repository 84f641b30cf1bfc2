import java.util.ArrayList;
import java.util.List;

/** A second model of HOURS for the tests: works each answer out anew, in the plainest way. */
final class PlainHouse {
    private static final class Told {
        private int hour;
        private int day;
        private int[] row;
    }

    private final int feet;
    private final boolean[] fixed;
    private final int[] hold;
    private final List<Told> all = new ArrayList<>();

    PlainHouse(int feet) {
        this.feet = feet;
        fixed = new boolean[feet];
        hold = new int[feet];
        java.util.Arrays.fill(hold, 10);
    }

    void fix(int first, int last) {
        for (int i = first; i <= last; i++) {
            fixed[i] = true;
        }
    }

    void hold(int much, int first, int last) {
        for (int i = first; i <= last; i++) {
            hold[i] = much;
        }
    }

    void tell(int hour, int day, int[] row) {
        Told told = new Told();
        told.hour = hour;
        told.day = day;
        told.row = row.clone();
        all.add(told);
    }

    /** Null if there is no such HOUR by then. */
    int[] row(int hour, int day) {
        int[] latest = null;
        for (Told told : all) {
            if (told.hour == hour && told.day <= day) {
                latest = told.row;
            }
        }
        return latest;
    }

    /** What all feet feel, then the SLIPS. */
    int[] feel(int hour, int day) {
        int[] feels = new int[feet + 1];
        int[] ahead = new int[2 * feet];
        for (int h = 0; h <= hour; h++) {
            int[] row = row(h, day);
            for (int i = 0; i < feet; i++) {
                feels[i] += row[i] - ahead[i];
            }
            feels[feet] = 0;
            int i = firstSlip(feels);
            while (i >= 0 && feels[feet] < 100000) {
                boolean here = feels[i] > feels[i + 1];
                feels[i] += here ? -1 : 1;
                feels[i + 1] += here ? 1 : -1;
                feels[feet]++;
                i = firstSlip(feels);
            }
            ahead = row;
        }
        return feels;
    }

    private int firstSlip(int[] feels) {
        for (int i = 0; i + 1 < feet; i++) {
            if (!fixed[i] && !fixed[i + 1] && Math.abs(feels[i] - feels[i + 1]) > hold[i]) {
                return i;
            }
        }
        return -1;
    }

    int[] change(int hour, int day) {
        int[] now = feel(hour, day);
        int[] ahead = hour == 0 ? new int[feet + 1] : feel(hour - 1, day);
        int[] change = new int[feet];
        for (int i = 0; i < feet; i++) {
            change[i] = Math.abs(now[i] - ahead[i]);
        }
        return change;
    }

    int read(int foot, int hour, int day, int pull, int heat) {
        int[] feels = feel(hour, day);
        int[] row = row(hour, day);
        int sum = 0;
        for (int i = Math.max(0, foot - 1); i <= Math.min(feet - 1, foot + 1); i++) {
            sum += (i == foot ? 2 : 1) * (pull * feels[i] + heat * row[feet + i]);
        }
        return sum;
    }
}
