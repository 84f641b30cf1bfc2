import java.util.Random;

/** Promises 25 and 26: gauges placed, against all sets of feet. */
public final class GaugeTest {
    public static void main(String[] args) {
        told();
        wrongInputs();
        for (int seed = 0; seed < 1500; seed++) {
            againstAllSets(new Random(seed));
        }
        Check.finish();
    }

    private static void told() {
        ThreadHouse house = Check.house("feet 48;");
        Check.same("ahead of any", house.gauge(0), -1);
        Check.same("one stretch", Check.gauges(house, 0, 47), 1);
        Check.same("as far on as it may be", house.gauge(0), 47);
        Check.same("one foot", Check.gauges(house, 5, 5), 1);
        Check.same("there", house.gauge(0), 5);
        Check.same("an end in common", Check.gauges(house, 0, 3, 3, 9), 1);
        Check.same("there", house.gauge(0), 3);
        Check.same("side by side, in any order", Check.gauges(house, 4, 9, 0, 3, 2, 6), 2);
        Check.same("first", house.gauge(0), 3);
        Check.same("second", house.gauge(1), 9);
        int[] all = new int[80];
        for (int s = 0; s < 40; s++) {
            all[2 * s] = 47 - s;
            all[2 * s + 1] = 47 - s;
        }
        Check.same("forty stretches", Check.gauges(house, all), 40);
        Check.same("from the left", house.gauge(0), 8);
        Check.same("to the right", house.gauge(39), 47);
        Check.same("none behind", house.gauge(40), -1);
    }

    private static void wrongInputs() {
        ThreadHouse house = Check.house("feet 10;");
        Check.same("one stretch", Check.gauges(house, 2, 7), 1);
        Check.same("none", Check.gauges(house), -1);
        Check.same("one byte", Check.gauges(house, 1), -1);
        Check.same("three bytes", Check.gauges(house, 1, 2, 3), -1);
        Check.same("forty-one", Check.gauges(house, new int[82]), -1);
        Check.same("forty and a half", Check.gauges(house, new int[81]), -1);
        Check.same("the second below the first", Check.gauges(house, 3, 2), -1);
        Check.same("beyond the feet", Check.gauges(house, 3, 10), -1);
        Check.same("beyond the feet", Check.gauges(house, 10, 10), -1);
        Check.same("below 0", Check.gauges(house, -1, 3), -1);
        Check.same("below 0", Check.gauges(house, -2, -1), -1);
        Check.same("one of two", Check.gauges(house, 0, 3, 9, 8), -1);
        Check.same("the latest stays", house.gauge(0), 7);
        Check.same("gauge(-1)", house.gauge(-1), -1);
        Check.same("gauge(1)", house.gauge(1), -1);
        Check.same("gauge(MAX)", house.gauge(Integer.MAX_VALUE), -1);
        Check.text(house, "feet 4;");
        Check.same("the latest stays", house.gauge(0), 7);
        Check.same("of the new feet", Check.gauges(house, 0, 4), -1);
    }

    private static void againstAllSets(Random random) {
        int feet = 4 + random.nextInt(7);
        int stretches = 1 + random.nextInt(8);
        int[] told = new int[2 * stretches];
        for (int s = 0; s < stretches; s++) {
            told[2 * s] = random.nextInt(feet);
            told[2 * s + 1] = told[2 * s] + random.nextInt(Math.min(feet - told[2 * s], 5));
        }
        int best = 0;
        int fewest = 99;
        for (int set = 0; set < 1 << feet; set++) {
            boolean hits = true;
            for (int s = 0; s < stretches; s++) {
                int within = (2 << told[2 * s + 1]) - (1 << told[2 * s]);
                hits &= (set & within) != 0;
            }
            int size = Integer.bitCount(set);
            if (hits && (size < fewest || (size == fewest && isFurther(set, best)))) {
                fewest = size;
                best = set;
            }
        }
        ThreadHouse house = Check.house("feet " + feet + ";");
        Check.same("gauges", Check.gauges(house, told), fewest);
        for (int k = 0; k < fewest; k++) {
            Check.same("gauge", house.gauge(k), Integer.numberOfTrailingZeros(best));
            best &= best - 1;
        }
    }

    /** Of two sets of like size: whether the first that differs, from the left on, is further. */
    private static boolean isFurther(int set, int other) {
        int a = set;
        int b = other;
        while (a != 0 && Integer.numberOfTrailingZeros(a) == Integer.numberOfTrailingZeros(b)) {
            a &= a - 1;
            b &= b - 1;
        }
        return a != 0 && Integer.numberOfTrailingZeros(a) > Integer.numberOfTrailingZeros(b);
    }
}
