/** The edges of GAUGES (promises 25 and 26), sentence by sentence. */
public final class EdgeGaugeTest {
    private static final int NONE = -1;
    private static final int LEAST = Integer.MIN_VALUE;
    private static final int MOST = Integer.MAX_VALUE;

    public static void main(String[] args) {
        counts();
        oddBytes();
        ofFeet();
        turnedRound();
        oneInEach();
        asFarOn();
        latest();
        noSuchGauge();
        Check.finish();
    }

    private static void places(ThreadHouse house, int[] stretches, int... feet) {
        String what = "gauges() of " + java.util.Arrays.toString(stretches);
        Check.same(what, Check.gauges(house, stretches), feet.length);
        for (int k = 0; k < feet.length; k++) {
            Check.same("GAUGE " + k + " of " + what, house.gauge(k), feet[k]);
        }
        Check.same("behind " + what, house.gauge(feet.length), NONE);
    }

    private static void counts() {
        Check.sentence("the tape's pairs of bytes being stretches, first and last foot each (1 to 40)");
        for (int n = 0; n <= 48; n++) {
            ThreadHouse house = Check.house("feet 48;");
            int[] stretches = new int[2 * n];
            for (int s = 0; s < n; s++) {
                stretches[2 * s] = s;
                stretches[2 * s + 1] = s;
            }
            Check.same(n + " stretches", Check.gauges(house, stretches), n >= 1 && n <= 40 ? n : NONE);
            Check.same("the tape", house.count(5), 0);
            Check.same("the first", house.gauge(0), n >= 1 && n <= 40 ? 0 : NONE);
        }
        ThreadHouse house = new ThreadHouse();
        Check.same("a full tape", Check.gauges(house, new int[440]), NONE);
        Check.same("forty like ones", Check.gauges(house, new int[80]), 1);
    }

    private static void oddBytes() {
        Check.sentence("NONE: not as told, or a stretch that is none of FEET.");
        int[] odd = {1, 3, 5, 77, 79, 81, 439};
        for (int bytes : odd) {
            ThreadHouse house = new ThreadHouse();
            Check.same(bytes + " bytes", Check.gauges(house, new int[bytes]), NONE);
            Check.same("the tape", house.count(5), 0);
            Check.same("none", house.gauge(0), NONE);
        }
    }

    private static void ofFeet() {
        Check.sentence("or a stretch that is none of FEET.");
        int[] feetTold = {4, 24, 48};
        for (int feet : feetTold) {
            int[] places = {0, 1, feet - 2, feet - 1, feet, feet + 1, 127, 128, 254, 255};
            for (int first : places) {
                for (int last : places) {
                    ThreadHouse house = Check.house(feet == 24 ? "" : "feet " + feet + ";");
                    boolean taken = first <= last && last < feet;
                    Check.same(first + " to " + last + " of " + feet, Check.gauges(house, first, last), taken ? 1 : NONE);
                    Check.same("the GAUGE", house.gauge(0), taken ? last : NONE);
                    Check.same("one of two", Check.gauges(house, 0, 0, first, last), !taken ? NONE : first == 0 ? 1 : 2);
                    Check.same("two of two", Check.gauges(house, first, last, 0, 0), !taken ? NONE : first == 0 ? 1 : 2);
                }
            }
        }
    }

    private static void turnedRound() {
        ThreadHouse house = Check.house("feet 10;");
        Check.same("the same foot", Check.gauges(house, 5, 5), 1);
        Check.same("turned round", Check.gauges(house, 5, 4), NONE);
        Check.same("the first stays", house.gauge(0), 5);
    }

    private static void oneInEach() {
        Check.sentence("the fewest feet so that each of told stretches has one in it at least");
        ThreadHouse house = Check.house("feet 48;");
        places(house, new int[] {0, 5, 5, 9}, 5);
        places(house, new int[] {0, 5, 6, 9}, 5, 9);
        places(house, new int[] {0, 47, 0, 0, 47, 47}, 0, 47);
        places(house, new int[] {0, 10, 10, 20, 20, 30}, 10, 30);
        places(house, new int[] {20, 30, 10, 20, 0, 10}, 10, 30);
        places(house, new int[] {3, 8, 3, 8, 3, 8}, 8);
        places(house, new int[] {1, 2, 3, 4, 2, 3}, 2, 4);
    }

    private static void asFarOn() {
        Check.sentence("each as far on as it may be, from the left on.");
        ThreadHouse house = Check.house("feet 48;");
        places(house, new int[] {0, 47}, 47);
        places(house, new int[] {0, 0}, 0);
        places(house, new int[] {47, 47}, 47);
        places(house, new int[] {0, 9, 4, 7}, 7);
        places(house, new int[] {0, 9, 4, 7, 8, 20}, 7, 20);
        places(house, new int[] {0, 9, 8, 20, 4, 8}, 8);
    }

    private static void latest() {
        Check.sentence("The foot of the k-th GAUGE of the latest gauges() that was not NONE");
        ThreadHouse house = Check.house("feet 10;");
        places(house, new int[] {0, 3, 5, 9}, 3, 9);
        int[][] refused = {{}, {1}, {1, 2, 3}, {3, 2}, {0, 10}, {10, 10}, {255, 255}, {0, 9, 9, 10}, new int[82]};
        for (int[] stretches : refused) {
            Check.same("not as told", Check.gauges(house, stretches), NONE);
            Check.same("gauge(0)", house.gauge(0), 3);
            Check.same("gauge(1)", house.gauge(1), 9);
            Check.same("gauge(2)", house.gauge(2), NONE);
        }
        Check.text(house, "feet 4;");
        Check.same("also with fewer FEET", house.gauge(1), 9);
        places(house, new int[] {0, 3}, 3);
        Check.same("gauge(1)", house.gauge(1), NONE);
    }

    private static void noSuchGauge() {
        Check.sentence("NONE: there is none such, or ahead of any.");
        ThreadHouse house = Check.house("feet 10;");
        Check.same("ahead of any", house.gauge(0), NONE);
        Check.gauges(house, 3, 2);
        Check.same("still ahead of any", house.gauge(0), NONE);
        places(house, new int[] {0, 3, 5, 9}, 3, 9);
        int[] never = {-1, LEAST, 2, 39, 40, 47, 48, MOST};
        for (int k : never) {
            Check.same("gauge(" + k + ")", house.gauge(k), NONE);
        }
    }
}
