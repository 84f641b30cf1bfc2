/** The edges of SHAPES and EVENTS (promises 17 to 19), sentence by sentence. */
public final class EdgeExplainTest {
    private static final int NONE = -1;
    private static final int LEAST = Integer.MIN_VALUE;
    private static final int MOST = Integer.MAX_VALUE;

    public static void main(String[] args) {
        shapeNumbers();
        shapeLengths();
        shapeBytes();
        firstNotZero();
        refusedShapes();
        toldAnew();
        withinFeet();
        times();
        noneOver();
        noise();
        fewest();
        first();
        rowBytes();
        otherLengths();
        canNot();
        latest();
        noSuchEvent();
        Check.finish();
    }

    /** The EVENTS as one number each: SHAPE, first foot (two digits), times. */
    private static void explains(ThreadHouse house, int[] row, int... events) {
        String what = "explain() of " + java.util.Arrays.toString(row);
        Check.same(what, Check.explain(house, row), events.length);
        for (int k = 0; k < events.length; k++) {
            Check.same("EVENT " + k + " of " + what, house.event(k, 0) * 1000 + house.event(k, 1) * 10 + house.event(k, 2), events[k]);
        }
        Check.same("behind " + what, house.event(events.length, 0), NONE);
    }

    private static void shapeNumbers() {
        Check.sentence("SHAPES 0 .. 5");
        for (int k = 0; k <= 5; k++) {
            ThreadHouse house = Check.house("feet 4;");
            Check.same("shape(" + k + ")", Check.shape(house, k, k + 10), true);
            explains(house, new int[] {0, k + 10, 0, 0}, k * 1000 + 11);
        }
        int[] others = {-1, -2, LEAST, 6, 7, MOST};
        for (int k : others) {
            ThreadHouse house = Check.house("feet 4;");
            Check.same("shape(" + k + ")", Check.shape(house, k, 9), false);
            Check.same("the tape", house.count(5), 0);
            Check.same("no SHAPE", Check.explain(house, 0, 9, 0, 0), -2);
        }
    }

    private static void shapeLengths() {
        Check.sentence("1 to 9 numbers");
        for (int length = 0; length <= 12; length++) {
            ThreadHouse house = Check.house("feet 12;");
            int[] numbers = new int[length];
            int[] row = new int[12];
            for (int j = 0; j < length; j++) {
                numbers[j] = j + 1;
                row[j] = j + 1;
            }
            boolean taken = length >= 1 && length <= 9;
            Check.same(length + " numbers", Check.shape(house, 2, numbers), taken);
            Check.same("the tape", house.count(5), 0);
            if (taken) {
                explains(house, row, 2001);
            }
        }
        ThreadHouse full = new ThreadHouse();
        int[] tape = new int[440];
        tape[0] = 1;
        Check.same("a full tape", Check.shape(full, 0, tape), false);
    }

    private static void shapeBytes() {
        Check.sentence("(-99 to 99, the first one not 0)");
        for (int number = -128; number <= 127; number++) {
            boolean taken = number >= -99 && number <= 99;
            ThreadHouse house = Check.house("feet 12;");
            Check.same("first " + number, Check.shape(house, 0, number), taken && number != 0);
            if (taken && number != 0) {
                explains(house, new int[] {0, number, 0, 0, 0, 0, 0, 0, 0, 0, 0, 0}, 11);
            }
            Check.same("last " + number, Check.shape(house, 0, 7, 0, 0, 0, 0, 0, 0, 0, number), taken);
            if (taken) {
                explains(house, new int[] {0, 7, 0, 0, 0, 0, 0, 0, 0, number, 0, 0}, 11);
            }
        }
    }

    private static void firstNotZero() {
        ThreadHouse house = Check.house("feet 4;");
        Check.same("0 alone", Check.shape(house, 0, 0), false);
        Check.same("0 first", Check.shape(house, 0, 0, 1), false);
        Check.same("0 second", Check.shape(house, 0, 1, 0), true);
        explains(house, new int[] {0, 0, 1, 0}, 21);
    }

    private static void refusedShapes() {
        Check.sentence("false: no such number, or not as told.");
        ThreadHouse house = Check.house("feet 4;");
        Check.same("a SHAPE", Check.shape(house, 1, 5, 6), true);
        int[][] refused = {{}, {0}, {0, 5}, {100}, {-100}, {5, 100}, {5, -100}, {5, 127}, {5, -128}, {1, 2, 3, 4, 5, 6, 7, 8, 9, 10}};
        for (int[] numbers : refused) {
            Check.same("not as told", Check.shape(house, 1, numbers), false);
            Check.same("the tape", house.count(5), 0);
            explains(house, new int[] {0, 5, 6, 0}, 1011);
        }
    }

    private static void toldAnew() {
        Check.sentence("SHAPE k is the tape's bytes now (below 0 as 256 more): true");
        ThreadHouse house = Check.house("feet 4;");
        Check.shape(house, 1, 5, 6, 7);
        Check.same("a shorter one", Check.shape(house, 1, -1), true);
        explains(house, new int[] {-1, 0, 0, -3}, 1001, 1033);
        Check.same("the old one is gone", Check.explain(house, 5, 6, 7, 0), -2);
        Check.same("a longer one", Check.shape(house, 1, 5, 6, 7, 8), true);
        explains(house, new int[] {5, 6, 7, 8}, 1001);
        Check.same("the short one is gone", Check.explain(house, -1, 0, 0, 0), -2);
        Check.text(house, "feet 5;");
        explains(house, new int[] {0, 5, 6, 7, 8}, 1011);
    }

    private static void withinFeet() {
        Check.sentence("each a SHAPE from a foot on, within FEET");
        ThreadHouse house = Check.house("feet 4;noise 3;");
        Check.shape(house, 0, 9, 2);
        explains(house, new int[] {9, 2, 0, 0}, 1);
        explains(house, new int[] {0, 0, 9, 2}, 21);
        Check.same("over the last foot", Check.explain(house, 0, 0, 0, 9), -2);
        Check.shape(house, 1, 9, 1, 1, 1);
        explains(house, new int[] {9, 0, 0, 0}, 1);
        Check.shape(house, 0, 9, 2, 2, 2, 2);
        explains(house, new int[] {9, 0, 0, 0}, 1001);
        Check.shape(house, 1, 9, 1, 1, 1, 1);
        Check.same("longer than FEET", Check.explain(house, 9, 0, 0, 0), -2);
        ThreadHouse wide = Check.house("feet 48;");
        Check.shape(wide, 5, 1, 1, 1, 1, 1, 1, 1, 1, 1);
        int[] row = new int[48];
        java.util.Arrays.fill(row, 39, 48, 5);
        explains(wide, row, 5395);
        row[38] = 5;
        row[47] = 0;
        explains(wide, row, 5385);
        row[39] = 0;
        Check.same("not whole", Check.explain(wide, row), -2);
        // Behind a row of more FEET the last foot of fewer ones is the last one all the same.
        for (int feet = 47; feet >= 4; feet--) {
            int[] fewer = new int[feet];
            fewer[feet - 1] = 3;
            ThreadHouse again = Check.house("feet 48;");
            Check.shape(again, 0, 3);
            Check.same("not explained", Check.explain(again, row), -2);
            Check.text(again, "feet " + feet + ";");
            explains(again, fewer, 10 * (feet - 1) + 1);
        }
    }

    private static void times() {
        Check.sentence("times 1 to 5");
        for (int times = -2; times <= 7; times++) {
            ThreadHouse house = Check.house("feet 4;");
            Check.shape(house, 0, 10, -3);
            int[] row = {0, 10 * times, -3 * times, 0};
            if (times >= 1 && times <= 5) {
                explains(house, row, 10 + times);
            } else if (times == 0) {
                explains(house, row);
            } else {
                Check.same(times + " times", Check.explain(house, row), -2);
            }
        }
    }

    private static void noneOver() {
        Check.sentence("none goes over a foot of another one");
        ThreadHouse house = Check.house("feet 6;");
        Check.shape(house, 0, 4, 1);
        explains(house, new int[] {4, 1, 4, 1, 0, 0}, 1, 21);
        Check.same("4 and 1 at one foot", Check.explain(house, 4, 5, 1, 0, 0, 0), -2);
        Check.same("a 4 at a 1's foot", Check.explain(house, 4, 4, 1, 0, 0, 0), -2);
        Check.shape(house, 1, 3, 0, 0);
        explains(house, new int[] {3, 0, 0, 4, 1, 0}, 1001, 31);
        Check.same("a 4 at a 0's foot", Check.explain(house, 3, 0, 4, 1, 0, 0), -2);
    }

    private static void noise() {
        Check.sentence("each foot's number, less what the EVENT there tells, is noise at most, without sign.");
        for (int noise = 0; noise <= 9; noise++) {
            ThreadHouse house = Check.house("feet 4;noise " + noise + ";");
            Check.shape(house, 0, 50, -50);
            for (int sign = -1; sign <= 1; sign += 2) {
                int just = sign * noise;
                int more = sign * (noise + 1);
                explains(house, new int[] {just, 50 + just, -50 + just, just}, 11);
                Check.same("more ahead", Check.explain(house, more, 50, -50, 0), -2);
                Check.same("more behind", Check.explain(house, 0, 50, -50, more), -2);
                Check.same("more at the first", Check.explain(house, 0, 50 + more, -50, 0), -2);
                Check.same("more at the last", Check.explain(house, 0, 50, -50 + more, 0), -2);
                explains(house, new int[] {just, just, just, just});
            }
        }
    }

    private static void fewest() {
        Check.sentence("FEWEST EVENTS");
        ThreadHouse house = Check.house("feet 6;");
        Check.shape(house, 0, 1);
        Check.shape(house, 1, 1, 1);
        Check.shape(house, 2, 1, 1, 1, 1, 1);
        explains(house, new int[] {1, 1, 1, 1, 1, 0}, 2001);
        explains(house, new int[] {1, 1, 1, 1, 0, 0}, 1001, 1021);
        explains(house, new int[] {1, 1, 1, 1, 1, 1}, 1, 2011);
        explains(house, new int[] {2, 2, 2, 2, 2, 1}, 2002, 51);
        explains(house, new int[] {1, 2, 1, 2, 1, 2}, 1, 12, 21, 32, 41, 52);
        explains(house, new int[6]);
        ThreadHouse full = Check.house("feet 48;");
        Check.shape(full, 0, 1);
        int[] row = new int[48];
        int[] events = new int[48];
        for (int i = 0; i < 48; i++) {
            row[i] = 1 + i % 5;
            events[i] = 10 * i + row[i];
        }
        explains(full, row, events);
    }

    private static void first() {
        Check.sentence("of such the first: foot by foot none ahead of one; then the lesser SHAPE, the lesser times.");
        ThreadHouse later = Check.house("feet 5;noise 1;");
        Check.shape(later, 0, 1, 9);
        Check.shape(later, 1, 9, 1);
        explains(later, new int[] {0, 0, 9, 0, 0}, 1021);
        Check.shape(later, 1, 9, 5);
        explains(later, new int[] {0, 0, 9, 0, 0}, 11);
        ThreadHouse shapes = Check.house("feet 4;noise 9;");
        for (int k = 5; k >= 0; k--) {
            Check.shape(shapes, k, 10 + k);
            explains(shapes, new int[] {0, 19, 0, 0}, k * 1000 + 11);
        }
        ThreadHouse often = Check.house("feet 4;noise 9;");
        Check.shape(often, 3, 6);
        explains(often, new int[] {0, 0, 0, 30}, 3034);
        explains(often, new int[] {0, 0, 0, 39}, 3035);
        explains(often, new int[] {0, 0, 0, 15}, 3031);
        explains(often, new int[] {0, 0, 0, 16}, 3032);
        Check.shape(often, 2, 30);
        explains(often, new int[] {0, 0, 0, 30}, 2031);
        Check.shape(often, 4, 1);
        explains(often, new int[] {0, 0, 0, 10}, 3031);
    }

    private static void rowBytes() {
        Check.sentence("The tape's bytes are a row of CHANGES (below 0 as 256 more; one for each foot)");
        ThreadHouse house = Check.house("feet 4;");
        Check.shape(house, 0, 64);
        Check.shape(house, 1, -64);
        explains(house, new int[] {-128, 64, -64, 0}, 1002, 11, 1021);
        Check.same("127", Check.explain(house, 127, 0, 0, 0), -2);
        ThreadHouse noisy = Check.house("feet 4;noise 9;");
        Check.shape(noisy, 0, 68);
        explains(noisy, new int[] {127, 0, 0, 127}, 2, 32);
        Check.shape(noisy, 0, -99);
        explains(noisy, new int[] {-108, 0, 0, -90}, 1, 31);
        Check.same("-109", Check.explain(noisy, -109, 0, 0, 0), -2);
        Check.same("-128", Check.explain(noisy, -128, 0, 0, 0), -2);
    }

    private static void otherLengths() {
        Check.sentence("NONE: another length");
        int[] feetTold = {4, 24, 48};
        for (int feet : feetTold) {
            ThreadHouse house = Check.house(feet == 24 ? "" : "feet " + feet + ";");
            int[] others = {0, 1, feet - 1, feet + 1, 2 * feet, 440};
            for (int length : others) {
                Check.same(length + " bytes for " + feet + " feet", Check.explain(house, new int[length]), NONE);
                Check.same("the tape", house.count(5), 0);
            }
            Check.same(feet + " bytes", Check.explain(house, new int[feet]), 0);
        }
    }

    private static void canNot() {
        Check.sentence("-2: they can't explain it.");
        ThreadHouse house = Check.house("feet 4;");
        Check.same("no SHAPES", Check.explain(house, 0, 0, 0, 1), -2);
        Check.same("no SHAPES needed", Check.explain(house, 0, 0, 0, 0), 0);
        Check.shape(house, 0, 2);
        Check.same("a foot alone is not", Check.explain(house, 2, 2, 2, 1), -2);
        Check.same("the first foot is not", Check.explain(house, 1, 2, 2, 2), -2);
        Check.same("the tape", house.count(5), 0);
        explains(house, new int[] {2, 2, 2, 2}, 1, 11, 21, 31);
    }

    private static void latest() {
        Check.sentence("Of the k-th EVENT (from the left) of the latest explain() that was not below 0");
        ThreadHouse house = Check.house("feet 4;");
        Check.shape(house, 3, 5);
        explains(house, new int[] {0, 5, 0, 10}, 3011, 3032);
        Check.same("unexplained", Check.explain(house, 1, 5, 0, 10), -2);
        Check.same("another length", Check.explain(house, 5), NONE);
        Check.same("an empty tape", house.explain(), NONE);
        Check.shape(house, 3, 7);
        Check.text(house, "feet 9;");
        Check.same("SHAPE", house.event(0, 0) * 10 + house.event(1, 0), 33);
        Check.same("first foot", house.event(0, 1) * 10 + house.event(1, 1), 13);
        Check.same("times", house.event(0, 2) * 10 + house.event(1, 2), 12);
        Check.same("no EVENTS now", Check.explain(house, new int[9]), 0);
        Check.same("none", house.event(0, 1), NONE);
    }

    private static void noSuchEvent() {
        Check.sentence("NONE: there is none such, another what, or ahead of any.");
        ThreadHouse house = Check.house("feet 4;");
        Check.same("ahead of any", house.event(0, 0), NONE);
        Check.same("unexplained", Check.explain(house, 1, 0, 0, 0), -2);
        Check.same("still ahead of any", house.event(0, 2), NONE);
        Check.shape(house, 0, 1);
        Check.same("two", Check.explain(house, 1, 0, 0, 2), 2);
        int[] noEvent = {-1, LEAST, 2, 3, 47, 48, MOST};
        int[] noWhat = {-1, LEAST, 3, 4, MOST};
        for (int what = 0; what <= 2; what++) {
            for (int k : noEvent) {
                Check.same("event(" + k + ", " + what + ")", house.event(k, what), NONE);
            }
        }
        for (int what : noWhat) {
            Check.same("event(0, " + what + ")", house.event(0, what), NONE);
            Check.same("event(1, " + what + ")", house.event(1, what), NONE);
        }
        Check.same("event(1, 2)", house.event(1, 2), 2);
    }
}
