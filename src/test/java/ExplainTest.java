import java.util.ArrayList;
import java.util.List;
import java.util.Random;

/** Promises 17 to 19: SHAPES, and the fewest EVENTS that explain a row. */
public final class ExplainTest {
    public static void main(String[] args) {
        shapes();
        wrongRows();
        order();
        edges();
        latest();
        for (int seed = 0; seed < 3000; seed++) {
            againstAllWays(new Random(seed));
        }
        Check.finish();
    }

    private static void shapes() {
        ThreadHouse house = Check.house("feet 4;");
        Check.same("nine numbers", Check.shape(house, 0, 1, 2, 3, 4, 5, 6, 7, 8, 9), true);
        Check.same("ten", Check.shape(house, 1, 1, 2, 3, 4, 5, 6, 7, 8, 9, 10), false);
        Check.same("none", Check.shape(house, 1), false);
        Check.same("99", Check.shape(house, 1, 99, -99), true);
        Check.same("100", Check.shape(house, 1, 99, 100), false);
        Check.same("-100", Check.shape(house, 1, -100), false);
        Check.same("0 first", Check.shape(house, 1, 0, 1), false);
        Check.same("0 alone", Check.shape(house, 1, 0), false);
        Check.same("0 behind", Check.shape(house, 2, 1, 0), true);
        Check.same("the last one", Check.shape(house, 5, 7), true);
        Check.same("a seventh", Check.shape(house, 6, 7), false);
        Check.same("-1", Check.shape(house, -1, 7), false);
        Check.same("most", Check.shape(house, Integer.MAX_VALUE, 7), false);
        Check.same("refused ones leave it", Check.explain(house, 0, 99, -99, 0), 1);
        Check.same("told anew", Check.shape(house, 1, 98), true);
        Check.same("the old one is gone", Check.explain(house, 0, 99, -99, 0), -2);
        Check.same("the new one", Check.explain(house, 0, 98, 0, 0), 1);
    }

    private static void wrongRows() {
        ThreadHouse house = Check.house("feet 4;");
        Check.same("ahead of any", house.event(0, 0), -1);
        Check.same("too short", Check.explain(house, 0, 0, 0), -1);
        Check.same("too long", Check.explain(house, 0, 0, 0, 0, 0), -1);
        Check.same("empty", Check.explain(house), -1);
        Check.same("no shapes", Check.explain(house, 0, 1, 0, 0), -2);
        Check.same("nothing to explain", Check.explain(house, 0, 0, 0, 0), 0);
        Check.same("none", house.event(0, 0), -1);
    }

    private static void order() {
        ThreadHouse house = Check.house("feet 5;noise 2;");
        Check.shape(house, 0, 4);
        Check.shape(house, 1, 2);
        Check.same("none ahead of one", Check.explain(house, 2, 0, -2, 0, 1), 0);
        Check.same("lesser shape", Check.explain(house, 5, 0, 0, 0, 0), 1);
        Check.same("shape", house.event(0, 0), 0);
        Check.same("times", house.event(0, 2), 1);
        Check.shape(house, 0, 1, 1);
        Check.same("one of two feet", Check.explain(house, 0, 0, 0, 3, 3), 1);
        Check.same("shape", house.event(0, 0), 0);
        Check.same("foot", house.event(0, 1), 3);
        Check.same("lesser times", house.event(0, 2), 1);
        Check.same("as far on as it may be", Check.explain(house, 0, 0, 3, 0, 0), 1);
        Check.same("foot", house.event(0, 1), 2);
        Check.same("shape", house.event(0, 0), 0);
        // Foot by foot: behind a beginning in common the lesser SHAPE goes ahead of a later begin.
        ThreadHouse first = Check.house("feet 4;");
        Check.shape(first, 0, 1);
        Check.shape(first, 1, 1, 1);
        Check.same("two events either way", Check.explain(first, 1, 1, 1, 0), 2);
        Check.same("foot 0", first.event(0, 0), 0);
        Check.same("foot 1", first.event(1, 0), 1);
        Check.same("foot 1", first.event(1, 1), 1);
    }

    private static void edges() {
        ThreadHouse house = Check.house("feet 4;");
        Check.shape(house, 0, 20, 0, 0);
        Check.same("five times", Check.explain(house, 100, 0, 0, 0), 1);
        Check.same("times", house.event(0, 2), 5);
        Check.same("six times", Check.explain(house, 120, 0, 0, 0), -2);
        Check.same("not over the end", Check.explain(house, 0, 0, 20, 0), -2);
        Check.same("up to the end", Check.explain(house, 0, 20, 0, 0), 1);
        Check.same("none over another one", Check.explain(house, 20, 20, 0, 0), -2);
        Check.shape(house, 1, -128 + 29);
        Check.same("below 0", Check.explain(house, 20, 0, 0, -99), 2);
        Check.same("noise in a shape", Check.explain(house, 20, 1, 0, 0), -2);
        ThreadHouse noisy = Check.house("feet 4;noise 1;");
        Check.shape(noisy, 0, 20, 0, 0);
        Check.same("noise in a shape", Check.explain(noisy, 21, 1, -1, -1), 1);
        Check.same("too much noise", Check.explain(noisy, 22, 1, -1, -1), -2);
        Check.same("too much noise", Check.explain(noisy, 20, 0, 0, -2), -2);
        Check.same("a shape as long as a row", Check.shape(noisy, 0, 5, 5, 5, 5), true);
        Check.same("explains it", Check.explain(noisy, 10, 10, 10, 10), 1);
        Check.shape(noisy, 0, 5, 5, 5, 5, 5);
        Check.same("a longer one not", Check.explain(noisy, 10, 10, 10, 10), -2);
        ThreadHouse most = Check.house("feet 48;");
        Check.shape(most, 3, 2);
        int[] row = new int[48];
        java.util.Arrays.fill(row, 10);
        Check.same("an event for each foot", Check.explain(most, row), 48);
        Check.same("the last one", most.event(47, 1), 47);
        Check.same("its shape", most.event(47, 0), 3);
        Check.same("its times", most.event(47, 2), 5);
        Check.same("none behind", most.event(48, 0), -1);
    }

    private static void latest() {
        ThreadHouse house = Check.house("feet 4;");
        Check.shape(house, 0, 3);
        Check.same("one", Check.explain(house, 0, 0, 6, 0), 1);
        Check.same("unexplained", Check.explain(house, 0, 1, 6, 0), -2);
        Check.same("too short", Check.explain(house, 0, 1, 6), -1);
        Check.shape(house, 0, 9);
        Check.text(house, "feet 6;");
        Check.same("shape", house.event(0, 0), 0);
        Check.same("foot", house.event(0, 1), 2);
        Check.same("times", house.event(0, 2), 2);
        Check.same("what 3", house.event(0, 3), -1);
        Check.same("what -1", house.event(0, -1), -1);
        Check.same("event -1", house.event(-1, 0), -1);
        Check.same("event 1", house.event(1, 0), -1);
        Check.same("most", house.event(Integer.MAX_VALUE, Integer.MAX_VALUE), -1);
        Check.same("none needed", Check.explain(house, new int[6]), 0);
        Check.same("none", house.event(0, 0), -1);
    }

    private int[][] told;
    private int[] row;
    private int noise;
    private List<int[]> best;

    private static void againstAllWays(Random random) {
        ExplainTest test = new ExplainTest();
        int feet = 4 + random.nextInt(4);
        test.noise = random.nextInt(3);
        test.told = new int[6][];
        test.row = new int[feet];
        ThreadHouse house = Check.house("feet " + feet + ";noise " + test.noise + ";");
        for (int k = 0; k < 6; k++) {
            if (random.nextBoolean()) {
                int[] shape = new int[1 + random.nextInt(4)];
                for (int j = 0; j < shape.length; j++) {
                    shape[j] = random.nextInt(7) - 3;
                }
                shape[0] = shape[0] == 0 ? 2 : shape[0];
                test.told[k] = shape;
                Check.shape(house, k, shape);
            }
        }
        for (int i = 0; i < feet; i++) {
            test.row[i] = random.nextInt(3) == 0 ? 0 : random.nextInt(11) - 5;
        }
        test.tryFrom(0, new ArrayList<>());
        int due = test.best == null ? -2 : test.best.size();
        Check.same("explain", Check.explain(house, test.row), due);
        for (int k = 0; k < due; k++) {
            for (int what = 0; what < 3; what++) {
                Check.same("event " + k + " " + what, house.event(k, what), test.best.get(k)[what]);
            }
        }
    }

    /** All ways in their order; a later one must be fewer to be better. */
    private void tryFrom(int i, List<int[]> events) {
        if (i == row.length) {
            if (best == null || events.size() < best.size()) {
                best = new ArrayList<>(events);
            }
            return;
        }
        if (Math.abs(row[i]) <= noise) {
            tryFrom(i + 1, events);
        }
        for (int k = 0; k < 6; k++) {
            for (int times = 1; times <= 5 && told[k] != null && i + told[k].length <= row.length; times++) {
                boolean fits = true;
                for (int j = 0; j < told[k].length; j++) {
                    fits &= Math.abs(row[i + j] - times * told[k][j]) <= noise;
                }
                if (fits) {
                    events.add(new int[] {k, i, times});
                    tryFrom(i + told[k].length, events);
                    events.remove(events.size() - 1);
                }
            }
        }
    }
}
