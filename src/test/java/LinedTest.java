import java.util.Random;

/** Promises 22 and 23: rows lined up, against all ways to line them up. */
public final class LinedTest {
    private int[] first;
    private int[] second;
    private int gap;
    private int least = Integer.MAX_VALUE;
    private int[] pairs;
    private int[] bestPairs;

    public static void main(String[] args) {
        told();
        wrongInputs();
        longest();
        for (int seed = 0; seed < 4000; seed++) {
            againstAllWays(new Random(seed));
        }
        Check.finish();
    }

    private static void told() {
        ThreadHouse house = new ThreadHouse();
        Check.same("ahead of any", house.paired(0), -1);
        Check.same("no numbers", Check.lined(house, 0, 7), 0);
        Check.same("first row alone", Check.lined(house, 3, 7, 1, 2, 3), 21);
        Check.same("alone", house.paired(0), -1);
        Check.same("second row alone", Check.lined(house, 0, 7, 1, 2, 3), 21);
        Check.same("no first row", house.paired(0), -1);
        Check.same("0 to 255", Check.lined(house, 1, 255, 255, 0), 255);
        Check.same("paired", house.paired(0), 0);
        Check.same("a pair ahead of two alone", Check.lined(house, 1, 5, 10, 0), 10);
        Check.same("paired", house.paired(0), 0);
        Check.same("with the earlier one", Check.lined(house, 1, 3, 5, 5, 5), 3);
        Check.same("paired", house.paired(0), 0);
        Check.same("first alone ahead of second alone", Check.lined(house, 2, 0, 1, 2, 2, 1), 0);
        Check.same("the first one", house.paired(0), -1);
        Check.same("the second one", house.paired(1), 0);
    }

    private static void wrongInputs() {
        ThreadHouse house = new ThreadHouse();
        Check.same("a row", Check.lined(house, 2, 9, 4, 5, 4, 6), 1);
        Check.same("n -1", Check.lined(house, -1, 9, 4, 5), -1);
        Check.same("n 3 of 2", Check.lined(house, 3, 9, 4, 5), -1);
        Check.same("least", Check.lined(house, Integer.MIN_VALUE, 9, 4, 5), -1);
        Check.same("most", Check.lined(house, Integer.MAX_VALUE, 9, 4, 5), -1);
        Check.same("gap -1", Check.lined(house, 1, -1, 4, 5), -1);
        Check.same("gap 256", Check.lined(house, 1, 256, 4, 5), -1);
        Check.same("49 in the first", Check.lined(house, 49, 9, new int[50]), -1);
        Check.same("49 in the second", Check.lined(house, 1, 9, new int[50]), -1);
        Check.same("97 in all", Check.lined(house, 48, 9, new int[97]), -1);
        Check.same("the latest stays", house.paired(0), 0);
        Check.same("the latest stays", house.paired(1), 1);
        Check.same("paired(2)", house.paired(2), -1);
        Check.same("paired(-1)", house.paired(-1), -1);
        Check.same("paired(48)", house.paired(48), -1);
        Check.same("paired(MAX)", house.paired(Integer.MAX_VALUE), -1);
    }

    private static void longest() {
        ThreadHouse house = new ThreadHouse();
        int[] rows = new int[96];
        for (int i = 0; i < 48; i++) {
            rows[i] = 5 * i;
            rows[48 + i] = 5 * i + 15;
        }
        Check.same("48 each", Check.lined(house, 48, 2, rows), 12);
        Check.same("spliced", house.paired(2), -1);
        Check.same("spliced", house.paired(3), 0);
        Check.same("spliced", house.paired(47), 44);
        for (int i = 0; i < 48; i++) {
            rows[i] = 255;
            rows[48 + i] = 0;
        }
        Check.same("dearest", Check.lined(house, 48, 255, rows), 48 * 255);
        Check.same("one row of 48", Check.lined(house, 48, 255, new int[48]), 48 * 255);
        Check.same("one row of 48", Check.lined(house, 0, 255, new int[48]), 48 * 255);
    }

    private static void againstAllWays(Random random) {
        LinedTest test = new LinedTest();
        int n = random.nextInt(6);
        int m = random.nextInt(6);
        int most = 1 + random.nextInt(6);
        int base = random.nextBoolean() ? 0 : 250;
        test.first = new int[n];
        test.second = new int[m];
        test.pairs = new int[n];
        test.gap = random.nextInt(5);
        int[] rows = new int[n + m];
        for (int i = 0; i < n + m; i++) {
            rows[i] = base + random.nextInt(Math.min(most, 6));
            if (i < n) {
                test.first[i] = rows[i];
            } else {
                test.second[i - n] = rows[i];
            }
        }
        test.tryFrom(0, 0, 0);
        ThreadHouse house = new ThreadHouse();
        Check.same("cost", Check.lined(house, n, test.gap, rows), test.least);
        for (int i = 0; i < n; i++) {
            Check.same("paired", house.paired(i), test.bestPairs[i]);
        }
    }

    private void tryFrom(int i, int j, int cost) {
        if (i == first.length && j == second.length) {
            if (cost < least) {
                least = cost;
                bestPairs = pairs.clone();
            }
            return;
        }
        if (i < first.length && j < second.length) {
            pairs[i] = j;
            tryFrom(i + 1, j + 1, cost + Math.abs(first[i] - second[j]));
        }
        if (i < first.length) {
            pairs[i] = -1;
            tryFrom(i + 1, j, cost + gap);
        }
        if (j < second.length) {
            tryFrom(i, j + 1, cost + gap);
        }
    }
}
