/** The edges of rows LINED UP (promises 22 and 23), sentence by sentence. */
public final class EdgeLinedTest {
    private static final int NONE = -1;
    private static final int LEAST = Integer.MIN_VALUE;
    private static final int MOST = Integer.MAX_VALUE;

    public static void main(String[] args) {
        lengths();
        emptyRows();
        fullRows();
        gaps();
        bytes();
        noneCrossing();
        first();
        latest();
        noSuchPair();
        Check.finish();
    }

    private static void lengths() {
        Check.sentence("the tape's first n bytes and those behind them are the rows (0 to 255 each), 0 to 48 each");
        int[] counts = {0, 1, 2, 47, 48, 49, 95, 96, 97, 440};
        int[] firsts = {LEAST, -1, 0, 1, 2, 46, 47, 48, 49, 50, 95, 96, 97, 440, 441, MOST};
        for (int bytes : counts) {
            for (int n : firsts) {
                ThreadHouse house = new ThreadHouse();
                boolean taken = n >= 0 && n <= 48 && n <= bytes && bytes - n <= 48;
                int due = taken ? Math.abs(bytes - 2 * n) : NONE;
                Check.same("lined(" + n + ", 1) of " + bytes + " bytes", Check.lined(house, n, 1, new int[bytes]), due);
                Check.same("the tape", house.count(5), 0);
            }
        }
    }

    private static void emptyRows() {
        ThreadHouse house = new ThreadHouse();
        Check.same("both empty", house.lined(0, 255), 0);
        Check.same("none paired", house.paired(0), NONE);
        Check.same("the first empty", Check.lined(house, 0, 7, 1, 2, 3), 21);
        Check.same("none paired", house.paired(0), NONE);
        Check.same("the second empty", Check.lined(house, 3, 7, 1, 2, 3), 21);
        for (int k = 0; k <= 3; k++) {
            Check.same("paired(" + k + ")", house.paired(k), NONE);
        }
        Check.same("the second at its end", Check.lined(house, 3, 0, 5, 0, 0, 5), 0);
        Check.same("paired(0)", house.paired(0), 0);
        Check.same("paired(1)", house.paired(1), NONE);
        Check.same("paired(2)", house.paired(2), NONE);
        Check.same("the first at its end", Check.lined(house, 1, 1, 5, 0, 5, 5), 2);
        Check.same("paired(0)", house.paired(0), 1);
        Check.same("paired(1)", house.paired(1), NONE);
    }

    private static void fullRows() {
        ThreadHouse house = new ThreadHouse();
        int[] rows = new int[96];
        for (int i = 0; i < 48; i++) {
            rows[i] = 255;
        }
        Check.same("all 255 off", Check.lined(house, 48, 255, rows), 48 * 255);
        for (int k = 0; k < 48; k++) {
            Check.same("paired(" + k + ")", house.paired(k), k);
        }
        Check.same("paired(48)", house.paired(48), NONE);
        Check.same("dearer than two gaps", Check.lined(house, 48, 127, rows), 96 * 127);
        Check.same("none paired", house.paired(0), NONE);
        Check.same("none paired", house.paired(47), NONE);
        for (int i = 0; i < 48; i++) {
            rows[i] = 5 * i;
            rows[48 + i] = 5 * (i + 1);
        }
        Check.same("shifted by one", Check.lined(house, 48, 3, rows), 6);
        Check.same("the first alone", house.paired(0), NONE);
        for (int k = 1; k < 48; k++) {
            Check.same("paired(" + k + ")", house.paired(k), k - 1);
        }
    }

    private static void gaps() {
        Check.sentence("NONE: not as told, or a gap not 0 to 255.");
        int[] refused = {-1, -255, -256, LEAST, 256, 257, 511, MOST};
        for (int gap : refused) {
            ThreadHouse house = new ThreadHouse();
            Check.same("gap " + gap, Check.lined(house, 1, gap, 9, 9), NONE);
            Check.same("the tape", house.count(5), 0);
            Check.same("none paired", house.paired(0), NONE);
            Check.same("gap " + gap + ", both empty", house.lined(0, gap), NONE);
        }
        int[] taken = {0, 1, 2, 127, 128, 254, 255};
        for (int gap : taken) {
            ThreadHouse house = new ThreadHouse();
            Check.same("gap " + gap, Check.lined(house, 2, gap, 9, 9, 9), gap);
            Check.same("gap " + gap, Check.lined(house, 1, gap, 255, 0), Math.min(255, 2 * gap));
        }
    }

    private static void bytes() {
        Check.sentence("a pair costs their difference, a number of either without a pair costs a told gap");
        int[] numbers = {0, 1, 127, 128, 129, 254, 255};
        for (int a : numbers) {
            for (int b : numbers) {
                ThreadHouse house = new ThreadHouse();
                Check.same(a + " with " + b, Check.lined(house, 1, 255, a, b), Math.abs(a - b));
                Check.same("paired", house.paired(0), 0);
            }
        }
    }

    private static void noneCrossing() {
        Check.sentence("numbers of both are paired, none crossing");
        ThreadHouse house = new ThreadHouse();
        Check.same("turned round", Check.lined(house, 2, 10, 1, 200, 200, 1), 20);
        Check.same("the first with none", house.paired(0), NONE);
        Check.same("the second with its like", house.paired(1), 0);
    }

    private static void first() {
        Check.sentence("of like ones the first: from the left on a pair ahead of one of the first row alone ahead of one of the second row alone.");
        ThreadHouse house = new ThreadHouse();
        Check.same("a pair as dear as two gaps", Check.lined(house, 1, 5, 10, 20), 10);
        Check.same("is a pair", house.paired(0), 0);
        Check.same("one dearer", Check.lined(house, 1, 5, 10, 21), 10);
        Check.same("is none", house.paired(0), NONE);
        Check.same("for nothing", Check.lined(house, 1, 0, 10, 10), 0);
        Check.same("a pair", house.paired(0), 0);
        Check.same("either of two", Check.lined(house, 2, 3, 7, 7, 7), 3);
        Check.same("the first", house.paired(0), 0);
        Check.same("not the second", house.paired(1), NONE);
        Check.same("with either of two", Check.lined(house, 1, 3, 7, 7, 7), 3);
        Check.same("with the first", house.paired(0), 0);
        // 1 9 and 9 1: one pair either way; the first row alone goes ahead, so its second is paired.
        Check.same("either way", Check.lined(house, 2, 1, 1, 9, 9, 1), 2);
        Check.same("the first of the first row alone", house.paired(0), NONE);
        Check.same("its second", house.paired(1), 0);
        Check.same("likewise further on", Check.lined(house, 3, 1, 7, 1, 9, 7, 9, 1), 2);
        Check.same("7", house.paired(0), 0);
        Check.same("1 alone", house.paired(1), NONE);
        Check.same("9", house.paired(2), 1);
        Check.same("all free", Check.lined(house, 3, 0, 1, 2, 3, 2, 3, 1), 0);
        Check.same("1", house.paired(0), NONE);
        Check.same("2", house.paired(1), 0);
        Check.same("3", house.paired(2), 1);
    }

    private static void latest() {
        Check.sentence("With which place of the second row the k-th of the first row is paired by the latest lined() that was not NONE");
        ThreadHouse house = new ThreadHouse();
        Check.same("lined up", Check.lined(house, 2, 9, 1, 2, 0, 1, 2), 9);
        int[][] refused = {{-1, 0}, {3, 0}, {2, -1}, {2, 256}, {MOST, 0}, {LEAST, 0}};
        for (int[] asked : refused) {
            Check.same("lined(" + asked[0] + ", " + asked[1] + ")", Check.lined(house, asked[0], asked[1], 5, 6), NONE);
            Check.same("paired(0)", house.paired(0), 1);
            Check.same("paired(1)", house.paired(1), 2);
        }
        Check.same("too long a row", Check.lined(house, 0, 1, new int[49]), NONE);
        Check.same("paired(1)", house.paired(1), 2);
        Check.same("too long a row", Check.lined(house, 49, 1, new int[49]), NONE);
        Check.same("paired(1)", house.paired(1), 2);
        Check.same("lined up anew", Check.lined(house, 1, 9, 1, 1), 0);
        Check.same("paired(0)", house.paired(0), 0);
        Check.same("paired(1)", house.paired(1), NONE);
    }

    private static void noSuchPair() {
        Check.sentence("NONE: with none, there is none such, or ahead of any.");
        ThreadHouse house = new ThreadHouse();
        int[] never = {-1, LEAST, 2, 47, 48, 49, MOST};
        Check.same("ahead of any", house.paired(0), NONE);
        Check.lined(house, 3, 0, 1, 1);
        Check.same("still ahead of any", house.paired(0), NONE);
        Check.same("lined up", Check.lined(house, 2, 1, 5, 5, 5, 5, 5), 1);
        for (int k : never) {
            Check.same("paired(" + k + ")", house.paired(k), NONE);
        }
        Check.same("paired(1)", house.paired(1), 1);
    }
}
