import java.math.BigInteger;

/** The edges of FALSE SHARES (promise 24), sentence by sentence. */
public final class EdgeShareTest {
    private static final int LEAST = Integer.MIN_VALUE;
    private static final int MOST = Integer.MAX_VALUE;

    public static void main(String[] args) {
        aboveAll();
        aboveNone();
        withoutDivisor();
        withoutNoise();
        ofTheText();
        noSuch();
        Check.finish();
    }

    private static void share(ThreadHouse house, int k, int above, long upper, long lower) {
        String what = "falseShare(" + k + ", " + above;
        Check.same(what + ", 0)", house.falseShare(k, above, 0), upper);
        Check.same(what + ", 1)", house.falseShare(k, above, 1), lower);
    }

    private static void aboveAll() {
        Check.sentence("the share of all rows of k noises (each -noise to noise, all alike often) of which the sum is above a number");
        for (int noise = 1; noise <= 9; noise++) {
            ThreadHouse house = Check.house("noise " + noise + ";");
            for (int k = 1; k <= 12; k++) {
                long all = BigInteger.valueOf(2 * noise + 1).pow(k).longValueExact();
                int most = k * noise;
                share(house, k, -most - 1, 1, 1);
                share(house, k, -most, all - 1, all);
                share(house, k, most - 1, 1, all);
            }
            share(house, 12, LEAST, 1, 1);
            share(house, 1, LEAST, 1, 1);
        }
    }

    private static void aboveNone() {
        Check.sentence("two numbers without a divisor in common (0 by 1).");
        for (int noise = 0; noise <= 9; noise++) {
            ThreadHouse house = Check.house("noise " + noise + ";");
            for (int k = 1; k <= 12; k++) {
                share(house, k, k * noise, 0, 1);
                share(house, k, k * noise + 1, 0, 1);
                share(house, k, MOST, 0, 1);
            }
        }
    }

    private static void withoutDivisor() {
        ThreadHouse one = Check.house("noise 1;");
        share(one, 2, 0, 1, 3);
        share(one, 2, -1, 2, 3);
        share(one, 2, 1, 1, 9);
        share(one, 3, -2, 23, 27);
        share(one, 3, 0, 10, 27);
        ThreadHouse four = Check.house("noise 4;");
        share(four, 1, 1, 1, 3);
        share(four, 1, -2, 2, 3);
        share(four, 1, 0, 4, 9);
        for (int noise = 1; noise <= 9; noise++) {
            ThreadHouse house = Check.house("noise " + noise + ";");
            for (int above = -12 * noise - 1; above <= 12 * noise; above += 1 + noise / 2) {
                BigInteger upper = BigInteger.valueOf(house.falseShare(12, above, 0));
                BigInteger lower = BigInteger.valueOf(house.falseShare(12, above, 1));
                Check.same("a divisor in common", upper.gcd(lower).longValueExact(), 1);
                Check.same("no more than all", upper.compareTo(lower) <= 0 && lower.signum() > 0, true);
            }
        }
    }

    private static void withoutNoise() {
        ThreadHouse house = new ThreadHouse();
        for (int k = 1; k <= 12; k++) {
            share(house, k, -1, 1, 1);
            share(house, k, 0, 0, 1);
            share(house, k, LEAST, 1, 1);
        }
    }

    private static void ofTheText() {
        Check.sentence("FALSE SHARE by the TEXT's noise, of k noises (1 to 12) above a number");
        ThreadHouse house = Check.house("noise 2;");
        share(house, 1, 0, 2, 5);
        Check.same("a FAULT", Check.text(house, "noise 3;noise 4;"), -9);
        share(house, 1, 0, 2, 5);
        Check.same("a text", Check.text(house, "noise 3;"), 1);
        share(house, 1, 0, 3, 7);
        Check.hour(house, new int[48]);
        Check.same("there are HOURS", Check.text(house, "noise 4;"), -1000);
        share(house, 1, 0, 3, 7);
        share(house, 12, 35, 1, 13841287201L);
        share(house, 1, 2, 1, 7);
    }

    private static void noSuch() {
        Check.sentence("NoSuchElementException: no such k, what.");
        int[] noCount = {0, -1, LEAST, 13, 14, MOST};
        int[] noWhat = {-1, LEAST, 2, 3, MOST};
        String[] texts = {"", "noise 1;", "noise 9;"};
        for (String text : texts) {
            ThreadHouse house = Check.house(text);
            for (int k : noCount) {
                Check.throwsNoSuch("k " + k, () -> house.falseShare(k, 0, 0));
                Check.throwsNoSuch("k " + k, () -> house.falseShare(k, 0, 1));
            }
            for (int what : noWhat) {
                Check.throwsNoSuch("what " + what, () -> house.falseShare(1, 0, what));
                Check.throwsNoSuch("what " + what, () -> house.falseShare(12, 0, what));
            }
            share(house, 1, -10, 1, 1);
            share(house, 12, 108, 0, 1);
        }
    }
}
