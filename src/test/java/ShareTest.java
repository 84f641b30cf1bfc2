import java.math.BigInteger;

/** Promise 24: false shares exactly. */
public final class ShareTest {
    public static void main(String[] args) {
        for (int noise = 0; noise <= 9; noise++) {
            BigInteger[] ways = {BigInteger.ONE};
            for (int k = 1; k <= 12; k++) {
                ThreadHouse house = Check.house("noise " + noise + ";");
                ways = oneMore(ways, noise);
                for (int above = -k * noise - 2; above <= k * noise + 1; above++) {
                    compare(house, ways, k, above);
                }
            }
        }
        told();
        wrongInputs();
        Check.finish();
    }

    private static BigInteger[] oneMore(BigInteger[] ways, int noise) {
        BigInteger[] more = new BigInteger[ways.length + 2 * noise];
        for (int s = 0; s < more.length; s++) {
            more[s] = BigInteger.ZERO;
            for (int back = 0; back <= 2 * noise; back++) {
                if (s - back >= 0 && s - back < ways.length) {
                    more[s] = more[s].add(ways[s - back]);
                }
            }
        }
        return more;
    }

    private static void compare(ThreadHouse house, BigInteger[] ways, int k, int above) {
        BigInteger all = BigInteger.ZERO;
        BigInteger some = BigInteger.ZERO;
        for (int s = 0; s < ways.length; s++) {
            all = all.add(ways[s]);
            some = s - (ways.length - 1) / 2 > above ? some.add(ways[s]) : some;
        }
        BigInteger common = all.gcd(some);
        Check.same("upper " + k + " " + above, house.falseShare(k, above, 0), some.divide(common).longValueExact());
        Check.same("lower " + k + " " + above, house.falseShare(k, above, 1), all.divide(common).longValueExact());
    }

    private static void told() {
        ThreadHouse house = Check.house("noise 9;");
        Check.same("one row of all", house.falseShare(12, 107, 0), 1);
        Check.same("19 times itself 12 times", house.falseShare(12, 107, 1), 2213314919066161L);
        Check.same("none", house.falseShare(12, 108, 0), 0);
        Check.same("by 1", house.falseShare(12, 108, 1), 1);
        Check.same("above the most", house.falseShare(12, Integer.MAX_VALUE, 0), 0);
        Check.same("above the least", house.falseShare(12, Integer.MIN_VALUE, 0), 1);
        Check.same("above the least", house.falseShare(12, Integer.MIN_VALUE, 1), 1);
        Check.same("of the text's noise", Check.text(house, "noise 1;"), 1);
        Check.same("of the text's noise", house.falseShare(1, 0, 1), 3);
    }

    private static void wrongInputs() {
        ThreadHouse house = Check.house("noise 1;");
        Check.throwsNoSuch("k 0", () -> house.falseShare(0, 0, 0));
        Check.throwsNoSuch("k -1", () -> house.falseShare(-1, 0, 0));
        Check.throwsNoSuch("k 13", () -> house.falseShare(13, 0, 1));
        Check.throwsNoSuch("k MAX", () -> house.falseShare(Integer.MAX_VALUE, 0, 1));
        Check.throwsNoSuch("what -1", () -> house.falseShare(1, 0, -1));
        Check.throwsNoSuch("what 2", () -> house.falseShare(1, 0, 2));
        Check.same("k 12", house.falseShare(12, 11, 1), 531441);
    }
}
