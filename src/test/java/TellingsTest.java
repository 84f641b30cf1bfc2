import java.math.BigInteger;
import java.util.Random;

/** Promises 15 and 16: how many TELLINGS a smeared row has, and their bounds foot by foot. */
public final class TellingsTest {
    private static final BigInteger MOST = BigInteger.TEN.pow(15);

    public static void main(String[] args) {
        told();
        wrongInputs();
        keptBounds();
        tooMany();
        for (int seed = 0; seed < 24; seed++) {
            allFourFeet(new Random(seed));
        }
        for (int seed = 0; seed < 150; seed++) {
            againstPlainCount(new Random(seed));
        }
        Check.finish();
    }

    private static void told() {
        ThreadHouse house = Check.house("feet 4;");
        Check.same("nothing felt", Check.tellings(house, 0, 0, 0, 0), 1);
        Check.same("one telling", Check.tellings(house, 30, 15, 0, 0), 1);
        Check.same("foot 0", house.mayFeel(0, 0), 15);
        Check.same("foot 0", house.mayFeel(0, 1), 15);
        Check.same("below 0", Check.tellings(house, -30, -15, 0, 0), 1);
        Check.same("foot 0", house.mayFeel(0, 0), -15);
        Check.same("16 is too much", Check.tellings(house, 32, 16, 0, 0), 0);
        Check.same("all 15", Check.tellings(house, 45, 60, 60, 45), 1);
        Check.same("all -15", Check.tellings(house, -45, -60, -60, -45), 1);
        Check.same("1 more", Check.tellings(house, 46, 60, 60, 45), 0);
        Check.same("most", Check.tellings(house, 32767, 32767, 32767, 32767), 0);
        Check.same("least", Check.tellings(house, -32768, -32768, -32768, -32768), 0);
        ThreadHouse noisy = Check.house("feet 4;noise 1;");
        Check.same("noise lets more through", Check.tellings(noisy, 46, 61, 61, 46), 1);
        Check.same("and no more", Check.tellings(noisy, 47, 60, 60, 45), 0);
    }

    private static void wrongInputs() {
        ThreadHouse house = Check.house("feet 4;");
        Check.throwsNoSuch("ahead of any", () -> house.mayFeel(0, 0));
        Check.tape(house, new int[7]);
        Check.same("7 bytes", house.tellings(), -1);
        Check.tape(house, new int[9]);
        Check.same("9 bytes", house.tellings(), -1);
        Check.tape(house, new int[0]);
        Check.same("no bytes", house.tellings(), -1);
        Check.tape(house, new int[10]);
        Check.same("a foot more", house.tellings(), -1);
        Check.throwsNoSuch("still ahead of any", () -> house.mayFeel(0, 0));
        Check.tellings(house, 1, 0, 0, 0);
        Check.throwsNoSuch("none told", () -> house.mayFeel(0, 0));
        Check.tellings(house, 0, 0, 0, 0);
        Check.same("foot 3", house.mayFeel(3, 1), 0);
        Check.throwsNoSuch("foot 4", () -> house.mayFeel(4, 0));
        Check.throwsNoSuch("foot -1", () -> house.mayFeel(-1, 0));
        Check.throwsNoSuch("what 2", () -> house.mayFeel(0, 2));
        Check.throwsNoSuch("what -1", () -> house.mayFeel(0, -1));
        Check.throwsNoSuch("most", () -> house.mayFeel(Integer.MAX_VALUE, 1));
    }

    /** Bounds are those of the latest row that had some, with its own feet. */
    private static void keptBounds() {
        ThreadHouse house = Check.house("feet 6;");
        Check.same("one", Check.tellings(house, 4, 5, 1, -2, -1, 0), 1);
        Check.text(house, "feet 4;");
        Check.same("none", Check.tellings(house, 1, 0, 0, 0), 0);
        Check.same("of six feet", house.mayFeel(5, 0), 0);
        Check.same("of six feet", house.mayFeel(0, 0), 1);
        Check.tape(house, new int[3]);
        house.tellings();
        Check.same("of six feet", house.mayFeel(1, 1), 2);
        Check.same("one", Check.tellings(house, 0, 0, 0, 0), 1);
        Check.throwsNoSuch("of four feet", () -> house.mayFeel(4, 0));
        Check.same("of four feet", house.mayFeel(0, 0), 0);
    }

    private static void tooMany() {
        ThreadHouse house = Check.house("feet 48;noise 9;");
        Check.same("more than can be told", Check.tellings(house, new int[48]), 1000000000000000L);
        Check.same("least", house.mayFeel(20, 0), -15);
        Check.same("most", house.mayFeel(20, 1), 15);
    }

    private static void allFourFeet(Random random) {
        int noise = random.nextInt(5);
        ThreadHouse house = Check.house("feet 4;noise " + noise + ";");
        int[] row = smeared(random, 4, noise);
        long count = 0;
        int[] least = {99, 99, 99, 99};
        int[] most = {-99, -99, -99, -99};
        int[] x = new int[4];
        for (int code = 0; code < 31 * 31 * 31 * 31; code++) {
            int rest = code;
            for (int i = 0; i < 4; i++) {
                x[i] = rest % 31 - 15;
                rest /= 31;
            }
            boolean fits = true;
            for (int i = 0; i < 4 && fits; i++) {
                int sum = 2 * x[i] + (i > 0 ? x[i - 1] : 0) + (i < 3 ? x[i + 1] : 0);
                fits = Math.abs(sum - row[i]) <= noise;
            }
            if (fits) {
                count++;
                for (int i = 0; i < 4; i++) {
                    least[i] = Math.min(least[i], x[i]);
                    most[i] = Math.max(most[i], x[i]);
                }
            }
        }
        Check.same("tellings", Check.tellings(house, row), count);
        for (int i = 0; i < 4 && count > 0; i++) {
            Check.same("least", house.mayFeel(i, 0), least[i]);
            Check.same("most", house.mayFeel(i, 1), most[i]);
        }
    }

    private static int[] smeared(Random random, int feet, int noise) {
        int[] x = new int[feet + 2];
        for (int i = 1; i <= feet; i++) {
            x[i] = random.nextInt(31) - 15;
        }
        int[] row = new int[feet];
        for (int i = 0; i < feet; i++) {
            row[i] = x[i] + 2 * x[i + 1] + x[i + 2] + random.nextInt(2 * noise + 1) - noise;
        }
        if (random.nextInt(4) == 0) {
            row[random.nextInt(feet)] += random.nextInt(9) - 4;
        }
        return row;
    }

    /** Counts with no limit; a bound is found by asking whether some telling has that feeling. */
    private static void againstPlainCount(Random random) {
        int feet = 4 + random.nextInt(45);
        int noise = random.nextInt(10);
        ThreadHouse house = Check.house("feet " + feet + ";noise " + noise + ";");
        int[] row = smeared(random, feet, noise);
        BigInteger count = plainCount(row, noise, -1, 0);
        Check.same("tellings", Check.tellings(house, row), count.min(MOST).longValueExact());
        if (count.signum() == 0) {
            return;
        }
        for (int ask = 0; ask < 2; ask++) {
            int i = random.nextInt(feet);
            int least = -15;
            while (plainCount(row, noise, i, least).signum() == 0) {
                least++;
            }
            int most = 15;
            while (plainCount(row, noise, i, most).signum() == 0) {
                most--;
            }
            Check.same("least", house.mayFeel(i, 0), least);
            Check.same("most", house.mayFeel(i, 1), most);
        }
    }

    private static BigInteger plainCount(int[] row, int noise, int foot, int feeling) {
        BigInteger[][] ways = new BigInteger[31][31];
        for (int a = 0; a < 31; a++) {
            for (int b = 0; b < 31; b++) {
                boolean begins = a == 15 && (foot != 0 || b - 15 == feeling);
                ways[a][b] = begins ? BigInteger.ONE : BigInteger.ZERO;
            }
        }
        for (int i = 0; i < row.length; i++) {
            BigInteger[][] next = new BigInteger[31][31];
            for (BigInteger[] line : next) {
                java.util.Arrays.fill(line, BigInteger.ZERO);
            }
            for (int a = 0; a < 31; a++) {
                for (int b = 0; b < 31; b++) {
                    for (int c = 0; c < 31 && ways[a][b].signum() > 0; c++) {
                        boolean may = i + 1 == row.length ? c == 15 : foot != i + 1 || c - 15 == feeling;
                        int sum = a + 2 * b + c - 60;
                        if (may && Math.abs(sum - row[i]) <= noise) {
                            next[b][c] = next[b][c].add(ways[a][b]);
                        }
                    }
                }
            }
            ways = next;
        }
        BigInteger all = BigInteger.ZERO;
        for (int b = 0; b < 31; b++) {
            all = all.add(ways[b][15]);
        }
        return all;
    }
}
