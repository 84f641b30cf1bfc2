/** The edges of TELLINGS (promises 15 and 16), sentence by sentence. */
public final class EdgeTellingsTest {
    private static final int NONE = -1;
    private static final int LEAST = Integer.MIN_VALUE;
    private static final int MOST = Integer.MAX_VALUE;

    public static void main(String[] args) {
        mayFeelSoMuch();
        differs();
        everyFoot();
        pairsOfBytes();
        tooMany();
        otherLengths();
        oneRowBehindAnother();
        leastAndMost();
        latestThatToldSome();
        noSuchBound();
        Check.finish();
    }

    /** The row that comes of what the feet feel. */
    private static int[] smeared(int... felt) {
        int[] row = new int[felt.length];
        for (int i = 0; i < felt.length; i++) {
            row[i] = 2 * felt[i] + (i > 0 ? felt[i - 1] : 0) + (i + 1 < felt.length ? felt[i + 1] : 0);
        }
        return row;
    }

    private static void mayFeelSoMuch() {
        Check.sentence("what the feet may feel (-15 to 15 each)");
        for (int foot = 0; foot < 4; foot++) {
            for (int felt = -18; felt <= 18; felt++) {
                ThreadHouse house = Check.house("feet 4;");
                int[] feels = new int[4];
                feels[foot] = felt;
                boolean may = felt >= -15 && felt <= 15;
                Check.same("foot " + foot + " feels " + felt, Check.tellings(house, smeared(feels)), may ? 1 : 0);
                for (int i = 0; i < 4 && may; i++) {
                    Check.same("foot " + i + " at the least", house.mayFeel(i, 0), feels[i]);
                    Check.same("foot " + i + " at the most", house.mayFeel(i, 1), feels[i]);
                }
            }
        }
        int[] all = new int[48];
        java.util.Arrays.fill(all, 15);
        ThreadHouse house = Check.house("feet 48;");
        Check.same("all 15", Check.tellings(house, smeared(all)), 1);
        Check.same("the last foot", house.mayFeel(47, 1), 15);
        java.util.Arrays.fill(all, -15);
        Check.same("all -15", Check.tellings(house, smeared(all)), 1);
        Check.same("the last foot", house.mayFeel(47, 0), -15);
        all[47] = -16;
        Check.same("one of them -16", Check.tellings(house, smeared(all)), 0);
    }

    private static void differs() {
        Check.sentence("so that the sum over a foot (twice) and the ones beside it differs from the row's number by noise at most");
        // All at 15: no sum can be greater, so the row's number alone tells how far off it is.
        for (int noise = 0; noise <= 9; noise++) {
            for (int foot = 0; foot < 4; foot++) {
                for (int sign = -1; sign <= 1; sign += 2) {
                    ThreadHouse house = Check.house("feet 4;noise " + noise + ";");
                    int[] row = smeared(15 * sign, 15 * sign, 15 * sign, 15 * sign);
                    row[foot] += sign * noise;
                    Check.same("noise " + noise + " at foot " + foot, Check.tellings(house, row) > 0, true);
                    row[foot] += sign;
                    Check.same("one more than noise " + noise, Check.tellings(house, row), 0);
                }
            }
        }
        ThreadHouse one = Check.house("feet 4;noise 1;");
        Check.same("noise everywhere", Check.tellings(one, 46, 61, 61, 46), 1);
        Check.same("below too", Check.tellings(one, -46, -61, -61, -46), 1);
    }

    private static void everyFoot() {
        Check.sentence("for every foot.");
        int[] feetTold = {4, 5, 48};
        for (int feet : feetTold) {
            ThreadHouse house = Check.house("feet " + feet + ";");
            int[] row = new int[feet];
            Check.same("nothing felt", Check.tellings(house, row), 1);
            int[] feet3 = {0, feet / 2, feet - 1};
            for (int foot : feet3) {
                row[foot] = 1000;
                Check.same("foot " + foot + " of " + feet, Check.tellings(house, row), 0);
                row[foot] = 0;
            }
        }
    }

    private static void pairsOfBytes() {
        Check.sentence("The tape's pairs of bytes (the higher one first, below 0 as 65536 more) are a smeared row, one for each foot");
        ThreadHouse house = Check.house("feet 4;");
        Check.tape(house, 0, 30, 0, 15, 0, 0, 0, 0);
        Check.same("bytes", house.tellings(), 1);
        Check.same("foot 0", house.mayFeel(0, 0), 15);
        Check.tape(house, 255, 256 - 30, 255, 256 - 15, 0, 0, 0, 0);
        Check.same("below 0", house.tellings(), 1);
        Check.same("foot 0", house.mayFeel(0, 1), -15);
        Check.tape(house, 0, 256 - 30, 0, 256 - 15, 0, 0, 0, 0);
        Check.same("226 and 241", house.tellings(), 0);
        Check.tape(house, 30, 0, 15, 0, 0, 0, 0, 0);
        Check.same("the lower one first", house.tellings(), 0);
        Check.tape(house, 1, 30, 0, 15, 0, 0, 0, 0);
        Check.same("286", house.tellings(), 0);
        int[] far = {32767, -32768, 32766, -32767, 256, -256, 255, -255, 128, -128};
        for (int number : far) {
            int[] row = {number, number, number, number};
            Check.same("all " + number, Check.tellings(house, row), 0);
        }
        // Each number counts with both its bytes: so far off it comes of nothing.
        int[] off = {64, 128, 256, 384, 512, 1024, 16384, 32640};
        for (int foot = 0; foot < 4; foot++) {
            for (int much : off) {
                for (int sign = -1; sign <= 1; sign += 2) {
                    int[] row = smeared(-15, 15, -15, 15);
                    row[foot] += sign * much;
                    Check.same("off by " + sign * much, Check.tellings(house, row), 0);
                }
            }
        }
        Check.same("not off", Check.tellings(house, smeared(-15, 15, -15, 15)), 1);
    }

    private static void tooMany() {
        Check.sentence("how many TELLINGS (1000000000000000, if more)");
        ThreadHouse house = Check.house("feet 17;noise 9;");
        int[] below = {-19, 2, 13, -10, -16, 17, -13, 9, 17, -9, 9, 15, -18, -7, -9, 3, 0};
        int[] above = {12, 19, 12, 1, -17, 10, -11, 19, 16, 9, 14, 15, -12, 0, 10, -14, 3};
        Check.same("just below", Check.tellings(house, below), 999888659821755L);
        Check.same("just above, 1000041835099402", Check.tellings(house, above), 1000000000000000L);
        Check.same("just below again", Check.tellings(house, below), 999888659821755L);
        Check.same("far more", Check.tellings(house, new int[17]), 1000000000000000L);
        Check.same("at the least", house.mayFeel(8, 0), -15);
        Check.same("at the most", house.mayFeel(8, 1), 15);
        ThreadHouse most = Check.house("feet 48;noise 9;");
        Check.same("the most there can be", Check.tellings(most, new int[48]), 1000000000000000L);
        // More ways than can be counted up to the last foot, and none past it.
        int[] row = new int[48];
        row[47] = 32767;
        Check.same("and none in the end", Check.tellings(most, row), 0);
        ThreadHouse fourteen = Check.house("feet 14;noise 9;");
        Check.same("14 feet, 4085696387207013", Check.tellings(fourteen, new int[14]), 1000000000000000L);
        ThreadHouse thirteen = Check.house("feet 13;noise 9;");
        Check.same("13 feet", Check.tellings(thirteen, new int[13]), 307119388762761L);
    }

    private static void otherLengths() {
        Check.sentence("NONE: another length.");
        int[] feetTold = {4, 24, 48};
        for (int feet : feetTold) {
            ThreadHouse house = Check.house(feet == 24 ? "" : "feet " + feet + ";");
            int[] others = {0, 1, 2, feet, 2 * feet - 2, 2 * feet - 1, 2 * feet + 1, 2 * feet + 2, 4 * feet, 440};
            for (int length : others) {
                Check.tape(house, new int[length]);
                Check.same(length + " bytes for " + feet + " feet", house.tellings(), NONE);
                Check.same("the tape", house.count(5), 0);
            }
            Check.tape(house, new int[2 * feet]);
            Check.same(2 * feet + " bytes for " + feet + " feet", house.tellings(), 1);
        }
    }

    private static void oneRowBehindAnother() {
        // What one row leaves behind must not be counted with the next one.
        ThreadHouse house = Check.house("feet 4;noise 9;");
        long first = Check.tellings(house, 0, 0, 0, 0);
        long second = Check.tellings(house, 20, 40, 40, 20);
        long third = Check.tellings(house, -45, -60, -60, -45);
        Check.same("first again", Check.tellings(house, 0, 0, 0, 0), first);
        Check.same("none between", Check.tellings(house, 999, 0, 0, 0), 0);
        Check.same("second again", Check.tellings(house, 20, 40, 40, 20), second);
        Check.same("third again", Check.tellings(house, -45, -60, -60, -45), third);
        ThreadHouse other = Check.house("feet 4;noise 9;");
        Check.same("third alone", Check.tellings(other, -45, -60, -60, -45), third);
        Check.same("second behind it", Check.tellings(other, 20, 40, 40, 20), second);
    }

    private static void leastAndMost() {
        Check.sentence("What foot i feels at the least (what 0), at the most (1) in all TELLINGS");
        // Feet 0 and 1 may swing against one another by the noise, and the others with them.
        ThreadHouse house = Check.house("feet 4;noise 1;");
        int[] least = new int[4];
        int[] most = new int[4];
        java.util.Arrays.fill(least, 99);
        java.util.Arrays.fill(most, -99);
        long all = 0;
        for (int code = 0; code < 31 * 31 * 31 * 31; code++) {
            int[] felt = {code % 31 - 15, code / 31 % 31 - 15, code / 961 % 31 - 15, code / 29791 - 15};
            int[] row = smeared(felt);
            boolean tells = Math.abs(row[0] - 3) <= 1 && Math.abs(row[1] - 7) <= 1 && Math.abs(row[2] + 2) <= 1 && Math.abs(row[3]) <= 1;
            all += tells ? 1 : 0;
            for (int i = 0; i < 4 && tells; i++) {
                least[i] = Math.min(least[i], felt[i]);
                most[i] = Math.max(most[i], felt[i]);
            }
        }
        Check.same("TELLINGS", Check.tellings(house, 3, 7, -2, 0), all);
        Check.same("some", all > 1, true);
        for (int i = 0; i < 4; i++) {
            Check.same("foot " + i + " at the least", house.mayFeel(i, 0), least[i]);
            Check.same("foot " + i + " at the most", house.mayFeel(i, 1), most[i]);
        }
    }

    private static void latestThatToldSome() {
        Check.sentence("of the latest tellings() that told some.");
        ThreadHouse house = Check.house("feet 4;");
        Check.same("one", Check.tellings(house, smeared(1, 2, 3, 4)), 1);
        Check.same("none", Check.tellings(house, 1, 0, 0, 0), 0);
        Check.tape(house, new int[9]);
        Check.same("another length", house.tellings(), NONE);
        Check.same("an empty tape", house.tellings(), NONE);
        for (int i = 0; i < 4; i++) {
            Check.same("foot " + i + " as it was", house.mayFeel(i, 0) * 100 + house.mayFeel(i, 1), 101 * (i + 1));
        }
        Check.same("one more", Check.tellings(house, smeared(-1, -2, -3, -4)), 1);
        for (int i = 0; i < 4; i++) {
            Check.same("foot " + i + " now", house.mayFeel(i, 0) * 100 + house.mayFeel(i, 1), -101 * (i + 1));
        }
    }

    private static void noSuchBound() {
        Check.sentence("NoSuchElementException: ahead of any, a foot that row had not, another what.");
        ThreadHouse house = Check.house("feet 6;");
        Check.throwsNoSuch("ahead of any", () -> house.mayFeel(0, 0));
        Check.tellings(house, 1, 0, 0, 0, 0, 0);
        Check.throwsNoSuch("none told yet", () -> house.mayFeel(0, 0));
        Check.tape(house, new int[11]);
        house.tellings();
        Check.throwsNoSuch("none told yet", () -> house.mayFeel(0, 1));
        Check.same("one", Check.tellings(house, smeared(1, 2, 3, 4, 5, 6)), 1);
        int[] noFoot = {-1, LEAST, 6, 7, 48, MOST};
        int[] noWhat = {-1, LEAST, 2, 3, MOST};
        for (int i : noFoot) {
            Check.throwsNoSuch("mayFeel(" + i + ", 0)", () -> house.mayFeel(i, 0));
            Check.throwsNoSuch("mayFeel(" + i + ", 1)", () -> house.mayFeel(i, 1));
        }
        for (int what : noWhat) {
            Check.throwsNoSuch("mayFeel(0, " + what + ")", () -> house.mayFeel(0, what));
        }
        Check.text(house, "feet 4;");
        Check.same("a foot that row had", house.mayFeel(5, 0), 6);
        Check.throwsNoSuch("and no more", () -> house.mayFeel(6, 0));
        Check.tellings(house, 0, 0, 0, 0);
        Check.throwsNoSuch("a foot that the new row had not", () -> house.mayFeel(4, 0));
        Check.text(house, "feet 9;");
        Check.same("its last foot", house.mayFeel(3, 1), 0);
        Check.throwsNoSuch("FEET has it, the row had not", () -> house.mayFeel(4, 0));
    }
}
