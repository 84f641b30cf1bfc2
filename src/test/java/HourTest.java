import java.util.Random;

/** Promises 8 to 12: HOURS, mended rows, what is felt, SLIPS and READs, AS OF days. */
public final class HourTest {
    public static void main(String[] args) {
        refusedRows();
        mostHours();
        mostMended();
        asOf();
        holdsAndFixed();
        boxes();
        boxesWithout();
        manySlips();
        wrongInputs();
        for (int seed = 0; seed < 900; seed++) {
            againstPlainHouse(new Random(seed));
        }
        Check.finish();
    }

    private static void refusedRows() {
        ThreadHouse house = Check.house("feet 4;");
        Check.same("too short", Check.hour(house, 0, 0, 0, 0, 0, 0, 0), -1);
        Check.same("too long", Check.hour(house, 0, 0, 0, 0, 0, 0, 0, 0, 0), -1);
        Check.same("empty", Check.hour(house), -1);
        for (int i = 0; i < 8; i++) {
            int most = i < 4 ? 99 : 50;
            for (int sign = -1; sign <= 1; sign += 2) {
                int[] row = new int[8];
                row[i] = sign * (most + 1);
                int hours = house.count(2);
                Check.same("too much at " + i, Check.hour(house, row), -1);
                Check.same("no hour more", house.count(2), hours);
                if (hours > 0) {
                    Check.same("no mend either", Check.mend(house, 0, row), false);
                    Check.same("none mended", house.count(4), 0);
                }
                row[i] = sign * most;
                Check.same("just so at " + i, Check.hour(house, row), hours);
            }
        }
        Check.same("-128", Check.hour(house, -128, 0, 0, 0, 0, 0, 0, 0), -1);
        Check.same("127", Check.hour(house, 127, 0, 0, 0, 0, 0, 0, 0), -1);
    }

    private static void mostHours() {
        ThreadHouse house = Check.house("feet 4;");
        for (int h = 0; h < 40; h++) {
            Check.same("hour " + h, Check.hour(house, h, 0, 0, 0, 0, 0, 0, 0), h);
        }
        Check.same("a 41st", Check.hour(house, new int[8]), -1);
        Check.same("hours", house.count(2), 40);
        Check.same("the last one", house.slips(39, 0) >= 0, true);
        Check.same("none behind it", house.slips(40, 0), -1);
        Check.same("mending goes on", Check.mend(house, 39, new int[8]), true);
    }

    private static void mostMended() {
        ThreadHouse house = Check.house("feet 4;");
        Check.same("no hour to mend", Check.mend(house, 0, new int[8]), false);
        Check.hour(house, new int[8]);
        Check.same("mend(-1)", Check.mend(house, -1, new int[8]), false);
        Check.same("mend(1)", Check.mend(house, 1, new int[8]), false);
        Check.same("mend(MAX)", Check.mend(house, Integer.MAX_VALUE, new int[8]), false);
        Check.same("too short", Check.mend(house, 0, new int[7]), false);
        for (int m = 1; m <= 60; m++) {
            Check.same("mend " + m, Check.mend(house, 0, m, 0, 0, 0, 0, 0, 0, 0), true);
            Check.same("mended", house.count(4), m);
        }
        Check.same("a 61st", Check.mend(house, 0, new int[8]), false);
        Check.same("mended", house.count(4), 60);
        int all = 0;
        for (int i = 0; i < 4; i++) {
            all += house.felt(i, 0, 0);
        }
        Check.same("the last one of the day counts", all, 60);
        Check.same("hours go on", Check.hour(house, new int[8]), 1);
    }

    private static void asOf() {
        ThreadHouse house = Check.house("feet 4;holds 99 from 0 to 3;");
        house.next(5);
        Check.hour(house, 1, 2, 3, 4, 0, 0, 0, 0);
        house.next(5);
        Check.hour(house, 11, 12, 13, 14, 0, 0, 0, 0);
        house.next(5);
        Check.mend(house, 0, 5, 6, 7, 8, 1, 1, 1, 1);
        house.next(984);
        Check.mend(house, 1, -1, -2, -3, -4, 0, 0, 0, 0);
        int[] days = {5, 9, 10, 14, 15, 998, 999, 1000, Integer.MAX_VALUE};
        int[] first = {1, 1, 1, 1, 5, 5, 5, 5, 5};
        int[] second = {0, 0, 11, 11, 11, 11, -1, -1, -1};
        for (int d = 0; d < days.length; d++) {
            int day = days[d];
            Check.same("hour 0 as of " + day, house.felt(0, 0, day), first[d]);
            Check.same("warmth as of " + day, house.read(0, 0, day, 1), day < 15 ? 0 : 3);
            if (day < 10) {
                Check.throwsNoSuch("hour 1 as of " + day, () -> house.felt(0, 1, day));
                Check.same("slips too", house.slips(1, day), -1);
            } else {
                Check.same("hour 1 as of " + day, house.felt(0, 1, day), second[d]);
            }
        }
        Check.throwsNoSuch("ahead of all", () -> house.felt(0, 0, 4));
        Check.throwsNoSuch("day -1", () -> house.felt(0, 0, -1));
        Check.same("the least day", house.slips(0, Integer.MIN_VALUE), -1);
    }

    private static void holdsAndFixed() {
        ThreadHouse house = Check.house("feet 6;holds 1 from 0 to 5;fixed 3 to 3;");
        Check.hour(house, 10, 0, 0, 9, 0, 10, 0, 0, 0, 0, 0, 0);
        int[] due = {4, 3, 3, 9, 5, 5};
        int[] got = new int[6];
        for (int i = 0; i < 6; i++) {
            got[i] = house.felt(i, 0, 0);
        }
        Check.same("a fixed foot neither gives nor takes", got[3], 9);
        Check.same("ahead of it all stays", got[0] + got[1] + got[2], 10);
        Check.same("behind it all stays", got[4] + got[5], 10);
        Check.same("no more than the hold", Math.abs(got[4] - got[5]) <= 1, true);
        Check.same("felt 0", got[0], due[0]);
        Check.same("felt 2", got[2], due[2]);
        ThreadHouse uneven = Check.house("feet 4;holds 1 from 0 to 0;holds 20 from 1 to 1;holds 3 from 2 to 3;");
        Check.hour(uneven, 0, 0, 20, 0, 0, 0, 0, 0);
        Check.same("the hold of the first of the two", uneven.felt(1, 0, 0) - uneven.felt(0, 0, 0) <= 1, true);
        ThreadHouse just = Check.house("feet 4;holds 20 from 0 to 3;");
        Check.hour(just, 20, 0, 20, 0, 0, 0, 0, 0);
        Check.same("no more than the hold stays", just.slips(0, 0), 0);
        Check.hour(just, 21, 0, 20, 0, 0, 0, 0, 0);
        Check.same("more slips", just.slips(1, 0), 1);
        Check.same("one less", just.felt(0, 1, 0), 20);
        Check.same("one more", just.felt(1, 1, 0), 1);
        ThreadHouse below = Check.house("feet 4;holds 20 from 0 to 3;");
        Check.hour(below, -21, 0, -20, 0, 0, 0, 0, 0);
        Check.same("below 0 alike", below.slips(0, 0), 1);
        Check.same("one more", below.felt(0, 0, 0), -20);
        Check.same("one less", below.felt(1, 0, 0), -1);
    }

    private static void boxes() {
        ThreadHouse house = Check.house("feet 4;pull 3;heat 2;holds 99 from 0 to 3;");
        Check.hour(house, 1, 10, 20, -30, 5, -6, 7, 8);
        Check.same("box 0, first", house.read(0, 0, 0, 0), 2 * (3 + 10) + (30 - 12));
        Check.same("box 0, inside", house.read(1, 0, 0, 0), 2 * (30 - 12) + (3 + 10) + (60 + 14));
        Check.same("box 0, last", house.read(3, 0, 0, 0), 2 * (-90 + 16) + (60 + 14));
        Check.same("box 1, first", house.read(0, 0, 0, 1), 20 - 12);
        Check.same("box 1, inside", house.read(2, 0, 0, 1), 28 - 12 + 16);
        Check.throwsNoSuch("box 2", () -> house.read(0, 0, 0, 2));
        Check.throwsNoSuch("box -1", () -> house.read(0, 0, 0, -1));
        Check.throwsNoSuch("foot 4", () -> house.read(4, 0, 0, 0));
        Check.throwsNoSuch("foot -1", () -> house.read(-1, 0, 0, 0));
        Check.throwsNoSuch("hour 1", () -> house.read(0, 1, 0, 0));
        Check.throwsNoSuch("day -1", () -> house.read(0, 0, -1, 1));
    }

    /** pull and heat are 1 each where no text tells them, also behind texts that told others. */
    private static void boxesWithout() {
        ThreadHouse[] houses = {new ThreadHouse(), Check.house("noise 1;"), Check.house("pull 5;heat 7;")};
        Check.text(houses[2], "");
        Check.text(houses[2], "noise 2;");
        for (ThreadHouse house : houses) {
            int[] row = new int[48];
            row[5] = 3;
            row[29] = 10;
            Check.hour(house, row);
            Check.same("box 0", house.read(5, 0, 0, 0), 26);
            Check.same("box 1", house.read(5, 0, 0, 1), 20);
            Check.same("beside it", house.read(4, 0, 0, 0), 13);
        }
    }

    /** Foot by foot 99 ahead of the turn and -99 behind it, or the other way round. */
    private static int[] turned(int turn, int ahead) {
        int[] row = new int[96];
        for (int i = 0; i < 48; i++) {
            row[i] = i < turn ? ahead : -ahead;
        }
        return row;
    }

    /** The body swings so far that an HOUR is stopped; what is left slips on while it rests. */
    private static void manySlips() {
        ThreadHouse house = Check.house("feet 48;holds 1 from 0 to 47;");
        PlainHouse plain = new PlainHouse(48);
        plain.hold(1, 0, 47);
        int[][] rows = {turned(31, -99), turned(20, -99), turned(24, 99), turned(24, 99)};
        for (int h = 0; h < rows.length; h++) {
            Check.hour(house, rows[h]);
            plain.tell(h, 0, rows[h]);
        }
        for (int h = 0; h < rows.length; h++) {
            int[] due = plain.feel(h, 0);
            for (int i = 0; i < 48; i++) {
                Check.same("felt", house.felt(i, h, 0), due[i]);
            }
            Check.same("slips", house.slips(h, 0), due[48]);
        }
        Check.same("stopped", house.slips(2, 0), 100000);
        Check.same("goes on", house.slips(3, 0) > 5000 && house.slips(3, 0) < 100000, true);
        Check.same("an alarm's number may be any", house.slips(0, 0) > 9999, true);
    }

    private static void wrongInputs() {
        ThreadHouse house = Check.house("feet 4;");
        Check.throwsNoSuch("no hours", () -> house.felt(0, 0, 0));
        Check.hour(house, new int[8]);
        Check.throwsNoSuch("foot 4", () -> house.felt(4, 0, 0));
        Check.throwsNoSuch("foot -1", () -> house.felt(-1, 0, 0));
        Check.throwsNoSuch("hour 1", () -> house.felt(0, 1, 0));
        Check.throwsNoSuch("hour -1", () -> house.felt(0, -1, 0));
        Check.throwsNoSuch("least", () -> house.felt(Integer.MIN_VALUE, Integer.MIN_VALUE, Integer.MIN_VALUE));
        Check.same("slips(1)", house.slips(1, 0), -1);
        Check.same("slips(-1)", house.slips(-1, 0), -1);
        Check.same("slips(MAX)", house.slips(Integer.MAX_VALUE, Integer.MAX_VALUE), -1);
        Check.same("slips(0)", house.slips(0, 0), 0);
    }

    private static void againstPlainHouse(Random random) {
        int feet = 4 + random.nextInt(6);
        PlainHouse plain = new PlainHouse(feet);
        int pull = 1 + random.nextInt(9);
        int heat = 1 + random.nextInt(9);
        StringBuilder text = new StringBuilder("feet " + feet + ";pull " + pull + ";heat " + heat + ";");
        for (int line = random.nextInt(4); line > 0; line--) {
            int first = random.nextInt(feet);
            int last = first + random.nextInt(feet - first);
            int much = 1 + random.nextInt(15);
            text.append("holds " + much + " from " + first + " to " + last + ";");
            plain.hold(much, first, last);
        }
        if (random.nextInt(3) == 0) {
            int first = random.nextInt(feet);
            text.append("fixed " + first + " to " + first + ";");
            plain.fix(first, first);
        }
        ThreadHouse house = Check.house(text.toString());
        int hours = 0;
        int day = 0;
        int steps = 1 + random.nextInt(14);
        for (int step = 0; step < steps; step++) {
            int days = random.nextInt(3);
            house.next(days);
            day += days;
            int[] row = new int[2 * feet];
            for (int i = 0; i < feet; i++) {
                row[i] = random.nextInt(random.nextBoolean() ? 199 : 1) * (random.nextBoolean() ? 1 : 0);
                row[i] = row[i] == 0 ? 0 : row[i] - 99;
                row[feet + i] = random.nextInt(101) - 50;
            }
            if (hours == 0 || random.nextBoolean()) {
                Check.same("hour", Check.hour(house, row), hours);
                plain.tell(hours, day, row);
                hours++;
            } else {
                int h = random.nextInt(hours);
                Check.same("mend", Check.mend(house, h, row), true);
                plain.tell(h, day, row);
            }
            // What was asked on one day must not change what is answered on a later one.
            if (step % 4 == 0) {
                compare(house, plain, random, new int[] {feet, pull, heat, hours, day}, 1);
            }
        }
        compare(house, plain, random, new int[] {feet, pull, heat, hours, day}, 10);
    }

    private static void compare(ThreadHouse house, PlainHouse plain, Random random, int[] told, int asks) {
        for (int ask = 0; ask < asks; ask++) {
            int h = random.nextInt(told[3]);
            int day = random.nextInt(told[4] + 2);
            if (plain.row(h, day) == null) {
                Check.same("no slips", house.slips(h, day), -1);
                continue;
            }
            int[] due = plain.feel(h, day);
            Check.same("slips", house.slips(h, day), due[told[0]]);
            for (int i = 0; i < told[0]; i++) {
                Check.same("felt", house.felt(i, h, day), due[i]);
                Check.same("box 0", house.read(i, h, day, 0), plain.read(i, h, day, told[1], told[2]));
                Check.same("box 1", house.read(i, h, day, 1), plain.read(i, h, day, 0, told[2]));
            }
        }
    }
}
