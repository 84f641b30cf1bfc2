/** The edges of HOURS, MENDED rows, FELT, SLIPS and READ (promises 8 to 12), sentence by sentence. */
public final class EdgeHourTest {
    private static final int NONE = -1;
    private static final int LEAST = Integer.MIN_VALUE;
    private static final int MOST = Integer.MAX_VALUE;

    public static void main(String[] args) {
        numbersTold();
        lengths();
        mostHours();
        notMended();
        mostMended();
        sameDay();
        asOfDays();
        beyondToday();
        firstHour();
        stretchesMore();
        fixedFeet();
        moreThanHold();
        holdOfTheFirst();
        firstPair();
        stopped();
        stoppedFurtherOn();
        boxes();
        noSuchFelt();
        noSuchSlips();
        noSuchRead();
        Check.finish();
    }

    private static ThreadHouse allFixed(int feet) {
        return Check.house("feet " + feet + ";fixed 0 to " + (feet - 1) + ";");
    }

    private static int[] row(int feet, int place, int number) {
        int[] row = new int[2 * feet];
        row[place] = number;
        return row;
    }

    private static void numbersTold() {
        Check.sentence("of each the body's stretch and its warmth, foot by foot (-99 to 99, -50 to 50)");
        int[] feetTold = {4, 48};
        for (int feet : feetTold) {
            int[] places = {0, feet - 1, feet, 2 * feet - 1};
            for (int place : places) {
                int most = place < feet ? 99 : 50;
                for (int number = -128; number <= 127; number++) {
                    tellNumber(feet, place, number, number >= -most && number <= most);
                }
            }
        }
    }

    private static void tellNumber(int feet, int place, int number, boolean taken) {
        String what = number + " at byte " + place;
        ThreadHouse house = allFixed(feet);
        Check.same("hour() with " + what, Check.hour(house, row(feet, place, number)), taken ? 0 : NONE);
        Check.same("HOURS", house.count(2), taken ? 1 : 0);
        if (!taken) {
            Check.same("an HOUR to mend", Check.hour(house, new int[2 * feet]), 0);
        }
        Check.same("mend() with " + what, Check.mend(house, 0, row(feet, place, number)), taken);
        Check.same("MENDED", house.count(4), taken ? 1 : 0);
        int foot = place % feet;
        Check.same("felt, " + what, house.felt(foot, 0, 0), taken && place < feet ? number : 0);
        Check.same("warmth, " + what, house.read(foot, 0, 0, 1), taken && place >= feet ? 2 * number : 0);
    }

    private static void lengths() {
        Check.sentence("the tape's bytes (each below 0 as 256 more) are the body's stretch, then its warmth, foot by foot");
        int[] feetTold = {4, 24, 48};
        for (int feet : feetTold) {
            int[] others = {0, 1, feet, 2 * feet - 2, 2 * feet - 1, 2 * feet + 1, 2 * feet + 2, 4 * feet, 440};
            ThreadHouse house = allFixed(feet);
            for (int length : others) {
                Check.same("hour() of " + length, Check.hour(house, new int[length]), NONE);
                Check.same("HOURS", house.count(2), 0);
                Check.same("the tape", house.count(5), 0);
            }
            int[] row = new int[2 * feet];
            for (int i = 0; i < feet; i++) {
                row[i] = i - 60;
                row[feet + i] = 50 - i;
            }
            Check.same("hour() as told", Check.hour(house, row), 0);
            for (int length : others) {
                Check.same("mend() of " + length, Check.mend(house, 0, new int[length]), false);
                Check.same("MENDED", house.count(4), 0);
                Check.same("the tape", house.count(5), 0);
            }
            for (int i = 0; i < feet; i++) {
                Check.same("felt " + i, house.felt(i, 0, 0), i - 60);
            }
            Check.same("the first warmth", house.read(0, 0, 0, 1), 2 * 50 + 49);
            Check.same("the last warmth", house.read(feet - 1, 0, 0, 1), 2 * (51 - feet) + 52 - feet);
        }
    }

    private static void mostHours() {
        Check.sentence("NONE: there are 40, or not as told.");
        ThreadHouse house = allFixed(4);
        for (int h = 0; h < 40; h++) {
            Check.same("HOURS", house.count(2), h);
            Check.same("hour()", Check.hour(house, row(4, 0, h + 1)), h);
        }
        for (int more = 0; more < 3; more++) {
            Check.same("a 41st", Check.hour(house, row(4, 0, 77)), NONE);
            Check.same("HOURS", house.count(2), 40);
            Check.same("the tape", house.count(5), 0);
            house.next(1);
        }
        Check.same("the last HOUR is as it was", house.felt(0, 39, 999), 40);
        Check.same("no HOUR 40", house.slips(40, 999), NONE);
        Check.same("the last HOUR may be mended", Check.mend(house, 39, row(4, 0, 50)), true);
        Check.same("and is", house.felt(0, 39, 999), 50);
        Check.same("no HOUR 40 to mend", Check.mend(house, 40, row(4, 0, 50)), false);
    }

    private static void notMended() {
        Check.sentence("false: no such HOUR, not as told, or 60 were MENDED.");
        ThreadHouse house = allFixed(4);
        int[] never = {-1, -2, LEAST, 40, 41, MOST};
        for (int h : never) {
            Check.same("no HOURS: mend(" + h + ")", Check.mend(house, h, new int[8]), false);
        }
        Check.same("no HOURS: mend(0)", Check.mend(house, 0, new int[8]), false);
        Check.hour(house, row(4, 0, 5));
        Check.hour(house, row(4, 0, 6));
        for (int h : never) {
            Check.same("two HOURS: mend(" + h + ")", Check.mend(house, h, new int[8]), false);
            Check.same("the tape", house.count(5), 0);
        }
        Check.same("two HOURS: mend(2)", Check.mend(house, 2, new int[8]), false);
        Check.same("an empty tape", house.mend(0), false);
        Check.same("MENDED", house.count(4), 0);
        Check.same("HOUR 0 as it was", house.felt(0, 0, 0), 5);
        Check.same("HOUR 1 as it was", house.felt(0, 1, 0), 6);
        Check.same("two HOURS: mend(1)", Check.mend(house, 1, row(4, 0, 8)), true);
        Check.same("two HOURS: mend(0)", Check.mend(house, 0, row(4, 0, 7)), true);
        Check.same("HOUR 0 MENDED", house.felt(0, 0, 0), 7);
        Check.same("HOUR 1 MENDED", house.felt(0, 1, 0), 8);
    }

    private static void mostMended() {
        Check.sentence("or 60 were MENDED.");
        ThreadHouse house = allFixed(4);
        Check.hour(house, row(4, 0, 0));
        Check.hour(house, row(4, 0, 1));
        for (int m = 1; m <= 60; m++) {
            Check.same("MENDED", house.count(4), m - 1);
            Check.same("mend() " + m, Check.mend(house, 0, row(4, 0, m)), true);
        }
        Check.same("a 61st", Check.mend(house, 0, row(4, 0, 99)), false);
        Check.same("of another HOUR", Check.mend(house, 1, row(4, 0, 99)), false);
        Check.same("on another day", house.next(1) == 1 && Check.mend(house, 1, row(4, 0, 99)), false);
        Check.same("MENDED", house.count(4), 60);
        Check.same("the tape", house.count(5), 0);
        Check.same("as MENDED last", house.felt(0, 0, 999), 60);
        Check.same("as it was", house.felt(0, 1, 999), 1);
        Check.same("HOURS go on", Check.hour(house, row(4, 0, 9)), 2);
        Check.same("felt there", house.felt(0, 2, 999), 9);
    }

    private static void sameDay() {
        Check.sentence("a row may be MENDED on a later day (or the same one)");
        ThreadHouse house = allFixed(4);
        house.next(3);
        Check.hour(house, row(4, 0, 1));
        Check.same("the same day", Check.mend(house, 0, row(4, 0, 2)), true);
        Check.same("AS OF it", house.felt(0, 0, 3), 2);
        Check.same("once more", Check.mend(house, 0, row(4, 0, 3)), true);
        Check.same("AS OF it", house.felt(0, 0, 3), 3);
        house.next(996);
        Check.same("the last day", Check.mend(house, 0, row(4, 0, 4)), true);
        Check.same("AS OF day 3", house.felt(0, 0, 3), 3);
        Check.same("AS OF day 998", house.felt(0, 0, 998), 3);
        Check.same("AS OF day 999", house.felt(0, 0, 999), 4);
    }

    private static void asOfDays() {
        Check.sentence("AS OF a day t: HOURS told on t or ahead, each as it was told last on t or ahead.");
        ThreadHouse house = allFixed(4);
        Check.hour(house, row(4, 0, 10));
        house.next(2);
        Check.hour(house, row(4, 0, 20));
        Check.mend(house, 0, row(4, 0, 11));
        house.next(2);
        Check.mend(house, 1, row(4, 0, 21));
        Check.hour(house, row(4, 0, 30));
        house.next(2);
        Check.mend(house, 0, row(4, 0, 12));
        Check.mend(house, 0, row(4, 0, 13));
        int[][] felt = {{10, 0, 0}, {10, 0, 0}, {11, 20, 0}, {11, 20, 0}, {11, 21, 30}, {11, 21, 30}, {13, 21, 30}, {13, 21, 30}};
        for (int day = 0; day < felt.length; day++) {
            for (int h = 0; h < 3; h++) {
                if (felt[day][h] == 0) {
                    Check.same("no HOUR " + h + " AS OF " + day, house.slips(h, day), NONE);
                } else {
                    Check.same("HOUR " + h + " AS OF " + day, house.felt(0, h, day), felt[day][h]);
                    Check.same("HOUR " + h + " AS OF " + day, house.slips(h, day), 0);
                }
            }
        }
        int[] ahead = {-1, -2, LEAST};
        for (int day : ahead) {
            Check.same("no HOUR AS OF " + day, house.slips(0, day), NONE);
            Check.throwsNoSuch("no HOUR AS OF " + day, () -> house.felt(0, 0, day));
        }
    }

    /** The document says nothing of days to come; what was told is told by then. */
    private static void beyondToday() {
        ThreadHouse house = allFixed(4);
        Check.hour(house, row(4, 0, 10));
        int[] days = {0, 1, 999, 1000, MOST};
        for (int day : days) {
            Check.same("AS OF " + day, house.felt(0, 0, day), 10);
        }
        house.next(5);
        Check.mend(house, 0, row(4, 0, 11));
        Check.same("AS OF 4", house.felt(0, 0, 4), 10);
        Check.same("AS OF 5", house.felt(0, 0, 5), 11);
        Check.same("AS OF 999", house.felt(0, 0, 999), 11);
    }

    private static void firstHour() {
        Check.sentence("ahead of the first HOUR all feet feel 0, and the body is at 0.");
        ThreadHouse house = Check.house("feet 4;fixed 0 to 3;alarm sum=198 and at 0=99 and at 3=99 for 1;");
        Check.hour(house, 99, 0, 0, -99, 0, 0, 0, 0);
        Check.same("foot 0", house.felt(0, 0, 0), 99);
        Check.same("foot 1", house.felt(1, 0, 0), 0);
        Check.same("foot 3", house.felt(3, 0, 0), -99);
        Check.sentence("CHANGE of an HOUR: what each foot feels, less what it felt in the HOUR ahead (0 ahead of the first).");
        Check.same("its CHANGE", house.alarm(0, 0, 0), 1);
        Check.same("its LOUDNESS", house.walk(0, 0, 0, 0), 99);
        Check.hour(house, 99, 0, 0, -99, 0, 0, 0, 0);
        Check.same("no CHANGE then", house.walk(1, 1, 0, 0), 0);
        Check.hour(house, 0, 0, 0, 99, 0, 0, 0, 0);
        Check.same("its CHANGE then", house.walk(2, 2, 0, 0), 198);
        Check.same("there", house.walked(0), 3);
    }

    private static void stretchesMore() {
        Check.sentence("In each HOUR each foot feels as much more as the body stretches more there than in the HOUR ahead.");
        ThreadHouse house = Check.house("feet 4;fixed 2 to 3;");
        Check.hour(house, 30, 0, 99, -99, 0, 0, 0, 0);
        Check.hour(house, 0, 0, -99, 99, 0, 0, 0, 0);
        Check.hour(house, 0, 0, -99, 99, 0, 0, 0, 0);
        int[][] felt = {{20, 10, 99, -99}, {-5, 5, -99, 99}, {-5, 5, -99, 99}};
        int[] slips = {10, 5, 0};
        for (int h = 0; h < 3; h++) {
            for (int i = 0; i < 4; i++) {
                Check.same("foot " + i + " in HOUR " + h, house.felt(i, h, 0), felt[h][i]);
            }
            Check.same("SLIPS in HOUR " + h, house.slips(h, 0), slips[h]);
        }
        Check.same("the first HOUR MENDED", Check.mend(house, 0, 0, 0, 99, -99, 0, 0, 0, 0), true);
        Check.same("no SLIPS in it", house.slips(0, 0), 0);
        Check.same("nor behind it", house.slips(1, 0), 0);
        Check.same("foot 0 behind it", house.felt(0, 1, 0), 0);
    }

    private static void fixedFeet() {
        Check.sentence("as long as there are two feet i and i + 1, neither FIXED");
        for (int mask = 0; mask < 16; mask++) {
            StringBuilder text = new StringBuilder("feet 4;holds 1 from 0 to 3;");
            boolean slips = false;
            for (int i = 0; i < 4; i++) {
                text.append((mask >> i & 1) == 1 ? "fixed " + i + " to " + i + ";" : "");
                slips |= i < 3 && (mask >> i & 3) == 0;
            }
            ThreadHouse house = Check.house(text.toString());
            int[] row = {40, 0, 40, 0, 0, 0, 0, 0};
            Check.hour(house, row);
            Check.same("SLIPS by " + text, house.slips(0, 0) > 0, slips);
            for (int i = 0; i < 4; i++) {
                boolean alone = (mask >> i & 1) == 1
                        || ((i == 0 || (mask >> (i - 1) & 1) == 1) && (i == 3 || (mask >> (i + 1) & 1) == 1));
                Check.same("foot " + i + " by " + text, house.felt(i, 0, 0) == row[i], alone);
            }
        }
    }

    private static void moreThanHold() {
        Check.sentence("of which one feels more than the other one by more than the HOLD of foot i");
        int[] holds = {1, 2, 10, 50, 98, 99};
        for (int hold : holds) {
            for (int foot = 0; foot < 3; foot++) {
                for (int more = 0; more <= 198; more++) {
                    if (more <= 2 || (more >= hold - 1 && more <= hold + 3) || more >= 197) {
                        slipPair(hold, foot, more);
                        slipPair(hold, foot, -more);
                    }
                }
            }
        }
    }

    /** Two feet alone, of which the first feels so much more than the second one. */
    private static void slipPair(int hold, int foot, int more) {
        String what = "HOLD " + hold + ", foot " + foot + ", " + more + " more";
        ThreadHouse house = Check.house("feet 4;holds " + hold + " from 0 to 3;"
                + (foot > 0 ? "fixed 0 to " + (foot - 1) + ";" : "") + (foot < 2 ? "fixed " + (foot + 2) + " to 3;" : ""));
        int[] row = new int[8];
        row[foot] = more / 2;
        row[foot + 1] = more / 2 - more;
        Check.hour(house, row);
        int size = Math.abs(more);
        int slips = size > hold ? (size - hold + 1) / 2 : 0;
        Check.same("SLIPS, " + what, house.slips(0, 0), slips);
        Check.same("felt, " + what, house.felt(foot, 0, 0), row[foot] - (more > 0 ? slips : -slips));
        Check.same("felt beside, " + what, house.felt(foot + 1, 0, 0), row[foot + 1] + (more > 0 ? slips : -slips));
    }

    private static void holdOfTheFirst() {
        Check.sentence("by more than the HOLD of foot i: the first such i");
        for (int weak = 0; weak < 4; weak++) {
            ThreadHouse house = Check.house("feet 4;holds 99 from 0 to 3;holds 1 from " + weak + " to " + weak + ";");
            Check.hour(house, 2, 0, 2, 0, 0, 0, 0, 0);
            for (int i = 0; i < 4; i++) {
                int body = i % 2 == 0 ? 2 : 0;
                boolean moved = weak < 3 && (i == weak || i == weak + 1);
                Check.same("foot " + i + ", weak " + weak, house.felt(i, 0, 0), moved ? 1 : body);
            }
            Check.same("SLIPS, weak " + weak, house.slips(0, 0), weak < 3 ? 1 : 0);
        }
    }

    private static void firstPair() {
        Check.sentence("the first such i; the one that feels more feels 1 less then, the other one 1 more.");
        ThreadHouse house = Check.house("feet 4;holds 3 from 0 to 2;holds 2 from 1 to 1;");
        Check.hour(house, 6, 2, 6, 3, 0, 0, 0, 0);
        int[] felt = {5, 4, 5, 3};
        for (int i = 0; i < 4; i++) {
            Check.same("foot " + i, house.felt(i, 0, 0), felt[i]);
        }
        Check.same("SLIPS", house.slips(0, 0), 2);
    }

    /** So much ahead of the turn, as much below 0 from it on; one foot otherwise. */
    private static int[] swing(int turn, int ahead, int foot, int there) {
        int[] row = new int[96];
        for (int i = 0; i < 48; i++) {
            row[i] = i < turn ? ahead : -ahead;
        }
        row[foot] = there;
        return row;
    }

    private static void stopped() {
        Check.sentence("(A HOUR with more than 100000 of them stops there.)");
        // The one HOUR has 100000 SLIPS just so, the other one would have 100001.
        int[][] last = {{13, -50}, {14, -41}};
        for (int left = 0; left < 2; left++) {
            ThreadHouse house = Check.house("feet 48;holds 1 from 0 to 47;alarm slips>9999 for 3;");
            Check.hour(house, swing(31, -99, 0, -99));
            Check.hour(house, swing(20, -99, 0, -99));
            int[] row = swing(24, 85, last[left][0], last[left][1]);
            Check.hour(house, row);
            Check.hour(house, row);
            Check.same("SLIPS of HOUR 0", house.slips(0, 0), 43231);
            Check.same("SLIPS of HOUR 1", house.slips(1, 0), 25725);
            Check.same("SLIPS of HOUR 2", house.slips(2, 0), 100000);
            Check.same("what is left slips in the next HOUR", house.slips(3, 0), left);
            Check.same("an ALARM by them", house.alarm(0, 2, 0), 1);
            int moved = 0;
            for (int i = 0; i < 48; i++) {
                moved += house.felt(i, 3, 0) == house.felt(i, 2, 0) ? 0 : 1;
            }
            Check.same("feet that feel otherwise then", moved, 2 * left);
        }
    }

    /** Where the first foot is FIXED no SLIP is at the first pair: the longest way to 100000. */
    private static void stoppedFurtherOn() {
        ThreadHouse house = Check.house("feet 48;holds 1 from 0 to 47;fixed 0 to 0;");
        PlainHouse plain = new PlainHouse(48);
        plain.hold(1, 0, 47);
        plain.fix(0, 0);
        int[][] rows = {swing(31, -99, 0, 0), swing(21, -99, 0, 0), swing(24, 99, 0, 0), swing(24, 99, 0, 0)};
        for (int h = 0; h < rows.length; h++) {
            Check.hour(house, rows[h]);
            plain.tell(h, 0, rows[h]);
        }
        Check.same("stopped", house.slips(2, 0), 100000);
        for (int h = 2; h < rows.length; h++) {
            int[] due = plain.feel(h, 0);
            Check.same("SLIPS of HOUR " + h, house.slips(h, 0), due[48]);
            for (int i = 0; i < 48; i++) {
                Check.same("foot " + i + " in HOUR " + h, house.felt(i, h, 0), due[i]);
            }
        }
    }

    private static void boxes() {
        Check.sentence("the sum over it (twice) and the ones beside it (once each; those that are not there: nothing)");
        ThreadHouse house = Check.house("feet 4;fixed 0 to 3;pull 9;heat 9;");
        Check.hour(house, 99, -99, 1, 2, 50, -50, 3, 4);
        int[] felt = {99, -99, 1, 2};
        int[] warmth = {50, -50, 3, 4};
        for (int i = 0; i < 4; i++) {
            int all = 2 * (felt[i] + warmth[i]);
            int warm = 2 * warmth[i];
            for (int beside = i - 1; beside <= i + 1; beside += 2) {
                boolean there = beside >= 0 && beside < 4;
                all += there ? felt[beside] + warmth[beside] : 0;
                warm += there ? warmth[beside] : 0;
            }
            Check.same("foot " + i + " by BOX 0", house.read(i, 0, 0, 0), 9 * all);
            Check.same("foot " + i + " by BOX 1", house.read(i, 0, 0, 1), 9 * warm);
        }
    }

    private static void noSuchFelt() {
        Check.sentence("NoSuchElementException: no such foot, HOUR (told by then).");
        ThreadHouse house = allFixed(4);
        Check.throwsNoSuch("no HOURS", () -> house.felt(0, 0, 0));
        Check.throwsNoSuch("no HOURS at all", () -> house.felt(0, 0, MOST));
        house.next(2);
        Check.hour(house, 1, 2, 3, 4, 0, 0, 0, 0);
        Check.same("the first foot", house.felt(0, 0, 2), 1);
        Check.same("the last foot", house.felt(3, 0, 2), 4);
        int[] noFoot = {-1, LEAST, 4, 5, 24, 48, MOST};
        for (int i : noFoot) {
            Check.throwsNoSuch("foot " + i, () -> house.felt(i, 0, 2));
        }
        int[] noHour = {-1, LEAST, 1, 2, 39, 40, MOST};
        for (int h : noHour) {
            Check.throwsNoSuch("HOUR " + h, () -> house.felt(0, h, 2));
        }
        int[] noDay = {1, 0, -1, LEAST};
        for (int t : noDay) {
            Check.throwsNoSuch("day " + t, () -> house.felt(0, 0, t));
        }
        Check.throwsNoSuch("foot and HOUR", () -> house.felt(4, 1, 2));
        house.next(1);
        Check.hour(house, new int[8]);
        Check.throwsNoSuch("HOUR 1 AS OF the day ahead", () -> house.felt(0, 1, 2));
        Check.same("HOUR 1 AS OF its day", house.felt(0, 1, 3), 0);
    }

    private static void noSuchSlips() {
        Check.sentence("How many SLIPS there are in an HOUR AS OF t; NONE: no such one.");
        ThreadHouse house = Check.house("feet 4;");
        Check.same("no HOURS", house.slips(0, MOST), NONE);
        house.next(2);
        Check.hour(house, 11, 0, 0, 0, 0, 0, 0, 0);
        Check.same("there is one", house.slips(0, 2), 1);
        int[] noHour = {-1, LEAST, 1, 2, 39, 40, MOST};
        for (int h : noHour) {
            Check.same("HOUR " + h, house.slips(h, 2), NONE);
        }
        int[] noDay = {1, 0, -1, LEAST};
        for (int t : noDay) {
            Check.same("day " + t, house.slips(0, t), NONE);
        }
    }

    private static void noSuchRead() {
        Check.sentence("NoSuchElementException: likewise, or no such BOX.");
        ThreadHouse house = allFixed(4);
        Check.throwsNoSuch("no HOURS", () -> house.read(0, 0, 0, 0));
        Check.throwsNoSuch("no HOURS", () -> house.read(0, 0, 0, 1));
        house.next(2);
        Check.hour(house, 1, 2, 3, 4, 5, 6, 7, 8);
        Check.same("BOX 0", house.read(3, 0, 2, 0), 2 * 12 + 10);
        Check.same("BOX 1", house.read(3, 0, 2, 1), 2 * 8 + 7);
        int[] noBox = {-1, LEAST, 2, 3, MOST};
        for (int box : noBox) {
            Check.throwsNoSuch("BOX " + box, () -> house.read(0, 0, 2, box));
        }
        int[] noFoot = {-1, LEAST, 4, 5, 48, MOST};
        for (int box = 0; box <= 1; box++) {
            int by = box;
            for (int i : noFoot) {
                Check.throwsNoSuch("foot " + i, () -> house.read(i, 0, 2, by));
            }
            Check.throwsNoSuch("HOUR -1", () -> house.read(0, -1, 2, by));
            Check.throwsNoSuch("HOUR 1", () -> house.read(0, 1, 2, by));
            Check.throwsNoSuch("HOUR 40", () -> house.read(0, 40, 2, by));
            Check.throwsNoSuch("day 1", () -> house.read(0, 0, 1, by));
            Check.throwsNoSuch("day -1", () -> house.read(0, 0, -1, by));
        }
    }
}
