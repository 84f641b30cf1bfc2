/** The edges of ALARMS and WALKS (promises 13, 14, 20 and 21), sentence by sentence. */
public final class EdgeAlarmTest {
    private static final int NONE = -1;
    private static final int LEAST = Integer.MIN_VALUE;
    private static final int MOST = Integer.MAX_VALUE;

    public static void main(String[] args) {
        hoursAhead();
        brokenRun();
        truths();
        measures();
        mostMeasured();
        hourNumbers();
        noSuchAlarm();
        firstHourAt();
        noneAlarmed();
        itself();
        howFar();
        loudest();
        lesserFoot();
        noSuchWalk();
        noSuchWalked();
        longestWalk();
        Check.finish();
    }

    private static void hoursAhead() {
        Check.sentence("its COND holds of that HOUR's CHANGE and as many HOURS ahead of it as make up its 'for' (all there)");
        for (int n = 1; n <= 9; n++) {
            ThreadHouse house = Check.house("feet 4;alarm sum=0 for " + n + ";");
            Check.same("no HOURS", house.alarmed(0, 0), NONE);
            for (int h = 0; h < 11; h++) {
                Check.hour(house, new int[8]);
                Check.same("for " + n + ", HOUR " + h, house.alarm(0, h, 0), h >= n - 1 ? 1 : 0);
                Check.same("for " + n + ", first", house.alarmed(0, 0), h >= n - 1 ? n - 1 : NONE);
            }
        }
    }

    private static void brokenRun() {
        // Its CHANGE is 0 in every HOUR but one: the run begins anew behind that.
        for (int n = 1; n <= 9; n++) {
            for (int broken = 0; broken < 12; broken++) {
                ThreadHouse house = Check.house("feet 4;alarm sum=0 for " + n + ";");
                for (int h = 0; h < 12; h++) {
                    Check.hour(house, h >= broken ? 1 : 0, 0, 0, 0, 0, 0, 0, 0);
                }
                for (int h = 0; h < 12; h++) {
                    boolean due = h < broken ? h >= n - 1 : h - broken >= n;
                    Check.same("for " + n + ", broken at " + broken + ", HOUR " + h, house.alarm(0, h, 0), due ? 1 : 0);
                }
            }
        }
    }

    private static void truths() {
        Check.sentence("COND: ALL { 'or' ALL }. ALL: ONE { 'and' ONE }.");
        String[] conds = {"A", "not A", "not not A", "(A)", "A and B", "A and (B)", "(A) and B", "A or B", "A or (B)", "not A and B",
            "not (A and B)", "not A or B", "not (A or B)", "A and B or C", "A or B and C", "(A or B) and C", "A and (B or C)",
            "A and not (B and (C))", "not (A or not (B or C))", "A or B or C", "A and B and C"};
        for (int row = 0; row < 8; row++) {
            boolean a = (row & 1) != 0;
            boolean b = (row & 2) != 0;
            boolean c = (row & 4) != 0;
            boolean[] due = {a, !a, a, a, a && b, a && b, a && b, a || b, a || b, !a && b,
                !(a && b), !a || b, !(a || b), a && b || c, a || b && c, (a || b) && c, a && (b || c),
                a && !(b && c), !(a || !(b || c)), a || b || c, a && b && c};
            for (int n = 0; n < conds.length; n++) {
                String cond = conds[n].replace("A", one(a)).replace("B", one(b)).replace("C", one(c));
                ThreadHouse house = Check.house("feet 4;alarm " + cond + " for 1;");
                Check.hour(house, new int[8]);
                Check.same(cond, house.alarm(0, 0, 0), due[n] ? 1 : 0);
            }
        }
    }

    private static String one(boolean holds) {
        return holds ? "hour=0" : "hour>0";
    }

    private static void measured(String measure, int due, int[] rows) {
        for (int number = due - 1; number <= due + 1; number++) {
            if (number < 0) {
                continue;
            }
            ThreadHouse house = Check.house("feet 4;holds 8 from 0 to 3;alarm " + measure + "<" + number + " for 1;alarm "
                    + measure + "=" + number + " for 1;alarm " + measure + ">" + number + " for 1;");
            int hours = rows.length / 4;
            for (int h = 0; h < hours; h++) {
                Check.hour(house, rows[4 * h], rows[4 * h + 1], rows[4 * h + 2], rows[4 * h + 3], 50, 50, 50, 50);
            }
            Check.same(measure + " < " + number, house.alarm(0, hours - 1, 0), due < number ? 1 : 0);
            Check.same(measure + " = " + number, house.alarm(1, hours - 1, 0), due == number ? 1 : 0);
            Check.same(measure + " > " + number, house.alarm(2, hours - 1, 0), due > number ? 1 : 0);
        }
    }

    private static void measures() {
        Check.sentence("peak: the greatest CHANGE without signs; sum: all together without signs; at: that foot's without sign; slips: how many SLIPS; hour: its number.");
        int[] still = {0, 0, 0, 0};
        int[] first = {3, -5, 0, 4};
        int[] second = {3, -5, 0, 4, 1, 1, -1, 4};
        int[] slipped = {0, 0, 0, 12};
        String[] names = {"peak", "sum", "at 0", "at 1", "at 2", "at 3", "slips", "hour"};
        int[][] due = {{0, 0, 0, 0, 0, 0, 0, 0}, {5, 12, 3, 5, 0, 4, 0, 0}, {6, 9, 2, 6, 1, 0, 0, 1}, {10, 12, 0, 0, 2, 10, 2, 0}};
        int[][] rows = {still, first, second, slipped};
        for (int r = 0; r < rows.length; r++) {
            for (int m = 0; m < names.length; m++) {
                measured(names[m], due[r][m], rows[r]);
            }
        }
    }

    /** From end to end the body goes 198 at each of 48 feet: still no more than a NUMBER tells. */
    private static void mostMeasured() {
        ThreadHouse house = Check.house("feet 48;fixed 0 to 47;alarm peak=198 for 1;alarm sum=9504 for 1;alarm at 47=198 for 1;"
                + "alarm sum>9503 and sum<9505 for 1;alarm peak>197 and peak<199 for 1;alarm slips=0 for 2;");
        int[] row = new int[96];
        java.util.Arrays.fill(row, 0, 48, -99);
        Check.hour(house, row);
        java.util.Arrays.fill(row, 0, 48, 99);
        Check.hour(house, row);
        for (int k = 0; k < 6; k++) {
            Check.same("ALARM " + k + " AT 1", house.alarm(k, 1, 0), 1);
            Check.same("ALARM " + k + " AT 0", house.alarm(k, 0, 0), 0);
        }
    }

    private static void hourNumbers() {
        Check.sentence("hour: its number.");
        ThreadHouse house = Check.house("feet 4;alarm hour=0 for 1;alarm hour=39 for 1;alarm hour>37 for 2;alarm hour<9 for 9;");
        for (int h = 0; h < 40; h++) {
            Check.hour(house, new int[8]);
        }
        int[] first = {0, 39, 39, 8};
        for (int k = 0; k < 4; k++) {
            Check.same("ALARM " + k, house.alarmed(k, 0), first[k]);
            Check.same("ALARM " + k + " AT it", house.alarm(k, first[k], 0), 1);
            Check.same("ALARM " + k + " behind it", house.alarm(k, first[k] + 1, 0), first[k] == 39 ? NONE : 0);
        }
    }

    private static void noSuchAlarm() {
        Check.sentence("1 ALARM k is AT an HOUR AS OF t, 0 not; NONE: no such ones.");
        ThreadHouse house = Check.house("feet 4;alarm sum=0 for 1;alarm sum>0 for 1;");
        Check.same("no HOURS", house.alarm(0, 0, MOST), NONE);
        house.next(2);
        Check.hour(house, new int[8]);
        Check.same("ALARM 0", house.alarm(0, 0, 2), 1);
        Check.same("ALARM 1", house.alarm(1, 0, 2), 0);
        int[] noAlarm = {-1, LEAST, 2, 3, 5, 6, MOST};
        for (int k : noAlarm) {
            Check.same("ALARM " + k, house.alarm(k, 0, 2), NONE);
        }
        int[] noHour = {-1, LEAST, 1, 2, 39, 40, MOST};
        for (int h : noHour) {
            Check.same("HOUR " + h, house.alarm(0, h, 2), NONE);
            Check.same("HOUR " + h, house.alarm(1, h, 2), NONE);
        }
        int[] noDay = {1, 0, -1, LEAST};
        for (int t : noDay) {
            Check.same("day " + t, house.alarm(0, 0, t), NONE);
        }
        ThreadHouse without = Check.house("feet 4;");
        Check.hour(without, new int[8]);
        Check.same("no ALARMS", without.alarm(0, 0, 0), NONE);
        Check.same("no ALARMS", without.alarmed(0, 0), NONE);
    }

    private static void firstHourAt() {
        Check.sentence("The first HOUR AT which ALARM k is AS OF t");
        ThreadHouse house = Check.house("feet 4;alarm at 0>0 for 1;alarm at 0>0 for 2;");
        Check.hour(house, new int[8]);
        house.next(1);
        Check.hour(house, 1, 0, 0, 0, 0, 0, 0, 0);
        house.next(1);
        Check.hour(house, 2, 0, 0, 0, 0, 0, 0, 0);
        house.next(1);
        Check.mend(house, 0, 5, 0, 0, 0, 0, 0, 0, 0);
        int[][] due = {{NONE, NONE}, {NONE, NONE}, {1, NONE}, {1, 2}, {0, 1}, {0, 1}};
        for (int t = -1; t <= 4; t++) {
            Check.same("ALARM 0 AS OF " + t, house.alarmed(0, t), due[t + 1][0]);
            Check.same("ALARM 1 AS OF " + t, house.alarmed(1, t), due[t + 1][1]);
        }
    }

    private static void noneAlarmed() {
        Check.sentence("NONE: none, or no such ALARM.");
        ThreadHouse house = Check.house("feet 4;alarm sum=0 for 1;alarm sum>0 for 1;");
        Check.same("no HOURS", house.alarmed(0, 999), NONE);
        Check.hour(house, new int[8]);
        Check.same("ALARM 0", house.alarmed(0, 0), 0);
        Check.same("none", house.alarmed(1, 0), NONE);
        int[] noAlarm = {-1, LEAST, 2, 5, 6, MOST};
        for (int k : noAlarm) {
            Check.same("ALARM " + k, house.alarmed(k, 0), NONE);
        }
        Check.same("day -1", house.alarmed(0, -1), NONE);
        Check.same("the least day", house.alarmed(0, LEAST), NONE);
    }

    /** CHANGES without signs, HOUR by HOUR: 1 0 0 5, then 0 9 0 0, then 0 0 0 7. */
    private static ThreadHouse walkable() {
        ThreadHouse house = Check.house("feet 4;fixed 0 to 3;");
        Check.hour(house, 1, 0, 0, -5, 0, 0, 0, 0);
        house.next(1);
        Check.hour(house, 1, 9, 0, -5, 0, 0, 0, 0);
        house.next(1);
        Check.hour(house, 1, 9, 0, 2, 0, 0, 0, 0);
        return house;
    }

    private static void walks(ThreadHouse house, int[] asked, int loudness, String route) {
        String what = "walk(" + asked[0] + ", " + asked[1] + ", " + asked[2] + ", " + asked[3] + ")";
        Check.same(what, house.walk(asked[0], asked[1], asked[2], asked[3]), loudness);
        for (int k = 0; k < route.length(); k++) {
            Check.same("foot " + k + " of " + what, house.walked(k), route.charAt(k) - '0');
        }
        Check.same("behind " + what, house.walked(route.length()), NONE);
    }

    private static void itself() {
        Check.sentence("A WALK from an HOUR to a later one (or to itself): a foot for each HOUR");
        ThreadHouse house = walkable();
        walks(house, new int[] {0, 0, 0, 2}, 5, "3");
        walks(house, new int[] {1, 1, 47, 2}, 9, "1");
        walks(house, new int[] {2, 2, 3, 2}, 7, "3");
        walks(house, new int[] {0, 1, 3, 2}, 14, "31");
        walks(house, new int[] {0, 2, 3, 2}, 21, "313");
    }

    private static void howFar() {
        Check.sentence("from one HOUR to the next one no further than told");
        ThreadHouse house = walkable();
        walks(house, new int[] {0, 2, 0, 2}, 12, "333");
        walks(house, new int[] {0, 2, 1, 2}, 12, "323");
        walks(house, new int[] {0, 2, 2, 2}, 21, "313");
        walks(house, new int[] {0, 2, 47, 2}, 21, "313");
        walks(house, new int[] {0, 1, 0, 2}, 9, "11");
        walks(house, new int[] {0, 1, 1, 2}, 10, "01");
        walks(house, new int[] {0, 1, 2, 2}, 14, "31");
        ThreadHouse wide = Check.house("feet 48;fixed 0 to 47;");
        int[] row = new int[96];
        row[0] = 1;
        Check.hour(wide, row);
        row[47] = 1;
        Check.hour(wide, row);
        Check.same("46 feet", wide.walk(0, 1, 46, 0), 1);
        Check.same("first", wide.walked(0), 0);
        Check.same("second", wide.walked(1), 0);
        Check.same("47 feet", wide.walk(0, 1, 47, 0), 2);
        Check.same("first", wide.walked(0), 0);
        Check.same("second", wide.walked(1), 47);
        row[0] = 0;
        Check.hour(wide, row);
        Check.same("back by 46 feet", wide.walk(1, 2, 46, 0), 1);
        Check.same("back by 47 feet", wide.walk(1, 2, 47, 0), 2);
    }

    private static void loudest() {
        Check.sentence("its LOUDNESS: the sum of CHANGES there without signs. The loudest");
        ThreadHouse house = Check.house("feet 4;fixed 0 to 3;");
        Check.hour(house, 0, 3, -4, 0, 0, 0, 0, 0);
        Check.hour(house, 9, 0, -4, 0, 0, 0, 0, 0);
        walks(house, new int[] {0, 1, 0, 0}, 9, "00");
        walks(house, new int[] {0, 1, 1, 0}, 12, "10");
        walks(house, new int[] {0, 1, 2, 0}, 13, "20");
        ThreadHouse still = Check.house("feet 4;");
        Check.hour(still, new int[8]);
        walks(still, new int[] {0, 0, 0, 0}, 0, "0");
    }

    private static void lesserFoot() {
        Check.sentence("of like ones the first (HOUR by HOUR the lesser foot).");
        ThreadHouse house = Check.house("feet 4;fixed 0 to 3;");
        Check.hour(house, 0, 5, 0, 5, 0, 0, 0, 0);
        Check.hour(house, 7, 5, 7, 5, 0, 0, 0, 0);
        Check.hour(house, 7, 6, 7, 6, 0, 0, 0, 0);
        walks(house, new int[] {0, 0, 3, 0}, 5, "1");
        walks(house, new int[] {0, 1, 1, 0}, 12, "10");
        walks(house, new int[] {0, 2, 1, 0}, 13, "101");
        walks(house, new int[] {1, 2, 3, 0}, 8, "01");
        walks(house, new int[] {2, 2, 0, 0}, 1, "1");
        ThreadHouse still = Check.house("feet 4;");
        for (int h = 0; h < 4; h++) {
            Check.hour(still, new int[8]);
        }
        walks(still, new int[] {0, 3, 2, 0}, 0, "0000");
    }

    private static void noSuchWalk() {
        Check.sentence("NONE: no such HOURS (a ahead of b or the same), or feet.");
        ThreadHouse none = Check.house("feet 4;");
        Check.same("no HOURS", none.walk(0, 0, 0, MOST), NONE);
        ThreadHouse house = walkable();
        int[][] refused = {{1, 0, 3, 2}, {2, 1, 3, 2}, {-1, 0, 3, 2}, {-1, -1, 3, 2}, {0, -1, 3, 2}, {0, 3, 3, 2}, {3, 3, 3, 2},
            {3, 2, 3, 2}, {39, 40, 3, 2}, {40, 40, 3, 2}, {0, MOST, 3, 2}, {LEAST, 0, 3, 2}, {LEAST, MOST, 3, 2}, {MOST, LEAST, 3, 2},
            {MOST, MOST, 3, 2}, {0, 2, -1, 2}, {0, 2, LEAST, 2}, {0, 2, 48, 2}, {0, 2, MOST, 2}, {0, 2, 3, 1}, {0, 1, 3, 0},
            {0, 0, 3, -1}, {0, 0, 3, LEAST}, {2, 2, 0, 1}};
        walks(house, new int[] {0, 2, 3, 2}, 21, "313");
        for (int[] asked : refused) {
            Check.same("walk(" + asked[0] + ", " + asked[1] + ", " + asked[2] + ", " + asked[3] + ")",
                    house.walk(asked[0], asked[1], asked[2], asked[3]), NONE);
            Check.same("the latest stays", house.walked(0) * 100 + house.walked(1) * 10 + house.walked(2), 313);
            Check.same("the latest stays", house.walked(3), NONE);
        }
        walks(house, new int[] {0, 1, 3, 1}, 14, "31");
        walks(house, new int[] {0, 0, 3, 0}, 5, "3");
        walks(house, new int[] {0, 2, 47, MOST}, 21, "313");
    }

    private static void noSuchWalked() {
        Check.sentence("The foot of the k-th HOUR of the latest walk() that was not NONE; NONE: there is none such, or ahead of any.");
        ThreadHouse house = walkable();
        int[] others = {-1, LEAST, 3, 39, 40, MOST};
        Check.same("ahead of any", house.walked(0), NONE);
        house.walk(1, 0, 0, 0);
        Check.same("still ahead of any", house.walked(0), NONE);
        house.walk(0, 2, 3, 2);
        for (int k : others) {
            Check.same("walked(" + k + ")", house.walked(k), NONE);
        }
        Check.same("walked(2)", house.walked(2), 3);
        house.walk(1, 1, 3, 2);
        Check.same("the latest: walked(0)", house.walked(0), 1);
        Check.same("the latest: walked(1)", house.walked(1), NONE);
        Check.same("MENDED behind it", Check.mend(house, 1, new int[8]), true);
        Check.same("as it was walked", house.walked(0), 1);
    }

    private static void longestWalk() {
        Check.sentence("The loudest WALK from HOUR a to b AS OF t, no further than so many feet an HOUR (0 to 47)");
        ThreadHouse house = Check.house("feet 48;fixed 0 to 47;");
        int[] row = new int[96];
        for (int h = 0; h < 40; h++) {
            row[h + 8] = -99;
            Check.hour(house, row);
        }
        Check.same("forty HOURS", house.walk(0, 39, 1, 0), 40 * 99);
        for (int h = 0; h < 40; h++) {
            Check.same("walked(" + h + ")", house.walked(h), h + 8);
        }
        Check.same("walked(40)", house.walked(40), NONE);
        Check.same("never away", house.walk(0, 39, 0, 0), 99);
        Check.same("there", house.walked(0) * 100 + house.walked(39), 808);
        Check.same("the last one alone", house.walk(39, 39, 0, 0), 99);
        Check.same("there", house.walked(0), 47);
    }
}
