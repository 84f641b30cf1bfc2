import java.util.Random;

/** Promises 13, 14, 20 and 21: alarms by their CONDS, and loads walked over. */
public final class AlarmTest {
    public static void main(String[] args) {
        measures();
        binding();
        hoursOnEnd();
        asOfDays();
        walks();
        longestWalk();
        wrongWalks();
        for (int seed = 0; seed < 200; seed++) {
            againstPlainHouse(new Random(seed));
        }
        Check.finish();
    }

    /** CHANGES of hour 0: 4, -6, 0, 1 (nothing slips); of hour 1: -4, 6, 0, 2. */
    private static ThreadHouse steady(String alarms) {
        ThreadHouse house = Check.house("feet 4;holds 99 from 0 to 3;" + alarms);
        Check.hour(house, 4, -6, 0, 1, 0, 0, 0, 0);
        Check.hour(house, 0, 0, 0, 3, 50, 50, 50, 50);
        return house;
    }

    private static int alarm(String cond, int h) {
        return steady("alarm " + cond + " for 1;").alarm(0, h, 0);
    }

    private static void measures() {
        Check.same("peak", alarm("peak = 6", 0), 1);
        Check.same("peak", alarm("peak < 6", 0), 0);
        Check.same("peak", alarm("peak > 6", 0), 0);
        Check.same("peak", alarm("peak > 5", 0), 1);
        Check.same("sum", alarm("sum = 11", 0), 1);
        Check.same("sum", alarm("sum = 12", 1), 1);
        Check.same("at", alarm("at 1 = 6", 0), 1);
        Check.same("at", alarm("at 3 = 2", 1), 1);
        Check.same("at", alarm("at 0 = 4", 1), 1);
        Check.same("slips", alarm("slips = 0", 0), 1);
        Check.same("hour", alarm("hour = 0", 0), 1);
        Check.same("hour", alarm("hour = 1", 1), 1);
        Check.same("hour", alarm("hour < 1", 1), 0);
        Check.same("any number", alarm("sum < 9999", 1), 1);
        ThreadHouse still = Check.house("feet 4;alarm peak=0 for 1;alarm sum=0 for 1;alarm at 2=0 and slips=0 for 1;");
        Check.hour(still, new int[8]);
        for (int k = 0; k < 3; k++) {
            Check.same("nothing changes", still.alarm(k, 0, 0), 1);
        }
    }

    private static void binding() {
        Check.same("and binds ahead of or", alarm("hour=0 or hour=0 and hour=1", 0), 1);
        Check.same("and binds ahead of or", alarm("hour=1 and hour=0 or hour=0", 0), 1);
        Check.same("round signs", alarm("(hour=0 or hour=0) and hour=1", 0), 0);
        Check.same("not binds first", alarm("not hour=1 and hour=1", 0), 0);
        Check.same("not binds first", alarm("not hour=0 or hour=0", 0), 1);
        Check.same("not of all", alarm("not (hour=0 or hour=1)", 0), 0);
        Check.same("not not", alarm("not not hour=0", 0), 1);
        Check.same("three", alarm("hour=1 or hour=1 or hour=0", 0), 1);
        Check.same("three", alarm("hour=0 and hour=0 and hour=1", 0), 0);
    }

    private static void hoursOnEnd() {
        ThreadHouse house = Check.house("feet 4;alarm at 0 > 0 for 1;alarm at 0 > 0 for 3;alarm at 0 > 0 for 9;");
        int[] body = {1, 0, 0, 1, 2, 3, 3, 4};
        int[] one = {1, 1, 0, 1, 1, 1, 0, 1};
        int[] three = {0, 0, 0, 0, 0, 1, 0, 0};
        Check.same("none yet", house.alarmed(1, 0), -1);
        for (int h = 0; h < body.length; h++) {
            Check.hour(house, body[h], 0, 0, 0, 0, 0, 0, 0);
        }
        for (int h = 0; h < body.length; h++) {
            Check.same("for 1 at " + h, house.alarm(0, h, 0), one[h]);
            Check.same("for 3 at " + h, house.alarm(1, h, 0), three[h]);
            Check.same("for 9 at " + h, house.alarm(2, h, 0), 0);
        }
        Check.same("first", house.alarmed(0, 0), 0);
        Check.same("first", house.alarmed(1, 0), 5);
        Check.same("first", house.alarmed(2, 0), -1);
        Check.same("no such alarm", house.alarmed(3, 0), -1);
        Check.same("no such alarm", house.alarmed(-1, 0), -1);
        Check.same("no such alarm", house.alarm(3, 0, 0), -1);
        Check.same("no such alarm", house.alarm(-1, 0, 0), -1);
        Check.same("no such hour", house.alarm(0, 8, 0), -1);
        Check.same("no such hour", house.alarm(0, -1, 0), -1);
        Check.same("no such day", house.alarm(0, 0, -1), -1);
        Check.same("no such day", house.alarmed(0, -1), -1);
        Check.same("most", house.alarm(Integer.MAX_VALUE, Integer.MAX_VALUE, Integer.MAX_VALUE), -1);
        Check.same("alarms", house.count(3), 3);
    }

    private static void asOfDays() {
        ThreadHouse house = Check.house("feet 4;alarm peak > 5 for 1;");
        Check.hour(house, 1, 0, 0, 0, 0, 0, 0, 0);
        house.next(1);
        Check.hour(house, 1, 9, 0, 0, 0, 0, 0, 0);
        house.next(1);
        Check.mend(house, 0, 1, 9, 0, 0, 0, 0, 0, 0);
        Check.same("as of 0", house.alarmed(0, 0), -1);
        Check.same("as of 1", house.alarmed(0, 1), 1);
        Check.same("as of 2", house.alarmed(0, 2), 0);
        Check.same("as of 0", house.alarm(0, 1, 0), -1);
        Check.same("as of 1", house.alarm(0, 1, 1), 1);
        Check.same("as of 2", house.alarm(0, 1, 2), 0);
    }

    private static void walks() {
        ThreadHouse house = Check.house("feet 4;holds 99 from 0 to 3;");
        Check.hour(house, 5, 0, 0, 5, 0, 0, 0, 0);
        Check.hour(house, 5, 1, -2, 5, 0, 0, 0, 0);
        Check.hour(house, 5, 1, -2, -2, 0, 0, 0, 0);
        // CHANGES without signs: 5 0 0 5, then 0 1 2 0, then 0 0 0 7.
        int[][] walks = {{0, 2, 0}, {0, 2, 1}, {0, 2, 47}, {0, 0, 3}, {1, 1, 0}, {1, 2, 1}, {0, 1, 1}, {0, 1, 2}};
        int[] loudness = {12, 14, 14, 5, 2, 9, 7, 7};
        String[] routes = {"333", "323", "023", "0", "2", "23", "32", "02"};
        for (int w = 0; w < walks.length; w++) {
            int[] walk = walks[w];
            Check.same("walk " + w, house.walk(walk[0], walk[1], walk[2], 0), loudness[w]);
            for (int k = 0; k < routes[w].length(); k++) {
                Check.same("walk " + w + " at " + k, house.walked(k), routes[w].charAt(k) - '0');
            }
            Check.same("no further", house.walked(routes[w].length()), -1);
        }
        ThreadHouse still = Check.house("feet 4;");
        Check.hour(still, new int[8]);
        Check.hour(still, new int[8]);
        Check.same("all still", still.walk(0, 1, 3, 0), 0);
        Check.same("the lesser foot", still.walked(0) + still.walked(1), 0);
    }

    /** Forty HOURS over 48 feet: a load that goes two feet an HOUR, there and back. */
    private static void longestWalk() {
        ThreadHouse house = Check.house("feet 48;fixed 0 to 47;");
        for (int h = 0; h < 40; h++) {
            int[] row = new int[96];
            for (int ahead = 0; ahead <= h; ahead++) {
                row[load(ahead)] = row[load(ahead)] == 0 ? 9 : 0;
            }
            Check.hour(house, row);
        }
        Check.same("as far as it goes", house.walk(0, 39, 2, 0), 360);
        for (int h = 0; h < 40; h++) {
            Check.same("where it was", house.walked(h), load(h));
        }
        Check.same("no further", house.walked(40), -1);
        Check.same("as far as may be", house.walk(0, 39, 47, 0), 360);
        Check.same("at its end", house.walked(23), 46);
        Check.same("too slow", house.walk(0, 39, 1, 0) < 360, true);
        Check.same("a part of it", house.walk(22, 39, 2, 0), 162);
        Check.same("its last foot", house.walked(17), load(39));
    }

    private static int load(int h) {
        return h < 24 ? 2 * h : 94 - 2 * h;
    }

    private static void wrongWalks() {
        ThreadHouse house = Check.house("feet 4;");
        Check.same("no hours", house.walk(0, 0, 0, 0), -1);
        Check.hour(house, 0, 0, 9, 0, 0, 0, 0, 0);
        house.next(3);
        Check.hour(house, 0, 0, 9, 9, 0, 0, 0, 0);
        Check.same("ahead of any", house.walked(0), -1);
        Check.same("a walk", house.walk(0, 1, 2, 3), 18);
        Check.same("far -1", house.walk(0, 1, -1, 3), -1);
        Check.same("far 48", house.walk(0, 1, 48, 3), -1);
        Check.same("back", house.walk(1, 0, 2, 3), -1);
        Check.same("a -1", house.walk(-1, 0, 2, 3), -1);
        Check.same("b 2", house.walk(0, 2, 2, 3), -1);
        Check.same("not yet", house.walk(0, 1, 2, 2), -1);
        Check.same("most", house.walk(Integer.MIN_VALUE, Integer.MAX_VALUE, 2, 3), -1);
        Check.same("the latest stays", house.walked(0), 2);
        Check.same("the latest stays", house.walked(1), 3);
        Check.same("none behind", house.walked(2), -1);
        Check.same("none ahead", house.walked(-1), -1);
        Check.same("by then", house.walk(0, 0, 2, 2), 9);
        Check.same("one hour alone", house.walked(1), -1);
    }

    private interface Cond {
        boolean holds(int[] change, int slips, int hour);
    }

    private static Cond cond(Random random, StringBuilder text, int feet, int depth) {
        Cond all = null;
        Cond any = null;
        int ones = 1 + random.nextInt(3);
        for (int one = 0; one < ones; one++) {
            boolean or = one > 0 && random.nextBoolean();
            text.append(one == 0 ? "" : or ? " or " : " and ");
            Cond next = one(random, text, feet, depth);
            Cond before = all;
            if (or || one == 0) {
                Cond anyBefore = any;
                any = one == 0 ? null : anyBefore == null ? before
                        : (c, s, h) -> anyBefore.holds(c, s, h) || before.holds(c, s, h);
                all = next;
            } else {
                all = (c, s, h) -> before.holds(c, s, h) && next.holds(c, s, h);
            }
        }
        Cond first = any;
        Cond last = all;
        return first == null ? last : (c, s, h) -> first.holds(c, s, h) || last.holds(c, s, h);
    }

    private static Cond one(Random random, StringBuilder text, int feet, int depth) {
        int kind = random.nextInt(depth >= 3 ? 5 : 7);
        if (kind == 5) {
            text.append("not ");
            Cond inner = one(random, text, feet, depth + 1);
            return (c, s, h) -> !inner.holds(c, s, h);
        }
        if (kind == 6) {
            text.append("(");
            Cond inner = cond(random, text, feet, depth + 1);
            text.append(")");
            return inner;
        }
        int foot = random.nextInt(feet);
        int sign = random.nextInt(3);
        int number = random.nextInt(new int[] {12, 40, 30, 6, 8}[kind]);
        text.append(new String[] {"peak", "sum", "slips", "hour", "at " + foot}[kind]);
        text.append(" <=>".charAt(1 + sign)).append(number);
        return (c, s, h) -> {
            int sum = java.util.Arrays.stream(c).sum();
            int peak = java.util.Arrays.stream(c).max().getAsInt();
            int got = new int[] {peak, sum, s, h, c[foot]}[kind];
            return Integer.compare(got, number) == sign - 1;
        };
    }

    private static void againstPlainHouse(Random random) {
        int feet = 4 + random.nextInt(2);
        int alarms = 1 + random.nextInt(3);
        StringBuilder text = new StringBuilder("feet " + feet + ";holds 3 from 0 to 2;");
        Cond[] conds = new Cond[alarms];
        int[] hoursFor = new int[alarms];
        for (int k = 0; k < alarms; k++) {
            text.append("alarm ");
            conds[k] = cond(random, text, feet, 1);
            hoursFor[k] = 1 + random.nextInt(3);
            text.append(" for ").append(hoursFor[k]).append(';');
        }
        ThreadHouse house = new ThreadHouse();
        if (Check.text(house, text.toString()) < 0) {
            return;
        }
        PlainHouse plain = new PlainHouse(feet);
        plain.hold(3, 0, 2);
        int hours = 2 + random.nextInt(4);
        for (int step = 0; step < hours + 2; step++) {
            int[] row = new int[2 * feet];
            for (int i = 0; i < feet; i++) {
                row[i] = random.nextInt(21) - 10;
            }
            int h = step < hours ? step : random.nextInt(hours);
            if (step < hours) {
                Check.hour(house, row);
            } else {
                Check.mend(house, h, row);
            }
            plain.tell(h, step, row);
            house.next(1);
        }
        for (int day = 0; day < hours + 3; day++) {
            for (int k = 0; k < alarms; k++) {
                compare(house, plain, k, new int[] {day, hours, hoursFor[k]}, conds[k]);
            }
            compareWalk(house, plain, random, new int[] {day, hours, feet});
        }
    }

    private static void compare(ThreadHouse house, PlainHouse plain, int k, int[] told, Cond cond) {
        int first = -1;
        for (int h = 0; h < told[1]; h++) {
            int due = -1;
            if (plain.row(h, told[0]) != null) {
                due = h + 1 >= told[2] ? 1 : 0;
                for (int back = h; back >= 0 && back > h - told[2]; back--) {
                    int[] feels = plain.feel(back, told[0]);
                    boolean holds = cond.holds(plain.change(back, told[0]), feels[feels.length - 1], back);
                    due = holds ? due : 0;
                }
                first = first < 0 && due == 1 ? h : first;
            }
            Check.same("alarm", house.alarm(k, h, told[0]), due);
        }
        Check.same("alarmed", house.alarmed(k, told[0]), first);
    }

    private static void compareWalk(ThreadHouse house, PlainHouse plain, Random random, int[] told) {
        int b = random.nextInt(told[1]);
        int a = random.nextInt(b + 1);
        int far = random.nextInt(told[2]);
        if (plain.row(b, told[0]) == null) {
            Check.same("no walk", house.walk(a, b, far, told[0]), -1);
            return;
        }
        int[][] change = new int[b - a + 1][];
        for (int h = a; h <= b; h++) {
            change[h - a] = plain.change(h, told[0]);
        }
        int[] best = null;
        int loudest = -1;
        int all = (int) Math.pow(told[2], change.length);
        for (int code = 0; code < all; code++) {
            int[] route = new int[change.length];
            int rest = code;
            for (int h = change.length - 1; h >= 0; h--) {
                route[h] = rest % told[2];
                rest /= told[2];
            }
            int loud = 0;
            for (int h = 0; h < change.length; h++) {
                loud += change[h][route[h]];
                loud -= h > 0 && Math.abs(route[h] - route[h - 1]) > far ? 1000000 : 0;
            }
            if (loud > loudest) {
                loudest = loud;
                best = route;
            }
        }
        Check.same("walk", house.walk(a, b, far, told[0]), loudest);
        for (int h = 0; h < change.length; h++) {
            Check.same("walked", house.walked(h), best[h]);
        }
    }
}
