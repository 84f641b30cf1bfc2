import java.util.NoSuchElementException;
import java.util.Random;

/**
 * Any arguments in any state: nothing but the document's exception where the document names it,
 * a call that throws changes nothing, and the same calls give the same answers.
 */
public final class HostileTest {
    private static final long THROWN = Long.MIN_VALUE;
    /** count(1), end(0), five feeds for 96 bytes, end and the call itself. */
    private static final int MOST_CALLS_A_ROUND = 9;
    private static final int[] EDGES = {Integer.MIN_VALUE, Integer.MIN_VALUE + 1, -1000, -129, -100, -2, -1, 0, 1, 2,
        3, 4, 5, 8, 9, 12, 13, 20, 39, 40, 47, 48, 49, 60, 99, 255, 256, 439, 440, 441, 999, 1000,
        Integer.MAX_VALUE - 1, Integer.MAX_VALUE};
    private static final String[] TEXTS = {"feet 4;noise 3;alarm peak>3 for 2;alarm not(at 3=0 or slips>9)and sum<50 for 1;",
        "feet 10;holds 1 from 0 to 9;fixed 3 to 3;alarm hour>0 for 9;", "feet 48;noise 9;", "", "feet 5;pull 0;"};

    public static void main(String[] args) {
        for (int seed = 0; seed < 1500; seed++) {
            run(seed);
        }
        Check.finish();
    }

    /** The twin does not get the calls that throw: if they changed something, it would answer otherwise. */
    private static void run(int seed) {
        Random random = new Random(seed);
        ThreadHouse house = new ThreadHouse();
        ThreadHouse twin = new ThreadHouse();
        int calls = 0;
        // Beyond 512 calls the document promises nothing.
        while (calls + MOST_CALLS_A_ROUND <= 512) {
            int which = random.nextInt(34);
            int[] a = new int[5];
            for (int i = 0; i < 5; i++) {
                a[i] = number(random, which);
            }
            calls += which < 26 ? 2 : MOST_CALLS_A_ROUND;
            long answer = answer(house, which, a);
            boolean mayThrow = which == 8 || which == 10 || which == 14 || which == 22;
            Check.same("call " + which + " throws", answer == THROWN && !mayThrow, false);
            if (answer != THROWN) {
                Check.same("the twin's answer to call " + which, answer(twin, which, a), answer);
            }
        }
    }

    private static int number(Random random, int which) {
        if (which >= 26) {
            return random.nextInt();
        }
        return random.nextInt(3) == 0 ? EDGES[random.nextInt(EDGES.length)] : random.nextInt(6);
    }

    private static long answer(ThreadHouse house, int which, int[] a) {
        try {
            return which < 16 ? early(house, which, a) : late(house, which, a);
        } catch (NoSuchElementException e) {
            return THROWN;
        }
    }

    private static long early(ThreadHouse house, int which, int[] a) {
        switch (which) {
            case 0: return house.feed(a[0], a[1], a[2], a[3], a[4]);
            case 1: return house.end(a[0]) ? 1 : 0;
            case 2: return house.next(a[0]);
            case 3: return house.text();
            case 4: return house.fault();
            case 5: return house.foot(a[0], a[1]);
            case 6: return house.hour();
            case 7: return house.mend(a[0]) ? 1 : 0;
            case 8: return house.felt(a[0], a[1], a[2]);
            case 9: return house.slips(a[0], a[1]);
            case 10: return house.read(a[0], a[1], a[2], a[3]);
            case 11: return house.alarm(a[0], a[1], a[2]);
            case 12: return house.alarmed(a[0], a[1]);
            case 13: return house.tellings();
            case 14: return house.mayFeel(a[0], a[1]);
            default: return house.shape(a[0]) ? 1 : 0;
        }
    }

    private static long late(ThreadHouse house, int which, int[] a) {
        int feet = house.count(1);
        switch (which) {
            case 16: return house.explain();
            case 17: return house.event(a[0], a[1]);
            case 18: return house.walk(a[0], a[1], a[2], a[3]);
            case 19: return house.walked(a[0]);
            case 20: return house.lined(a[0], a[1]);
            case 21: return house.paired(a[0]);
            case 22: return house.falseShare(a[0], a[1], a[2]);
            case 23: return house.gauges();
            case 24: return house.gauge(a[0]);
            case 25: return house.count(a[0]);
            case 26: return Check.text(house, TEXTS[Math.floorMod(a[0], TEXTS.length)]);
            case 27: return Check.hour(house, row(a[0], 2 * feet, 50));
            case 28: return Check.mend(house, Math.floorMod(a[1], 4), row(a[0], 2 * feet, 50)) ? 1 : 0;
            case 29: return Check.explain(house, row(a[0], feet, 9));
            case 30: return Check.shape(house, Math.floorMod(a[1], 6), row(a[0], 1 + Math.floorMod(a[2], 4), 5)) ? 1 : 0;
            case 31: return Check.tellings(house, row(a[0], feet, 5));
            case 32: return Check.lined(house, Math.floorMod(a[1], 9), Math.floorMod(a[2], 99), row(a[0], 16, 99));
            default: return house.feed(a[0], a[1], a[2], a[3], a[4]);
        }
    }

    private static int[] row(int seed, int length, int most) {
        Random random = new Random(seed);
        int[] row = new int[length];
        for (int i = 0; i < length; i++) {
            row[i] = random.nextInt(2 * most + 1) - most;
        }
        return row;
    }
}
