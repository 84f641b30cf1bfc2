import java.util.List;
import java.util.NoSuchElementException;
import java.util.function.Consumer;
import java.util.function.ToLongFunction;

/**
 * Refused calls of every promise, and calls that only ask: behind each a house is as its twin that
 * did not get the call. Of the calls that use the tape the twin's tape is emptied by end(0).
 */
public final class RefusedTest {
    private static final int NONE = -1;
    private static final int LEAST = Integer.MIN_VALUE;
    private static final int MOST = Integer.MAX_VALUE;
    private static final long THROWN = Long.MIN_VALUE;

    public static void main(String[] args) {
        refusedFeeds();
        refusedEnds();
        refusedDays();
        refusedTexts();
        textsBehindHours();
        refusedHours();
        refusedMends();
        refusedTellings();
        refusedShapes();
        refusedExplains();
        refusedWalks();
        refusedLined();
        refusedGauges();
        throwing();
        onlyAsking();
        Check.finish();
    }

    /** A house that has something of everything but HOURS; three bytes on its tape. */
    private static ThreadHouse early() {
        ThreadHouse house = Check.house("feet 4;noise 2;pull 3;heat 2;holds 4 from 1 to 2;fixed 3 to 3;"
                + "alarm peak>3 for 1;alarm sum>0 for 2;");
        Check.text(house, "pull 0;");
        Check.shape(house, 0, 9);
        Check.shape(house, 4, 5, -4);
        Check.tellings(house, 30, 17, 2, 1);
        Check.explain(house, 0, 9, 18, 0);
        Check.lined(house, 3, 5, 7, 8, 9, 8, 9);
        Check.gauges(house, 0, 1, 3, 3);
        Check.tape(house, 200, 3, 77);
        return house;
    }

    /** The same with two HOURS, the first one MENDED, and a walk. */
    private static ThreadHouse late() {
        ThreadHouse house = early();
        house.next(1);
        Check.hour(house, 20, 0, 0, 9, 1, -2, 3, -4);
        house.next(1);
        Check.hour(house, 20, -9, 30, 9, 5, 6, 7, 8);
        house.next(2);
        Check.mend(house, 0, 0, 30, 0, 0, 50, 0, 0, 0);
        house.walk(0, 1, 2, 4);
        Check.tape(house, 200, 3, 77);
        return house;
    }

    private static void refuses(String what, boolean hours, Consumer<ThreadHouse> ahead,
            ToLongFunction<ThreadHouse> call, long due, boolean usesTape) {
        ThreadHouse house = hours ? late() : early();
        ThreadHouse twin = hours ? late() : early();
        ahead.accept(house);
        ahead.accept(twin);
        Check.same(what, answer(house, call), due);
        if (usesTape) {
            twin.end(0);
        }
        alike(what, Whole.of(house), Whole.of(twin), "");
    }

    private static long answer(ThreadHouse house, ToLongFunction<ThreadHouse> call) {
        try {
            return call.applyAsLong(house);
        } catch (NoSuchElementException e) {
            return THROWN;
        }
    }

    private static void alike(String what, List<String> got, List<String> due, String butFor) {
        Check.same("behind " + what + ", lines", got.size(), due.size());
        for (int i = 0; i < got.size() && i < due.size(); i++) {
            boolean free = !butFor.isEmpty() && due.get(i).startsWith(butFor);
            Check.same("behind " + what + ", " + got.get(i) + " and not " + due.get(i),
                    free || got.get(i).equals(due.get(i)), true);
        }
    }

    /** A call without the tape, with HOURS there. */
    private static void refuses(String what, ToLongFunction<ThreadHouse> call, long due) {
        refuses(what, true, house -> { }, call, due, false);
    }

    /** A call that uses the tape, with HOURS there and without. */
    private static void refusesTape(String what, int[] bytes, ToLongFunction<ThreadHouse> call, long due) {
        refuses(what, true, house -> Check.tape(house, bytes), call, due, true);
        refuses(what, false, house -> Check.tape(house, bytes), call, due, true);
    }

    private static void refusedFeeds() {
        Check.sentence("NONE, and none come, if it would have more than 440.");
        int[] lengths = {421, 430, 439, 440};
        for (int length : lengths) {
            int[] bytes = new int[length];
            for (int i = 0; i < length; i++) {
                bytes[i] = 7 * i;
            }
            refuses("feed", true, house -> Check.tape(house, bytes), house -> house.feed(1, -1, 2, -2, 3), NONE, false);
        }
    }

    private static void refusedEnds() {
        Check.sentence("false, if it has not so many, or n is below 0.");
        int[] refused = {-1, LEAST, 4, 20, 440, MOST};
        for (int n : refused) {
            refuses("end(" + n + ")", house -> house.end(n) ? 1 : 0, 0);
        }
    }

    private static void refusedDays() {
        Check.sentence("NONE: another n, or it would be behind 999.");
        int[] refused = {-1, LEAST, 996, 999, 1000, MOST};
        for (int n : refused) {
            refuses("next(" + n + ")", house -> house.next(n), NONE);
        }
    }

    private static void refusedTexts() {
        Check.sentence("-1 - the place of a FAULT: it stays");
        String[] texts = {"feet 9;pull 7;heat 7;noise 7;fixed 0 to 8;holds 50 from 0 to 8;alarm hour=0 for 1;?",
            "feet 9;pull 7;heat 7;noise 7;fixed 0 to 8;holds 50 from 0 to 8;alarm hour=0 for 0;",
            "feet 9;pull 7;heat 7;noise 7;fixed 0 to 8;holds 50 from 0 to 8;alarm hour=0 for 1;heat 1;",
            "feet 9;pull 7;heat 7;noise 7;fixed 0 to 8;holds 50 from 0 to 8;alarm hour=0 for 1;alarm " + "(".repeat(11),
            "feet 9;pull 7;heat 7;noise 7;fixed 0 to 8;holds 50 from 0 to 8;alarm hour=0 for 1;" + " ".repeat(330),
            "feet 9", "fixed 0 to 0", "alarm sum=0 for 1"};
        int[] places = {82, 80, 82, 98, 400, 6, 12, 17};
        int[] kinds = {1, 2, 3, 4, 1, 1, 1, 1};
        for (int t = 0; t < texts.length; t++) {
            ThreadHouse house = early();
            ThreadHouse twin = early();
            Check.same("text() of " + texts[t], Check.text(house, texts[t]), -1 - places[t]);
            Check.same("fault() of " + texts[t], house.fault(), kinds[t]);
            twin.end(0);
            alike(texts[t], Whole.of(house), Whole.of(twin), "fault");
        }
    }

    private static void textsBehindHours() {
        Check.sentence("-1000: there are HOURS.");
        String[] texts = {"feet 9;pull 7;heat 7;noise 7;fixed 0 to 8;holds 50 from 0 to 8;alarm hour=0 for 1;", "", "pull", "heat 1;heat 1;",
            " ".repeat(440)};
        for (String text : texts) {
            refuses("text() of " + text, true, house -> house.end(0), house -> Check.text(house, text), -1000, true);
        }
    }

    private static void refusedHours() {
        Check.sentence("NONE: there are 40, or not as told.");
        int[][] refused = {{}, {1}, {1, 2, 3, 4, 5, 6, 7}, {1, 2, 3, 4, 5, 6, 7, 8, 9}, {100, 2, 3, 4, 5, 6, 7, 8},
            {1, 2, 3, -100, 5, 6, 7, 8}, {1, 2, 3, 4, 51, 6, 7, 8}, {1, 2, 3, 4, 5, 6, 7, -51}, new int[440]};
        for (int[] row : refused) {
            refusesTape("hour() of " + row.length, row, house -> house.hour(), NONE);
        }
        fullOf(40, 0, house -> Check.hour(house, 1, 2, 3, 4, 5, 6, 7, 8), NONE);
    }

    private static void refusedMends() {
        Check.sentence("false: no such HOUR, not as told, or 60 were MENDED.");
        int[] row = {1, 2, 3, 4, 5, 6, 7, 8};
        int[] refused = {-1, LEAST, 2, 3, 40, MOST};
        for (int h : refused) {
            refusesTape("mend(" + h + ")", row, house -> house.mend(h) ? 1 : 0, 0);
        }
        refuses("mend(0), no HOURS", false, house -> Check.tape(house, row), house -> house.mend(0) ? 1 : 0, 0, true);
        int[][] rows = {{}, {1, 2, 3, 4, 5, 6, 7}, {1, 2, 3, 4, 5, 6, 7, 8, 9}, {-100, 2, 3, 4, 5, 6, 7, 8}, {1, 2, 3, 4, 5, 6, 7, 51}};
        for (int[] wrong : rows) {
            refusesTape("mend(0) of " + wrong.length, wrong, house -> house.mend(0) ? 1 : 0, 0);
            refusesTape("mend(1) of " + wrong.length, wrong, house -> house.mend(1) ? 1 : 0, 0);
        }
        fullOf(1, 60, house -> Check.mend(house, 0, 1, 2, 3, 4, 5, 6, 7, 8) ? 1 : 0, 0);
    }

    /** A house that is full of HOURS or of MENDED rows, and its twin. */
    private static void fullOf(int hours, int mended, ToLongFunction<ThreadHouse> call, long due) {
        ThreadHouse house = full(hours, mended);
        ThreadHouse twin = full(hours, mended);
        Check.same("full of " + hours + " and " + mended, answer(house, call), due);
        twin.end(0);
        for (int what = 0; what <= 5; what++) {
            Check.same("count " + what, house.count(what), twin.count(what));
        }
        for (int h = 0; h <= 40; h += 13) {
            Check.same("slips " + h, house.slips(h, 999), twin.slips(h, 999));
            for (int i = 0; i < 4 && h < hours; i++) {
                Check.same("felt " + i, house.felt(i, h, 999), twin.felt(i, h, 999));
                Check.same("read " + i, house.read(i, h, 999, 0), twin.read(i, h, 999, 0));
            }
        }
    }

    private static ThreadHouse full(int hours, int mended) {
        ThreadHouse house = Check.house("feet 4;");
        for (int h = 0; h < hours; h++) {
            Check.hour(house, h, -h, 2 * h, 7, h, 1, 2, 3);
        }
        for (int m = 0; m < mended; m++) {
            Check.mend(house, 0, m, 0, -m, m, 4, 3, 2, m % 50);
        }
        return house;
    }

    private static void refusedTellings() {
        Check.sentence("NONE: another length.");
        int[] lengths = {0, 1, 4, 6, 7, 9, 10, 16, 440};
        for (int length : lengths) {
            refusesTape("tellings() of " + length, new int[length], house -> house.tellings(), NONE);
        }
        Check.sentence("of the latest tellings() that told some.");
        refusesTape("tellings() without any", new int[] {1, 0, 0, 0, 0, 0, 0, 0}, house -> house.tellings(), 0);
    }

    private static void refusedShapes() {
        Check.sentence("false: no such number, or not as told.");
        int[] numbers = {-1, LEAST, 6, 7, MOST};
        for (int k : numbers) {
            refusesTape("shape(" + k + ")", new int[] {1, 2}, house -> house.shape(k) ? 1 : 0, 0);
        }
        int[][] wrong = {{}, {0}, {0, 1}, {100}, {-100}, {1, 100}, {1, -100}, {1, 2, 3, 4, 5, 6, 7, 8, 9, 10}, new int[440]};
        for (int[] shape : wrong) {
            refusesTape("shape(0) of " + shape.length, shape, house -> house.shape(0) ? 1 : 0, 0);
            refusesTape("shape(4) of " + shape.length, shape, house -> house.shape(4) ? 1 : 0, 0);
        }
    }

    private static void refusedExplains() {
        Check.sentence("NONE: another length; -2: they can't explain it.");
        int[] lengths = {0, 1, 3, 5, 8, 440};
        for (int length : lengths) {
            refusesTape("explain() of " + length, new int[length], house -> house.explain(), NONE);
        }
        int[][] rows = {{100, 0, 0, 0}, {9, 0, 0, 127}, {9, 9, 9, -128}, {5, 9, -3, 0}};
        for (int[] row : rows) {
            refusesTape("explain() in vain", row, house -> house.explain(), -2);
        }
    }

    private static void refusedWalks() {
        Check.sentence("NONE: no such HOURS (a ahead of b or the same), or feet.");
        int[][] refused = {{1, 0, 2, 4}, {-1, 0, 2, 4}, {0, 2, 2, 4}, {2, 2, 2, 4}, {0, 1, -1, 4}, {0, 1, 48, 4}, {0, 1, 2, 1},
            {0, 0, 2, 0}, {0, 0, 2, -1}, {LEAST, MOST, 2, 4}, {0, 0, MOST, 4}};
        for (int[] a : refused) {
            refuses("walk(" + a[0] + ", " + a[1] + ", " + a[2] + ", " + a[3] + ")", house -> house.walk(a[0], a[1], a[2], a[3]), NONE);
        }
    }

    private static void refusedLined() {
        Check.sentence("NONE: not as told, or a gap not 0 to 255.");
        int[] five = {1, 2, 3, 4, 5};
        int[][] refused = {{-1, 5}, {6, 5}, {LEAST, 5}, {MOST, 5}, {2, -1}, {2, 256}, {2, LEAST}, {2, MOST}};
        for (int[] a : refused) {
            refusesTape("lined(" + a[0] + ", " + a[1] + ")", five, house -> house.lined(a[0], a[1]), NONE);
        }
        refusesTape("lined(0, 5) of 49", new int[49], house -> house.lined(0, 5), NONE);
        refusesTape("lined(49, 5) of 49", new int[49], house -> house.lined(49, 5), NONE);
        refusesTape("lined(48, 5) of 97", new int[97], house -> house.lined(48, 5), NONE);
        refusesTape("lined(48, 5) of 440", new int[440], house -> house.lined(48, 5), NONE);
    }

    private static void refusedGauges() {
        Check.sentence("NONE: not as told, or a stretch that is none of FEET.");
        int[][] refused = {{}, {1}, {1, 2, 3}, {2, 1}, {0, 4}, {4, 4}, {255, 3}, {0, 1, 3, 4}, new int[82], new int[440]};
        for (int[] stretches : refused) {
            refusesTape("gauges() of " + stretches.length, stretches, house -> house.gauges(), NONE);
        }
    }

    private static void throwing() {
        Check.sentence("A call that throws changes nothing.");
        refuses("felt(4, 0, 4)", house -> house.felt(4, 0, 4), THROWN);
        refuses("felt(-1, 0, 4)", house -> house.felt(-1, 0, 4), THROWN);
        refuses("felt(0, 2, 4)", house -> house.felt(0, 2, 4), THROWN);
        refuses("felt(0, 1, 1)", house -> house.felt(0, 1, 1), THROWN);
        refuses("felt(0, 0, 0)", house -> house.felt(0, 0, 0), THROWN);
        refuses("read(4, 0, 4, 0)", house -> house.read(4, 0, 4, 0), THROWN);
        refuses("read(0, -1, 4, 0)", house -> house.read(0, -1, 4, 0), THROWN);
        refuses("read(0, 0, -1, 1)", house -> house.read(0, 0, -1, 1), THROWN);
        refuses("read(0, 1, 4, 2)", house -> house.read(0, 1, 4, 2), THROWN);
        refuses("read(0, 1, 4, -1)", house -> house.read(0, 1, 4, -1), THROWN);
        refuses("mayFeel(4, 0)", house -> house.mayFeel(4, 0), THROWN);
        refuses("mayFeel(-1, 1)", house -> house.mayFeel(-1, 1), THROWN);
        refuses("mayFeel(0, 2)", house -> house.mayFeel(0, 2), THROWN);
        refuses("falseShare(0, 0, 0)", house -> house.falseShare(0, 0, 0), THROWN);
        refuses("falseShare(13, 0, 1)", house -> house.falseShare(13, 0, 1), THROWN);
        refuses("falseShare(1, 0, 2)", house -> house.falseShare(1, 0, 2), THROWN);
        refuses("felt without HOURS", false, house -> { }, house -> house.felt(0, 0, 0), THROWN, false);
        refuses("read without HOURS", false, house -> { }, house -> house.read(0, 0, 0, 0), THROWN, false);
    }

    /** Calls that only ask, refused or not. */
    private static void onlyAsking() {
        Check.sentence("Nothing is promised beyond the answers and state changes described above");
        refuses("foot(4, 0)", house -> house.foot(4, 0), NONE);
        refuses("foot(0, 2)", house -> house.foot(0, 2), NONE);
        refuses("foot(3, 0)", house -> house.foot(3, 0), 1);
        refuses("fault()", house -> house.fault(), 2);
        refuses("slips(2, 4)", house -> house.slips(2, 4), NONE);
        refuses("slips(1, 1)", house -> house.slips(1, 1), NONE);
        refuses("alarm(2, 0, 4)", house -> house.alarm(2, 0, 4), NONE);
        refuses("alarm(0, 2, 4)", house -> house.alarm(0, 2, 4), NONE);
        refuses("alarm(0, 0, 4)", house -> house.alarm(0, 0, 4), 1);
        refuses("alarmed(2, 4)", house -> house.alarmed(2, 4), NONE);
        refuses("alarmed(0, 4)", house -> house.alarmed(0, 4), 0);
        refuses("event(2, 0)", house -> house.event(2, 0), NONE);
        refuses("event(0, 3)", house -> house.event(0, 3), NONE);
        refuses("walked(2)", house -> house.walked(2), NONE);
        refuses("paired(3)", house -> house.paired(3), NONE);
        refuses("gauge(2)", house -> house.gauge(2), NONE);
        refuses("count(6)", house -> house.count(6), NONE);
        refuses("falseShare(12, 3, 1)", house -> house.falseShare(12, 3, 1) > 0 ? 1 : 0, 1);
    }
}
