/** The edges of promises 1 to 4 and 27, sentence by sentence: the tape, the days, the counts. */
public final class EdgeTapeTest {
    private static final int NONE = -1;
    private static final int LEAST = Integer.MIN_VALUE;
    private static final int MOST = Integer.MAX_VALUE;

    public static void main(String[] args) {
        newObject();
        newObjectsShareNothing();
        highestFirst();
        fullTape();
        noneCome();
        firstBytesAlone();
        notSoMany();
        daysOn();
        lastDay();
        counts();
        fullCounts();
        otherCounts();
        usedUp();
        manyCalls();
        Check.finish();
    }

    private static void newObject() {
        Check.sentence("The empty TEXT, no HOURS, SHAPES; TODAY 0; an empty tape.");
        isNew(new ThreadHouse());
    }

    private static void isNew(ThreadHouse house) {
        int[] due = {0, 24, 0, 0, 0, 0};
        for (int what = 0; what < due.length; what++) {
            Check.same("count(" + what + ")", house.count(what), due[what]);
        }
        Check.same("fault()", house.fault(), 0);
        Check.same("fixed", house.foot(0, 0) + house.foot(23, 0), 0);
        Check.same("the HOLD of the first foot", house.foot(0, 1), 10);
        Check.same("the HOLD of the last foot", house.foot(23, 1), 10);
        Check.same("no foot 24", house.foot(24, 1), NONE);
        Check.same("noise 0", house.falseShare(1, -1, 1), 1);
        Check.same("no HOUR", house.slips(0, 999), NONE);
        Check.same("no ALARM", house.alarmed(0, 999), NONE);
        Check.same("an empty tape", house.end(1), false);
        for (int number = -128; number <= 127; number += 17) {
            int[] row = new int[24];
            row[11] = number;
            Check.same("no SHAPES for " + number, Check.explain(house, row), -2);
        }
        int[] row = new int[48];
        row[0] = 7;
        row[24] = 5;
        Check.same("the first HOUR", Check.hour(house, row), 0);
        Check.same("pull 1, heat 1", house.read(0, 0, 0, 0), 2 * (7 + 5));
    }

    private static void newObjectsShareNothing() {
        ThreadHouse used = Check.house("feet 4;noise 2;pull 9;heat 9;fixed 0 to 3;alarm sum>0 for 1;");
        Check.shape(used, 0, 1);
        Check.explain(used, 1, 1, 1, 1);
        Check.hour(used, 1, 1, 1, 1, 1, 1, 1, 1);
        Check.mend(used, 0, 2, 2, 2, 2, 2, 2, 2, 2);
        used.walk(0, 0, 0, 0);
        Check.gauges(used, 0, 3);
        Check.lined(used, 1, 0, 1, 1);
        Check.tellings(used, 0, 0, 0, 0);
        used.next(9);
        used.feed(1, 2, 3, 4, 5);
        ThreadHouse house = new ThreadHouse();
        Check.same("no EVENT", house.event(0, 0), NONE);
        Check.same("no walk", house.walked(0), NONE);
        Check.same("no pair", house.paired(0), NONE);
        Check.same("no gauge", house.gauge(0), NONE);
        Check.throwsNoSuch("no TELLINGS", () -> house.mayFeel(0, 0));
        isNew(house);
    }

    private static void highestFirst() {
        Check.sentence("Twenty bytes come behind the tape, of each number the highest first");
        ThreadHouse house = new ThreadHouse();
        Check.same("feed", house.feed(LEAST, MOST, -1, 0x01020304, 0xf0e0d0c0), 20);
        Check.tapeHas("one feed", house, 0x80, 0, 0, 0, 0x7f, 255, 255, 255, 255, 255, 255, 255,
                1, 2, 3, 4, 0xf0, 0xe0, 0xd0, 0xc0);
        Check.same("feed", house.feed(0x05060708, 0, 0, 0, 0x090a0b0c), 20);
        Check.same("feed", house.feed(0x0d0e0f10, 0, 0, 0, 0x11121314), 40);
        Check.tapeHas("two feeds", house, 5, 6, 7, 8, 0, 0, 0, 0, 0, 0, 0, 0, 0, 0, 0, 0, 9, 10, 11, 12,
                13, 14, 15, 16, 0, 0, 0, 0, 0, 0, 0, 0, 0, 0, 0, 0, 17, 18, 19, 20);
    }

    private static void fullTape() {
        Check.sentence("how many it has; NONE, and none come, if it would have more than 440.");
        ThreadHouse house = new ThreadHouse();
        for (int n = 1; n <= 22; n++) {
            Check.same("feed " + n, house.feed(n, n, n, n, n), 20 * n);
        }
        Check.same("with 440", house.feed(0, 0, 0, 0, 0), NONE);
        Check.same("end(421)", house.end(421), true);
        Check.same("with 421", house.feed(0, 0, 0, 0, 0), NONE);
        Check.same("still", house.count(5), 421);
        Check.same("end(420)", house.end(420), true);
        Check.same("with 420", house.feed(0, 0, 0, 0, 0), 440);
        Check.same("end(419)", house.end(419), true);
        Check.same("with 419", house.feed(0, 0, 0, 0, 0), 439);
        Check.same("with 439", house.feed(0, 0, 0, 0, 0), NONE);
        Check.same("still", house.count(5), 439);
    }

    private static void noneCome() {
        Check.sentence("NONE, and none come, if it would have more than 440.");
        ThreadHouse house = new ThreadHouse();
        for (int n = 0; n < 22; n++) {
            house.feed(0x01010101 * (n + 1), 0, 0, 0, 0x02020202 * (n + 1));
        }
        Check.same("a feed too many", house.feed(-1, -1, -1, -1, -1), NONE);
        Check.same("440 still", house.count(5), 440);
        house.end(24);
        Check.tapeHas("its first bytes", house, 1, 1, 1, 1, 0, 0, 0, 0, 0, 0, 0, 0, 0, 0, 0, 0, 2, 2, 2, 2, 2, 2, 2, 2);
        // A TEXT of 400 bytes shows its last ones: the NUMBER and the ; stand there.
        Check.tape(house, (" ".repeat(393) + "heat 7;" + " ".repeat(40)).getBytes(java.nio.charset.StandardCharsets.ISO_8859_1));
        Check.same("a feed too many", house.feed(-1, -1, -1, -1, -1), NONE);
        house.end(400);
        Check.same("the text", house.text(), 1);
    }

    private static void firstBytesAlone() {
        Check.sentence("The tape has its first n bytes alone: true");
        ThreadHouse house = new ThreadHouse();
        house.feed(0x01020304, 0x05060708, 0x090a0b0c, 0x0d0e0f10, 0x11121314);
        Check.same("end(20)", house.end(20), true);
        Check.same("end(3)", house.end(3), true);
        Check.same("feed", house.feed(0x15161718, 0, 0, 0, 0), 23);
        Check.same("end(8)", house.end(8), true);
        Check.tapeHas("cut and fed", house, 1, 2, 3, 21, 22, 23, 24, 0);
        house.feed(1, 1, 1, 1, 1);
        Check.same("end(0)", house.end(0), true);
        Check.same("none", house.count(5), 0);
        Check.same("feed", house.feed(0x01020304, 0, 0, 0, 0), 20);
        Check.same("end(1)", house.end(1), true);
        Check.tapeHas("the first alone", house, 1);
    }

    private static void notSoMany() {
        Check.sentence("false, if it has not so many, or n is below 0.");
        ThreadHouse house = new ThreadHouse();
        int[] never = {-1, -2, -440, LEAST, 441, MOST};
        Check.same("empty: end(0)", house.end(0), true);
        Check.same("empty: end(1)", house.end(1), false);
        for (int fed = 20; fed <= 440; fed += 20) {
            house.feed(0, 0, 0, 0, 0);
            if (fed == 20 || fed == 220 || fed == 440) {
                for (int n : never) {
                    Check.same(fed + " bytes: end(" + n + ")", house.end(n), false);
                }
                Check.same(fed + " bytes: one more", house.end(fed + 1), false);
                Check.same(fed + " bytes stay", house.count(5), fed);
                Check.same(fed + " bytes: all", house.end(fed), true);
                Check.same(fed + " bytes stay", house.count(5), fed);
            }
        }
        Check.same("end(439)", house.end(439), true);
        Check.same("end(440)", house.end(440), false);
        Check.same("bytes", house.count(5), 439);
    }

    private static void daysOn() {
        Check.sentence("TODAY goes on by n days (0 to 999): TODAY; NONE: another n");
        int[] taken = {0, 1, 998, 999};
        for (int n : taken) {
            ThreadHouse house = new ThreadHouse();
            Check.same("next(" + n + ")", house.next(n), n);
            Check.same("TODAY", house.count(0), n);
        }
        int[] refused = {-1, -999, -1000, LEAST, 1000, 1001, MOST};
        ThreadHouse house = new ThreadHouse();
        for (int n : refused) {
            Check.same("next(" + n + ")", house.next(n), NONE);
            Check.same("TODAY", house.count(0), 0);
        }
        Check.same("next(5)", house.next(5), 5);
        for (int n : refused) {
            Check.same("on day 5: next(" + n + ")", house.next(n), NONE);
            Check.same("TODAY", house.count(0), 5);
        }
    }

    private static void lastDay() {
        Check.sentence("TODAY is day 0 at first, 999 the last one.");
        Check.same("at first", new ThreadHouse().count(0), 0);
        Check.sentence("or it would be behind 999.");
        ThreadHouse house = new ThreadHouse();
        Check.same("next(1)", house.next(1), 1);
        Check.same("next(999)", house.next(999), NONE);
        Check.same("TODAY", house.count(0), 1);
        Check.same("next(997)", house.next(997), 998);
        Check.same("next(2)", house.next(2), NONE);
        Check.same("TODAY", house.count(0), 998);
        Check.same("next(1)", house.next(1), 999);
        Check.same("next(1)", house.next(1), NONE);
        Check.same("next(MOST)", house.next(MOST), NONE);
        Check.same("next(-1)", house.next(-1), NONE);
        Check.same("next(0)", house.next(0), 999);
        Check.same("TODAY", house.count(0), 999);
    }

    private static void counts() {
        Check.sentence("0 TODAY, 1 FEET, 2 HOURS, 3 ALARMS, 4 MENDED rows, 5 bytes of the tape.");
        ThreadHouse house = Check.house("feet 5;alarm sum>0 for 1;alarm sum>0 for 1;alarm sum>0 for 1;");
        house.next(7);
        Check.hour(house, new int[10]);
        Check.hour(house, new int[10]);
        Check.mend(house, 1, new int[10]);
        house.feed(0, 0, 0, 0, 0);
        house.end(13);
        int[] due = {7, 5, 2, 3, 1, 13};
        for (int what = 0; what < due.length; what++) {
            Check.same("count(" + what + ")", house.count(what), due[what]);
        }
    }

    private static void fullCounts() {
        ThreadHouse house = Check.house("feet 4;" + "alarm sum>0 for 1;".repeat(6));
        house.next(999);
        for (int h = 0; h < 40; h++) {
            Check.hour(house, new int[8]);
        }
        for (int m = 0; m < 60; m++) {
            house.feed(0, 0, 0, 0, 0);
            house.end(8);
            house.mend(m % 40);
        }
        for (int n = 0; n < 23; n++) {
            house.feed(0, 0, 0, 0, 0);
        }
        int[] due = {999, 4, 40, 6, 60, 440};
        for (int what = 0; what < due.length; what++) {
            Check.same("all full: count(" + what + ")", house.count(what), due[what]);
        }
        Check.same("FEET at the most", Check.house("feet 48;").count(1), 48);
    }

    private static void otherCounts() {
        Check.sentence("NONE for another what.");
        int[] others = {-1, -2, LEAST, 6, 7, MOST};
        for (int what : others) {
            Check.same("count(" + what + ")", new ThreadHouse().count(what), NONE);
        }
    }

    private static void usedUp() {
        Check.sentence("The tape (empty then, here and below) is the TEXT now");
        int[] lengths = {0, 1, 4, 8, 20, 400, 440};
        for (int hours = 0; hours <= 1; hours++) {
            for (int length : lengths) {
                for (int call = 0; call < 16; call++) {
                    ThreadHouse house = Check.house("feet 4;");
                    for (int h = 0; h < hours; h++) {
                        Check.hour(house, new int[8]);
                    }
                    int[] bytes = new int[length];
                    java.util.Arrays.fill(bytes, call < 8 ? 0 : ' ');
                    Check.tape(house, bytes);
                    use(house, call % 8);
                    Check.same("the tape behind call " + call % 8 + " with " + length, house.count(5), 0);
                    Check.same("fed anew", house.feed(0, 0, 0, 0, 0), 20);
                }
            }
        }
    }

    private static void use(ThreadHouse house, int call) {
        switch (call) {
            case 0: house.text(); break;
            case 1: house.hour(); break;
            case 2: house.mend(0); break;
            case 3: house.tellings(); break;
            case 4: house.shape(0); break;
            case 5: house.explain(); break;
            case 6: house.lined(1, 5); break;
            default: house.gauges(); break;
        }
    }

    private static void manyCalls() {
        Check.sentence("An object is used for at most 512 calls after it has been made");
        ThreadHouse house = new ThreadHouse();
        for (int call = 0; call < 127; call++) {
            Check.same("feed", house.feed(0x66656574, 0x20343b00, 0, 0, 0), 20);
            Check.same("end", house.end(call % 2 == 0 ? 7 : 6), true);
            Check.same("text", house.text(), call % 2 == 0 ? 0 : -7);
            Check.same("fault", house.fault(), call % 2 == 0 ? 0 : 1);
        }
        Check.same("509", house.feed(0x01010101, 0x01010101, 0, 0, 0), 20);
        Check.same("510", house.end(8), true);
        Check.same("511", house.hour(), 0);
        Check.same("512", house.read(1, 0, 0, 0), 8);
    }
}
