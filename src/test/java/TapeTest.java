/** Promises 1 to 4 and 27: a new object, the tape, the days, the counts. */
public final class TapeTest {
    public static void main(String[] args) {
        newObject();
        feeding();
        ending();
        days();
        highestFirst();
        Check.finish();
    }

    private static void newObject() {
        ThreadHouse house = new ThreadHouse();
        int[] due = {0, 24, 0, 0, 0, 0};
        for (int what = 0; what < due.length; what++) {
            Check.same("new count(" + what + ")", house.count(what), due[what]);
        }
        Check.same("count(-1)", house.count(-1), -1);
        Check.same("count(6)", house.count(6), -1);
        Check.same("count(MAX)", house.count(Integer.MAX_VALUE), -1);
        Check.same("fault ahead of any", house.fault(), 0);
        for (int i = 0; i < 24; i++) {
            Check.same("not fixed", house.foot(i, 0), 0);
            Check.same("hold", house.foot(i, 1), 10);
        }
        Check.same("only quiet rows are explained", Check.explain(house, new int[24]), 0);
        int[] row = new int[24];
        row[3] = 1;
        Check.same("no SHAPES", Check.explain(house, row), -2);
    }

    private static void feeding() {
        ThreadHouse house = new ThreadHouse();
        for (int n = 1; n <= 22; n++) {
            Check.same("feed " + n, house.feed(1, 2, 3, 4, 5), 20 * n);
        }
        Check.same("a feed too many", house.feed(1, 2, 3, 4, 5), -1);
        Check.same("none came", house.count(5), 440);
        Check.same("end", house.end(421), true);
        Check.same("still no room", house.feed(0, 0, 0, 0, 0), -1);
        Check.same("none came", house.count(5), 421);
        Check.same("end", house.end(420), true);
        Check.same("room again", house.feed(0, 0, 0, 0, 0), 440);
    }

    private static void ending() {
        ThreadHouse house = new ThreadHouse();
        Check.same("end(0)", house.end(0), true);
        Check.same("end(1)", house.end(1), false);
        house.feed(0, 0, 0, 0, 0);
        Check.same("end(-1)", house.end(-1), false);
        Check.same("end(MIN)", house.end(Integer.MIN_VALUE), false);
        Check.same("end(21)", house.end(21), false);
        Check.same("stays", house.count(5), 20);
        Check.same("end(20)", house.end(20), true);
        Check.same("end(7)", house.end(7), true);
        Check.same("has 7", house.count(5), 7);
        Check.same("end(8)", house.end(8), false);
        Check.same("fed behind", house.feed(0, 0, 0, 0, 0), 27);
    }

    private static void days() {
        ThreadHouse house = new ThreadHouse();
        Check.same("next(0)", house.next(0), 0);
        Check.same("next(-1)", house.next(-1), -1);
        Check.same("next(1000)", house.next(1000), -1);
        Check.same("next(MAX)", house.next(Integer.MAX_VALUE), -1);
        Check.same("next(5)", house.next(5), 5);
        Check.same("next(995)", house.next(995), -1);
        Check.same("stays", house.count(0), 5);
        Check.same("next(994)", house.next(994), 999);
        Check.same("next(1)", house.next(1), -1);
        Check.same("next(MAX)", house.next(Integer.MAX_VALUE), -1);
        Check.same("next(0)", house.next(0), 999);
        Check.same("new next(999)", new ThreadHouse().next(999), 999);
    }

    private static void highestFirst() {
        ThreadHouse house = new ThreadHouse();
        house.feed(0x01020304, 0x05060708, 0x090a0b0c, 0x0d0e0f10, 0xff121314);
        // Lined up with a free gap only like numbers pair: the first row is 1 2 3 .. 16 255 18 ..
        Check.same("tape", house.lined(20, 0), 0);
        house.feed(0x01020304, 0x05060708, 0x090a0b0c, 0x0d0e0f10, 0xff121314);
        house.feed(0x01ff1400, 0, 0, 0, 0);
        house.end(23);
        Check.same("tape", house.lined(20, 100), 1700);
        Check.same("first byte", house.paired(0), 0);
        Check.same("byte 16", house.paired(16), 1);
        Check.same("last byte", house.paired(19), 2);
    }
}
