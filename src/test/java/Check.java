import java.util.NoSuchElementException;

/** What the tests share: comparing answers, feeding tapes, ending with 1 if an answer was wrong. */
final class Check {
    interface Call {
        long answer();
    }

    private static int wrong = 0;
    private static int asked = 0;
    private static String about = "";

    private Check() {
    }

    /** The document's words that the answers from here on are about: a wrong one tells them. */
    static void sentence(String words) {
        about = "\"" + words + "\": ";
    }

    static void same(String what, long got, long due) {
        asked++;
        if (got != due) {
            wrong++;
            if (wrong <= 50) {
                System.out.println(about + what + " answered " + got + ", due is " + due);
            }
        }
    }

    static void same(String what, boolean got, boolean due) {
        same(what, got ? 1 : 0, due ? 1 : 0);
    }

    /** 1 if the call throws NoSuchElementException, and no other exception at all. */
    static void throwsNoSuch(String what, Call call) {
        int thrown = 0;
        try {
            call.answer();
        } catch (NoSuchElementException e) {
            thrown = 1;
        }
        same(what + " throws", thrown, 1);
    }

    static void finish() {
        System.out.println(asked + " answers looked at, " + wrong + " wrong");
        if (wrong != 0 || asked == 0) {
            System.exit(1);
        }
    }

    /** Makes the tape of the house these bytes alone; at most 440. */
    static void tape(ThreadHouse house, byte[] bytes) {
        house.end(0);
        append(house, 0, bytes);
    }

    /** Puts bytes behind a tape that has so many. */
    private static void append(ThreadHouse house, int has, byte[] bytes) {
        for (int from = 0; from < bytes.length; from += 20) {
            int[] numbers = new int[5];
            for (int i = 0; i < 20; i++) {
                int b = from + i < bytes.length ? bytes[from + i] & 255 : 0;
                numbers[i / 4] |= b << (24 - 8 * (i % 4));
            }
            house.feed(numbers[0], numbers[1], numbers[2], numbers[3], numbers[4]);
        }
        house.end(has + bytes.length);
    }

    /** Looks whether the tape has these bytes alone, 48 at most; it is used up. */
    static void tapeHas(String what, ThreadHouse house, int... numbers) {
        same(what + ", bytes", house.count(5), numbers.length);
        append(house, numbers.length, bytes(numbers));
        // By so dear a gap only like rows of like length line up for nothing.
        same(what + ", lined up with what is due", house.lined(numbers.length, 255), 0);
    }

    static void tape(ThreadHouse house, int... numbers) {
        tape(house, bytes(numbers));
    }

    private static byte[] bytes(int... numbers) {
        byte[] bytes = new byte[numbers.length];
        for (int i = 0; i < numbers.length; i++) {
            bytes[i] = (byte) numbers[i];
        }
        return bytes;
    }

    static int text(ThreadHouse house, String text) {
        byte[] bytes = new byte[text.length()];
        for (int i = 0; i < bytes.length; i++) {
            bytes[i] = (byte) text.charAt(i);
        }
        tape(house, bytes);
        return house.text();
    }

    /** A FAULT of that kind at that place, told to a new house. */
    static void textFails(String text, int place, int kind) {
        ThreadHouse house = new ThreadHouse();
        same("text() of " + text, text(house, text), -1 - place);
        same("fault() of " + text, house.fault(), kind);
    }

    static void textHolds(String text, int lines) {
        ThreadHouse house = new ThreadHouse();
        same("text() of " + text, text(house, text), lines);
        same("fault() of " + text, house.fault(), 0);
    }

    static ThreadHouse house(String text) {
        ThreadHouse house = new ThreadHouse();
        if (text(house, text) < 0) {
            throw new IllegalStateException("the test's own text is wrong: " + text);
        }
        return house;
    }

    static long tellings(ThreadHouse house, int... row) {
        int[] bytes = new int[2 * row.length];
        for (int i = 0; i < row.length; i++) {
            bytes[2 * i] = row[i] >> 8;
            bytes[2 * i + 1] = row[i];
        }
        tape(house, bytes);
        return house.tellings();
    }

    static int explain(ThreadHouse house, int... row) {
        tape(house, row);
        return house.explain();
    }

    static boolean shape(ThreadHouse house, int k, int... numbers) {
        tape(house, numbers);
        return house.shape(k);
    }

    static int hour(ThreadHouse house, int... row) {
        tape(house, row);
        return house.hour();
    }

    static boolean mend(ThreadHouse house, int h, int... row) {
        tape(house, row);
        return house.mend(h);
    }

    static int lined(ThreadHouse house, int n, int gap, int... rows) {
        tape(house, rows);
        return house.lined(n, gap);
    }

    static int gauges(ThreadHouse house, int... stretches) {
        tape(house, stretches);
        return house.gauges();
    }
}
