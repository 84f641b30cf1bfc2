import java.util.NoSuchElementException;
import java.util.Random;

/**
 * Runs of all calls, one behind the other in any order, answer by answer against a second model of
 * the whole document (SecondHouse): what one call leaves for a later one, too.
 */
public final class WholeRunTest {
    private static final long THROWN = Long.MIN_VALUE;
    private static final int MOST_CALLS = 512;
    /** The dearest thing done at once: a full tape of 22 feeds, an end, the call and its follow-ups. */
    private static final int DEAREST = 120;

    private final Random random;
    private final ThreadHouse house = new ThreadHouse();
    private final SecondHouse second = new SecondHouse();
    private final int[][] shapes = new int[6][];
    private final String run;
    private int calls = 0;

    private WholeRunTest(int seed) {
        random = new Random(seed);
        run = "run " + seed + ", ";
    }

    public static void main(String[] args) {
        int runs = args.length > 0 ? Integer.parseInt(args[0]) : 400;
        for (int seed = 0; seed < runs; seed++) {
            new WholeRunTest(seed).go();
        }
        Check.finish();
    }

    private void go() {
        for (int texts = random.nextInt(4); texts > 0; texts--) {
            tellText();
        }
        // Some runs are of HOURS alone, some of SHAPES and EVENTS, most of all.
        int[][] sorts = {{0, 5}, {0, 5}, {6, 9}, {0, 13}, {0, 13}};
        int[] sort = sorts[random.nextInt(sorts.length)];
        while (calls + DEAREST <= MOST_CALLS) {
            doOne(sort[0] + random.nextInt(sort[1] - sort[0]));
        }
        counts();
    }

    private void doOne(int what) {
        switch (what) {
            case 0: case 1: tellHour(); break;
            case 2: mendHour(); break;
            case 3: askHour(); break;
            case 4: goOn(); break;
            case 5: tellings(); break;
            case 6: shape(); break;
            case 7: case 8: explain(); break;
            case 9: lined(); break;
            case 10: gauges(); break;
            case 11: anyTape(); break;
            default: rest(); break;
        }
    }

    private interface Both {
        long answer();
    }

    private static long answerOf(Both call) {
        try {
            return call.answer();
        } catch (NoSuchElementException e) {
            return THROWN;
        }
    }

    private long ask(String what, Both first, Both due) {
        calls++;
        long answer = answerOf(first);
        Check.same(run + "call " + calls + ", " + what, answer, answerOf(due));
        return answer;
    }

    private long number(boolean is) {
        return is ? 1 : 0;
    }

    private int feet() {
        return second.count(1);
    }

    private void fill(int... bytes) {
        if (second.count(5) > 0 && random.nextInt(8) != 0) {
            ask("end(0)", () -> number(house.end(0)), () -> number(second.end(0)));
        }
        int has = second.count(5);
        for (int from = 0; from < bytes.length; from += 20) {
            int[] n = new int[5];
            for (int i = 0; i < 20; i++) {
                int b = from + i < bytes.length ? bytes[from + i] & 255 : random.nextInt(256);
                n[i / 4] |= b << (24 - 8 * (i % 4));
            }
            ask("feed", () -> house.feed(n[0], n[1], n[2], n[3], n[4]), () -> second.feed(n[0], n[1], n[2], n[3], n[4]));
        }
        int length = has + bytes.length + (random.nextInt(25) == 0 ? random.nextInt(3) - 1 : 0);
        ask("end", () -> number(house.end(length)), () -> number(second.end(length)));
    }

    private void tellText() {
        String text = new TextMaker(random).make();
        int[] bytes = text.chars().toArray();
        fill(bytes);
        ask("text() of " + text, house::text, second::text);
        ask("fault()", house::fault, second::fault);
        for (int ask = 0; ask < 6; ask++) {
            int i = random.nextInt(feet() + 2) - 1;
            int what = random.nextInt(4) - 1;
            ask("foot(" + i + ", " + what + ")", () -> house.foot(i, what), () -> second.foot(i, what));
        }
        counts();
    }

    private void counts() {
        for (int what = -1; what <= 6; what++) {
            int asked = what;
            ask("count(" + what + ")", () -> house.count(asked), () -> second.count(asked));
        }
    }

    private int[] row(int length, int most) {
        int[] row = new int[length];
        int at = 0;
        for (int i = 0; i < length; i++) {
            // Bodies stretch in patches: a foot is often like the one ahead of it.
            at = random.nextInt(3) == 0 ? random.nextInt(2 * most + 1) - most : at;
            row[i] = at;
        }
        return row;
    }

    private int[] hourRow() {
        int[] row = row(2 * feet(), random.nextInt(3) == 0 ? 50 : 20);
        int wild = random.nextInt(12);
        if (wild < 4) {
            row[random.nextInt(row.length)] = new int[] {99, -99, 100, -50}[wild];
        }
        return row;
    }

    private void tellHour() {
        fill(hourRow());
        ask("hour()", house::hour, second::hour);
        askHour();
    }

    private int anHour() {
        return mostlyBelow(second.count(2));
    }

    /** Now and then one that is just not there. */
    private int mostlyBelow(int bound) {
        return bound == 0 || random.nextInt(8) == 0 ? random.nextInt(bound + 2) - 1 : random.nextInt(bound);
    }

    private int aDay() {
        int[] days = {second.count(0), second.count(0) - 1, random.nextInt(second.count(0) + 1), 999, -1, 1000,
            Integer.MAX_VALUE, Integer.MIN_VALUE};
        return days[random.nextInt(6) == 0 ? random.nextInt(days.length) : random.nextInt(4)];
    }

    private void mendHour() {
        int h = random.nextInt(6) == 0 ? anHour() : Math.max(0, second.count(2) - 1 - random.nextInt(3));
        fill(hourRow());
        ask("mend(" + h + ")", () -> number(house.mend(h)), () -> number(second.mend(h)));
        askHour();
    }

    private void askHour() {
        int h = anHour();
        int t = aDay();
        int i = mostlyBelow(feet());
        int box = random.nextInt(10) == 0 ? 2 : random.nextInt(2);
        int k = mostlyBelow(second.count(3));
        String when = h + ", " + t + ")";
        ask("felt(" + i + ", " + when, () -> house.felt(i, h, t), () -> second.felt(i, h, t));
        ask("slips(" + when, () -> house.slips(h, t), () -> second.slips(h, t));
        ask("read(" + i + ", " + when + " by " + box, () -> house.read(i, h, t, box), () -> second.read(i, h, t, box));
        ask("alarm(" + k + ", " + when, () -> house.alarm(k, h, t), () -> second.alarm(k, h, t));
        ask("alarmed(" + k + ", " + t, () -> house.alarmed(k, t), () -> second.alarmed(k, t));
        if (random.nextInt(3) == 0) {
            walk(t);
        }
    }

    private void walk(int t) {
        int a = anHour();
        int b = random.nextInt(6) == 0 ? anHour() : Math.min(second.count(2) - 1, a + random.nextInt(6));
        int far = random.nextInt(8) == 0 ? random.nextInt(51) - 1 : random.nextInt(4);
        ask("walk(" + a + ", " + b + ", " + far + ", " + t, () -> house.walk(a, b, far, t), () -> second.walk(a, b, far, t));
        for (int k = -1; k < 7; k++) {
            int asked = k;
            ask("walked(" + k, () -> house.walked(asked), () -> second.walked(asked));
        }
    }

    private void goOn() {
        int n = random.nextInt(12) == 0 ? random.nextInt(1100) - 50 : random.nextInt(3);
        ask("next(" + n, () -> house.next(n), () -> second.next(n));
    }

    private void tellings() {
        int[] feels = row(feet(), 12);
        int[] bytes = new int[2 * feels.length];
        int off = random.nextInt(3);
        for (int i = 0; i < feels.length; i++) {
            int smeared = 2 * feels[i] + (i > 0 ? feels[i - 1] : 0) + (i + 1 < feels.length ? feels[i + 1] : 0);
            smeared += random.nextInt(2 * off + 1) - off;
            bytes[2 * i] = smeared >> 8;
            bytes[2 * i + 1] = smeared;
        }
        fill(bytes);
        ask("tellings()", house::tellings, second::tellings);
        mayFeel();
    }

    private void mayFeel() {
        for (int ask = 0; ask < 8; ask++) {
            int i = random.nextInt(feet() + 2) - 1;
            int what = random.nextInt(9) == 0 ? random.nextInt(4) - 1 : ask % 2;
            ask("mayFeel(" + i + ", " + what, () -> house.mayFeel(i, what), () -> second.mayFeel(i, what));
        }
    }

    private void shape() {
        int k = random.nextInt(12) == 0 ? random.nextInt(8) - 1 : random.nextInt(6);
        int length = random.nextInt(12) == 0 ? random.nextInt(12) : 1 + random.nextInt(3);
        int[] numbers = new int[length];
        for (int j = 0; j < length; j++) {
            numbers[j] = random.nextInt(20) == 0 ? random.nextInt(256) : random.nextInt(9) - 3;
        }
        fill(numbers);
        if (ask("shape(" + k, () -> number(house.shape(k)), () -> number(second.shape(k))) == 1) {
            shapes[k] = numbers;
        }
    }

    private void explain() {
        int[] row = new int[feet()];
        int i = 0;
        while (i < row.length) {
            int[] numbers = shapes[random.nextInt(6)];
            int times = 1 + random.nextInt(random.nextInt(20) == 0 ? 6 : 3);
            if (numbers != null && i + numbers.length <= row.length && random.nextInt(2) == 0) {
                for (int number : numbers) {
                    row[i] = times * number;
                    i++;
                }
            } else {
                i++;
            }
        }
        int off = random.nextInt(10);
        for (int j = 0; j < row.length && off < 3; j++) {
            row[j] += random.nextInt(2 * off + 1) - off;
        }
        fill(row);
        ask("explain()", house::explain, second::explain);
        for (int ask = 0; ask < 9; ask++) {
            int k = random.nextInt(Math.max(1, feet() / 3)) - (ask == 0 ? 1 : 0);
            int what = random.nextInt(9) == 0 ? random.nextInt(5) - 1 : ask % 3;
            ask("event(" + k + ", " + what, () -> house.event(k, what), () -> second.event(k, what));
        }
    }

    private void lined() {
        int n = random.nextInt(12) == 0 ? random.nextInt(52) - 1 : random.nextInt(12);
        int m = random.nextInt(12) == 0 ? random.nextInt(52) : random.nextInt(12);
        int gap = random.nextInt(8) == 0 ? random.nextInt(259) - 1 : random.nextInt(6);
        int[] rows = new int[Math.max(0, n + m)];
        for (int i = 0; i < rows.length; i++) {
            rows[i] = random.nextInt(random.nextInt(9) == 0 ? 256 : 8);
        }
        fill(rows);
        ask("lined(" + n + ", " + gap, () -> house.lined(n, gap), () -> second.lined(n, gap));
        for (int ask = 0; ask < 12; ask++) {
            int k = ask - 1;
            ask("paired(" + k, () -> house.paired(k), () -> second.paired(k));
        }
    }

    private void gauges() {
        int[] stretches = new int[2 * (1 + random.nextInt(random.nextInt(8) == 0 ? 42 : 8))];
        for (int i = 0; i < stretches.length; i += 2) {
            stretches[i] = random.nextInt(feet());
            stretches[i + 1] = Math.min(feet() - 1, stretches[i] + random.nextInt(6));
        }
        if (random.nextInt(12) == 0) {
            stretches[random.nextInt(stretches.length)] = random.nextInt(256);
        }
        fill(stretches);
        ask("gauges()", house::gauges, second::gauges);
        for (int k = -1; k < 8; k++) {
            int asked = k;
            ask("gauge(" + k, () -> house.gauge(asked), () -> second.gauge(asked));
        }
    }

    /** A tape as it stands, used by any call that uses one. */
    private void anyTape() {
        int[] n = random.ints(5).toArray();
        ask("feed", () -> house.feed(n[0], n[1], n[2], n[3], n[4]), () -> second.feed(n[0], n[1], n[2], n[3], n[4]));
        int length = random.nextInt(22) - 1;
        ask("end(" + length, () -> number(house.end(length)), () -> number(second.end(length)));
        int k = random.nextInt(7);
        int gap = random.nextInt(300);
        switch (random.nextInt(8)) {
            case 0: ask("text()", house::text, second::text); break;
            case 1: ask("hour()", house::hour, second::hour); break;
            case 2: ask("mend(", () -> number(house.mend(k)), () -> number(second.mend(k))); break;
            case 3: ask("tellings()", house::tellings, second::tellings); break;
            case 4: ask("shape(", () -> number(house.shape(k)), () -> number(second.shape(k))); break;
            case 5: ask("explain()", house::explain, second::explain); break;
            case 6: ask("lined(", () -> house.lined(k, gap), () -> second.lined(k, gap)); break;
            default: ask("gauges()", house::gauges, second::gauges); break;
        }
        ask("count(5)", () -> house.count(5), () -> second.count(5));
        ask("fault()", house::fault, second::fault);
    }

    private void rest() {
        int k = random.nextInt(14);
        int above = random.nextInt(41) - 20;
        for (int what = -1; what <= 2; what++) {
            int asked = what;
            ask("falseShare(" + k + ", " + above + ", " + what,
                    () -> house.falseShare(k, above, asked), () -> second.falseShare(k, above, asked));
        }
        mayFeel();
        if (second.count(2) == 0 || random.nextInt(6) == 0) {
            tellText();
        }
        counts();
    }
}
