import java.math.BigInteger;
import java.util.ArrayList;
import java.util.Arrays;
import java.util.HashMap;
import java.util.List;
import java.util.Map;
import java.util.NoSuchElementException;
import java.util.TreeSet;

/**
 * The whole document a second time, for the tests: the same face, worked out in the plainest way
 * with the Java library, nothing kept but what was told and the latest answers.
 */
final class SecondHouse {
    private static final BigInteger MOST_TELLINGS = BigInteger.TEN.pow(15);

    private final List<Integer> tape = new ArrayList<>();
    private final Map<Integer, int[]> shapes = new HashMap<>();
    private int today = 0;
    private int feet = 24;
    private int pull = 1;
    private int heat = 1;
    private int noise = 0;
    private int hours = 0;
    private int mended = 0;
    private int fault = 0;
    private List<SecondAlarm> alarms = new ArrayList<>();
    private int[][] footTold = feetUntold(24);
    private PlainHouse plain = new PlainHouse(24);
    /** By HOUR and day: only to save time; emptied when a row comes. */
    private final Map<List<Integer>, int[]> feelings = new HashMap<>();
    private int[] least = new int[0];
    private int[] most = new int[0];
    private List<int[]> events = new ArrayList<>();
    private List<Integer> route = new ArrayList<>();
    private int[] pairs = new int[0];
    private List<Integer> gaugeFeet = new ArrayList<>();

    int feed(int a, int b, int c, int d, int e) {
        if (tape.size() > 420) {
            return -1;
        }
        for (int number : new int[] {a, b, c, d, e}) {
            tape.add(number >>> 24);
            tape.add(number >>> 16 & 255);
            tape.add(number >>> 8 & 255);
            tape.add(number & 255);
        }
        return tape.size();
    }

    boolean end(int n) {
        if (n < 0 || n > tape.size()) {
            return false;
        }
        tape.subList(n, tape.size()).clear();
        return true;
    }

    int next(int n) {
        if (n < 0 || n > 999 || today + n > 999) {
            return -1;
        }
        today += n;
        return today;
    }

    /** The tape's bytes, 0 to 255; it is empty then. */
    private int[] bytes() {
        int[] bytes = new int[tape.size()];
        for (int i = 0; i < bytes.length; i++) {
            bytes[i] = tape.get(i);
        }
        tape.clear();
        return bytes;
    }

    private int[] signedBytes() {
        int[] bytes = bytes();
        for (int i = 0; i < bytes.length; i++) {
            bytes[i] -= bytes[i] > 127 ? 256 : 0;
        }
        return bytes;
    }

    private static int[][] feetUntold(int feet) {
        int[][] told = new int[feet][];
        for (int i = 0; i < feet; i++) {
            told[i] = new int[] {0, 10};
        }
        return told;
    }

    int text() {
        StringBuilder text = new StringBuilder();
        for (int b : bytes()) {
            text.append((char) b);
        }
        if (hours > 0) {
            return -1000;
        }
        SecondReader reader = new SecondReader(text.toString());
        fault = reader.kind();
        if (fault == 0) {
            tell(text.toString());
        }
        return reader.answer();
    }

    /** A TEXT without a FAULT, line by line. */
    private void tell(String text) {
        feet = 24;
        pull = 1;
        heat = 1;
        noise = 0;
        alarms = new ArrayList<>();
        List<String> lines = new ArrayList<>(Arrays.asList(text.split(";")));
        if (lines.get(0).matches("[ \\n]*feet[ \\n]+[0-9]+[ \\n]*")) {
            feet = Integer.parseInt(lines.remove(0).replaceAll("[^0-9]", ""));
        }
        footTold = feetUntold(feet);
        plain = new PlainHouse(feet);
        for (String line : lines) {
            String[] words = line.trim().split("[ \\n]+");
            if (words[0].equals("fixed")) {
                tellFeet(0, 1, words[1], words[3]);
            } else if (words[0].equals("holds")) {
                tellFeet(1, Integer.parseInt(words[1]), words[3], words[5]);
            } else if (words[0].equals("pull")) {
                pull = Integer.parseInt(words[1]);
            } else if (words[0].equals("heat")) {
                heat = Integer.parseInt(words[1]);
            } else if (words[0].equals("noise")) {
                noise = Integer.parseInt(words[1]);
            } else if (!line.trim().isEmpty()) {
                alarms.add(new SecondAlarm(line));
            }
        }
    }

    private void tellFeet(int what, int number, String from, String to) {
        int first = Integer.parseInt(from);
        int last = Integer.parseInt(to);
        for (int i = first; i <= last; i++) {
            footTold[i][what] = number;
        }
        if (what == 0) {
            plain.fix(first, last);
        } else {
            plain.hold(number, first, last);
        }
    }

    int fault() {
        return fault;
    }

    private boolean isFoot(int i) {
        return i >= 0 && i < feet;
    }

    int foot(int i, int what) {
        return isFoot(i) && (what == 0 || what == 1) ? footTold[i][what] : -1;
    }

    private boolean isRow(int[] row) {
        boolean asTold = row.length == 2 * feet;
        for (int i = 0; i < row.length; i++) {
            asTold &= Math.abs(row[i]) <= (i < feet ? 99 : 50);
        }
        return asTold;
    }

    int hour() {
        int[] row = signedBytes();
        if (hours == 40 || !isRow(row)) {
            return -1;
        }
        plain.tell(hours, today, row);
        feelings.clear();
        return hours++;
    }

    boolean mend(int h) {
        int[] row = signedBytes();
        if (h < 0 || h >= hours || mended == 60 || !isRow(row)) {
            return false;
        }
        plain.tell(h, today, row);
        feelings.clear();
        mended++;
        return true;
    }

    private boolean isHour(int h, int t) {
        return h >= 0 && h < 40 && plain.row(h, t) != null;
    }

    /** What all feet feel, then the SLIPS. */
    private int[] feel(int h, int t) {
        return feelings.computeIfAbsent(List.of(h, t), key -> plain.feel(h, t));
    }

    private int[] change(int h, int t) {
        int[] change = Arrays.copyOf(feel(h, t), feet);
        for (int i = 0; i < feet; i++) {
            change[i] = Math.abs(change[i] - (h == 0 ? 0 : feel(h - 1, t)[i]));
        }
        return change;
    }

    int felt(int i, int h, int t) {
        if (!isFoot(i) || !isHour(h, t)) {
            throw new NoSuchElementException();
        }
        return feel(h, t)[i];
    }

    int slips(int h, int t) {
        return isHour(h, t) ? feel(h, t)[feet] : -1;
    }

    int read(int i, int h, int t, int box) {
        if (!isFoot(i) || !isHour(h, t) || (box != 0 && box != 1)) {
            throw new NoSuchElementException();
        }
        int sum = 0;
        for (int beside = -1; beside <= 1; beside++) {
            if (isFoot(i + beside)) {
                int pulled = box == 0 ? pull * feel(h, t)[i + beside] : 0;
                int heated = heat * plain.row(h, t)[feet + i + beside];
                sum += (beside == 0 ? 2 : 1) * (pulled + heated);
            }
        }
        return sum;
    }

    int alarm(int k, int h, int t) {
        if (k < 0 || k >= alarms.size() || !isHour(h, t)) {
            return -1;
        }
        SecondAlarm alarm = alarms.get(k);
        for (int ahead = 0; ahead < alarm.hours(); ahead++) {
            if (ahead > h || !alarm.holds(change(h - ahead, t), slips(h - ahead, t), h - ahead)) {
                return 0;
            }
        }
        return 1;
    }

    int alarmed(int k, int t) {
        for (int h = 0; h < hours; h++) {
            if (alarm(k, h, t) == 1) {
                return h;
            }
        }
        return -1;
    }

    long tellings() {
        int[] bytes = bytes();
        if (bytes.length != 2 * feet) {
            return -1;
        }
        int[] row = new int[feet];
        for (int i = 0; i < feet; i++) {
            row[i] = (short) (bytes[2 * i] * 256 + bytes[2 * i + 1]);
        }
        SecondTellings all = new SecondTellings(row, noise);
        if (all.number().signum() > 0) {
            least = all.bounds(0);
            most = all.bounds(1);
        }
        return all.number().min(MOST_TELLINGS).longValue();
    }

    int mayFeel(int i, int what) {
        if (i < 0 || i >= least.length || (what != 0 && what != 1)) {
            throw new NoSuchElementException();
        }
        return (what == 0 ? least : most)[i];
    }

    boolean shape(int k) {
        int[] numbers = signedBytes();
        boolean asTold = k >= 0 && k < 6 && numbers.length > 0 && numbers.length < 10 && numbers[0] != 0;
        for (int number : numbers) {
            asTold &= Math.abs(number) < 100;
        }
        if (asTold) {
            shapes.put(k, numbers);
        }
        return asTold;
    }

    int explain() {
        int[] row = signedBytes();
        if (row.length != feet) {
            return -1;
        }
        // For each foot what explains all from there on: null if nothing does.
        List<List<int[]>> best = new ArrayList<>();
        for (int i = 0; i < feet; i++) {
            best.add(null);
        }
        best.add(new ArrayList<>());
        for (int i = feet - 1; i >= 0; i--) {
            List<int[]> here = Math.abs(row[i]) <= noise ? best.get(i + 1) : null;
            for (int k = 0; k < 6; k++) {
                for (int times = 1; times <= 5; times++) {
                    here = fewer(here, eventAt(row, i, k, times, best));
                }
            }
            best.set(i, here);
        }
        if (best.get(0) == null) {
            return -2;
        }
        events = best.get(0);
        return events.size();
    }

    private static List<int[]> fewer(List<int[]> first, List<int[]> second) {
        return second != null && (first == null || second.size() < first.size()) ? second : first;
    }

    private List<int[]> eventAt(int[] row, int i, int k, int times, List<List<int[]>> best) {
        int[] numbers = shapes.get(k);
        if (numbers == null || i + numbers.length > feet || best.get(i + numbers.length) == null) {
            return null;
        }
        for (int j = 0; j < numbers.length; j++) {
            if (Math.abs(row[i + j] - times * numbers[j]) > noise) {
                return null;
            }
        }
        List<int[]> all = new ArrayList<>(best.get(i + numbers.length));
        all.add(0, new int[] {k, i, times});
        return all;
    }

    int event(int k, int what) {
        return k >= 0 && k < events.size() && what >= 0 && what <= 2 ? events.get(k)[what] : -1;
    }

    int walk(int a, int b, int far, int t) {
        if (!isHour(a, t) || !isHour(b, t) || a > b || far < 0 || far > 47) {
            return -1;
        }
        int[][] loud = new int[b - a + 1][];
        int[][] rest = new int[b - a + 2][feet];
        for (int h = b; h >= a; h--) {
            loud[h - a] = change(h, t);
            for (int i = 0; i < feet; i++) {
                rest[h - a][i] = loud[h - a][i] + greatest(rest[h - a + 1], i - far, i + far);
            }
        }
        int loudness = greatest(rest[0], 0, feet - 1);
        route = new ArrayList<>();
        int left = loudness;
        for (int h = 0; h < loud.length; h++) {
            int from = h == 0 ? 0 : Math.max(0, route.get(h - 1) - far);
            int i = from;
            while (rest[h][i] != left) {
                i++;
            }
            route.add(i);
            left -= loud[h][i];
        }
        return loudness;
    }

    private int greatest(int[] numbers, int from, int to) {
        int greatest = 0;
        for (int i = Math.max(0, from); i <= Math.min(feet - 1, to); i++) {
            greatest = Math.max(greatest, numbers[i]);
        }
        return greatest;
    }

    int walked(int k) {
        return k >= 0 && k < route.size() ? route.get(k) : -1;
    }

    int lined(int n, int gap) {
        int[] all = bytes();
        if (n < 0 || n > 48 || n > all.length || all.length - n > 48 || gap < 0 || gap > 255) {
            return -1;
        }
        int[] first = Arrays.copyOfRange(all, 0, n);
        int[] second = Arrays.copyOfRange(all, n, all.length);
        int[][] cost = new int[n + 1][second.length + 1];
        int[][] step = new int[n + 1][second.length + 1];
        for (int i = n; i >= 0; i--) {
            for (int j = second.length; j >= 0; j--) {
                line(first, second, i, j, gap, cost, step);
            }
        }
        pairs = new int[n];
        int i = 0;
        int j = 0;
        while (step[i][j] != 0) {
            if (step[i][j] != 3) {
                pairs[i] = step[i][j] == 1 ? j : -1;
            }
            int done = step[i][j];
            i += done == 3 ? 0 : 1;
            j += done == 2 ? 0 : 1;
        }
        return cost[0][0];
    }

    /** Steps: 1 a pair, 2 one of the first row alone, 3 one of the second; the first of the least. */
    private static void line(int[] first, int[] second, int i, int j, int gap, int[][] cost, int[][] step) {
        int most = i == first.length && j == second.length ? 0 : Integer.MAX_VALUE;
        int pair = i < first.length && j < second.length
                ? Math.abs(first[i] - second[j]) + cost[i + 1][j + 1] : most;
        int alone = i < first.length ? gap + cost[i + 1][j] : most;
        int other = j < second.length ? gap + cost[i][j + 1] : most;
        cost[i][j] = Math.min(pair, Math.min(alone, other));
        step[i][j] = most == 0 ? 0 : pair == cost[i][j] ? 1 : alone == cost[i][j] ? 2 : 3;
    }

    int paired(int k) {
        return k >= 0 && k < pairs.length ? pairs[k] : -1;
    }

    long falseShare(int k, int above, int what) {
        if (k < 1 || k > 12 || (what != 0 && what != 1)) {
            throw new NoSuchElementException();
        }
        Map<Integer, BigInteger> ways = new HashMap<>();
        ways.put(0, BigInteger.ONE);
        for (int noises = 0; noises < k; noises++) {
            Map<Integer, BigInteger> more = new HashMap<>();
            ways.forEach((sum, number) -> {
                for (int one = -noise; one <= noise; one++) {
                    more.merge(sum + one, number, BigInteger::add);
                }
            });
            ways = more;
        }
        BigInteger some = BigInteger.ZERO;
        for (Map.Entry<Integer, BigInteger> way : ways.entrySet()) {
            some = way.getKey() > above ? some.add(way.getValue()) : some;
        }
        BigInteger all = BigInteger.valueOf(2L * noise + 1).pow(k);
        BigInteger upper = what == 0 ? some : all;
        return upper.divide(some.gcd(all)).longValueExact();
    }

    int gauges() {
        int[] bytes = bytes();
        if (bytes.length % 2 != 0 || bytes.length < 2 || bytes.length > 80) {
            return -1;
        }
        List<int[]> open = new ArrayList<>();
        for (int i = 0; i < bytes.length; i += 2) {
            if (bytes[i] > bytes[i + 1] || bytes[i + 1] >= feet) {
                return -1;
            }
            open.add(new int[] {bytes[i], bytes[i + 1]});
        }
        TreeSet<Integer> placed = new TreeSet<>();
        while (!open.isEmpty()) {
            int foot = open.stream().mapToInt(stretch -> stretch[1]).min().getAsInt();
            placed.add(foot);
            open.removeIf(stretch -> stretch[0] <= foot);
        }
        gaugeFeet = new ArrayList<>(placed);
        return gaugeFeet.size();
    }

    int gauge(int k) {
        return k >= 0 && k < gaugeFeet.size() ? gaugeFeet.get(k) : -1;
    }

    int count(int what) {
        int[] counts = {today, feet, hours, alarms.size(), mended, tape.size()};
        return what >= 0 && what < counts.length ? counts[what] : -1;
    }
}
