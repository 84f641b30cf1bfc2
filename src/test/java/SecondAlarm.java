import java.util.ArrayList;
import java.util.List;
import java.util.regex.Matcher;
import java.util.regex.Pattern;

/** An ALARM for the tests, worked out anew from its words each time; the LINE has no FAULT. */
final class SecondAlarm {
    private static final Pattern PIECE = Pattern.compile("[a-z]+|[0-9]+|[()<=>]");

    private final List<String> pieces = new ArrayList<>();
    private int at;
    private int[] change;
    private int slips;
    private int hour;

    SecondAlarm(String line) {
        Matcher matcher = PIECE.matcher(line);
        while (matcher.find()) {
            pieces.add(matcher.group());
        }
    }

    int hours() {
        return Integer.parseInt(pieces.get(pieces.size() - 1));
    }

    /** The CHANGE without signs. */
    boolean holds(int[] changeThere, int slipsThere, int hourThere) {
        change = changeThere;
        slips = slipsThere;
        hour = hourThere;
        at = 1;
        return any();
    }

    private boolean any() {
        boolean holds = all();
        while (pieces.get(at).equals("or")) {
            at++;
            holds = all() || holds;
        }
        return holds;
    }

    private boolean all() {
        boolean holds = one();
        while (pieces.get(at).equals("and")) {
            at++;
            holds = one() && holds;
        }
        return holds;
    }

    private boolean one() {
        String word = pieces.get(at++);
        if (word.equals("not")) {
            return !one();
        }
        if (word.equals("(")) {
            boolean holds = any();
            at++;
            return holds;
        }
        int measured = measure(word);
        String sign = pieces.get(at++);
        int number = Integer.parseInt(pieces.get(at++));
        return sign.equals("<") ? measured < number : sign.equals("=") ? measured == number : measured > number;
    }

    private int measure(String word) {
        int peak = 0;
        int sum = 0;
        for (int one : change) {
            peak = Math.max(peak, one);
            sum += one;
        }
        switch (word) {
            case "peak": return peak;
            case "sum": return sum;
            case "slips": return slips;
            case "hour": return hour;
            default: return change[Integer.parseInt(pieces.get(at++))];
        }
    }
}
