import java.util.ArrayList;
import java.util.HashSet;
import java.util.List;
import java.util.Set;
import java.util.regex.Matcher;
import java.util.regex.Pattern;

/** A second reader of texts for the tests, written another way: patterns and an exception. */
final class SecondReader {
    private static final class Fault extends RuntimeException {
        private static final long serialVersionUID = 1L;
        private final int place;
        private final int kind;

        Fault(int place, int kind) {
            this.place = place;
            this.kind = kind;
        }
    }

    private static final Pattern PIECE = Pattern.compile("[a-z0-9]+|[^ \\n]", Pattern.DOTALL);

    private final String text;
    private final List<String> pieces = new ArrayList<>();
    private final List<Integer> places = new ArrayList<>();
    private final Set<String> once = new HashSet<>();
    private int at = 0;
    private int feet = 24;
    private int lines = 0;
    private int alarms = 0;
    private int ones = 0;
    private int answer;
    private int kind;

    SecondReader(String text) {
        this.text = text;
        Matcher matcher = PIECE.matcher(text);
        while (matcher.find() && matcher.start() < 400) {
            pieces.add(matcher.group());
            places.add(matcher.start());
        }
        pieces.add("END");
        places.add(Math.min(400, text.length()));
        try {
            all();
            answer = lines;
        } catch (Fault fault) {
            answer = -1 - fault.place;
            kind = fault.kind;
        }
    }

    int answer() {
        return answer;
    }

    int kind() {
        return kind;
    }

    private boolean sees(String wanted) {
        return pieces.get(at).matches(wanted);
    }

    private void fail(int faultKind) {
        throw new Fault(places.get(at), faultKind);
    }

    private String want(String wanted) {
        if (!sees(wanted)) {
            fail(1);
        }
        return pieces.get(at++);
    }

    private int number(int least, int most) {
        int value = Integer.parseInt(want("[0-9]{1,4}"));
        if (value < least || value > most) {
            at--;
            fail(2);
        }
        return value;
    }

    private void all() {
        if (sees("feet")) {
            at++;
            feet = number(4, 48);
            want(";");
        }
        while (!sees("END")) {
            line();
            want(";");
        }
        if (text.length() > 400) {
            fail(1);
        }
    }

    private void line() {
        String word = want("fixed|holds|pull|heat|noise|alarm");
        boolean again = word.matches("pull|heat|noise") && !once.add(word);
        boolean seventh = word.equals("alarm") && alarms == 6;
        if (lines == 24 || again || seventh) {
            at--;
            fail(3);
        }
        lines++;
        if (word.equals("fixed")) {
            stretch();
        } else if (word.equals("holds")) {
            number(1, 99);
            want("from");
            stretch();
        } else if (word.equals("alarm")) {
            alarms++;
            cond(1);
            want("for");
            number(1, 9);
        } else {
            number(word.equals("noise") ? 0 : 1, 9);
        }
    }

    private void stretch() {
        int first = number(0, feet - 1);
        want("to");
        number(first, feet - 1);
    }

    private void cond(int depth) {
        one(depth);
        while (sees("and|or")) {
            at++;
            one(depth);
        }
    }

    private void one(int depth) {
        String first = want("not|\\(|peak|sum|slips|hour|at");
        if (++ones > 40 || depth > 10) {
            at--;
            fail(4);
        }
        if (first.equals("not")) {
            one(depth + 1);
            return;
        }
        if (first.equals("(")) {
            cond(depth + 1);
            want("\\)");
            return;
        }
        if (first.equals("at")) {
            number(0, feet - 1);
        }
        want("[<=>]");
        number(0, 9999);
    }
}
