import java.util.Random;

/** Makes texts for the tests: most without a FAULT, some with a byte or a NUMBER that is wrong. */
final class TextMaker {
    private final Random random;
    private final StringBuilder text = new StringBuilder();
    private int feet = 24;

    TextMaker(Random random) {
        this.random = random;
    }

    String make() {
        if (random.nextInt(8) != 0) {
            feet = random.nextInt(4) == 0 ? 4 + random.nextInt(45) : 4 + random.nextInt(9);
            put("feet", feet).end();
        }
        boolean[] once = new boolean[3];
        int lines = random.nextInt(10) == 0 ? random.nextInt(27) : random.nextInt(8);
        for (int line = 0; line < lines && text.length() < 330; line++) {
            line(once);
        }
        if (random.nextInt(6) == 0 && text.length() > 0) {
            spoil();
        }
        return text.length() > 440 ? text.substring(0, 440) : text.toString();
    }

    private TextMaker put(String word) {
        boolean needsBlank = word.matches("[a-z0-9]+") && text.length() > 0
                && String.valueOf(text.charAt(text.length() - 1)).matches("[a-z0-9]");
        if (needsBlank || random.nextInt(12) == 0) {
            text.append(random.nextInt(8) == 0 ? '\n' : ' ');
        }
        text.append(word);
        return this;
    }

    private TextMaker put(String word, int number) {
        return put(word).put(String.valueOf(number));
    }

    private void end() {
        put(";");
    }

    private void stretch(String word) {
        int first = random.nextInt(feet);
        put(word, first);
        put("to", random.nextInt(30) == 0 ? random.nextInt(60) : first + random.nextInt(feet - first)).end();
    }

    private void line(boolean[] once) {
        int which = random.nextInt(9);
        if (which < 3) {
            if (once[which] && random.nextInt(20) != 0) {
                return;
            }
            once[which] = true;
            int number = random.nextInt(30) == 0 ? random.nextInt(12) : which == 2 ? random.nextInt(4) : 1 + random.nextInt(9);
            put(new String[] {"pull", "heat", "noise"}[which], number).end();
        } else if (which == 3) {
            stretch("fixed");
        } else if (which < 6) {
            put("holds", random.nextInt(3) == 0 ? 1 + random.nextInt(99) : 1 + random.nextInt(12));
            stretch("from");
        } else {
            put("alarm");
            cond(random.nextInt(8) == 0 ? 11 : 3);
            put("for", random.nextInt(30) == 0 ? random.nextInt(12) : 1 + random.nextInt(random.nextInt(4) == 0 ? 9 : 2)).end();
        }
    }

    private void cond(int depth) {
        one(depth);
        while (random.nextInt(3) == 0 && text.length() < 380) {
            put(random.nextBoolean() ? "and" : "or");
            one(depth);
        }
    }

    private void one(int depth) {
        int which = random.nextInt(depth > 6 ? 8 : 14);
        if (which < 4 && depth > 0) {
            put("not");
            one(depth - 1);
            return;
        }
        if (which < 8 && depth > 0) {
            put("(");
            cond(depth - 1);
            put(")");
            return;
        }
        String sign = String.valueOf("<=>".charAt(random.nextInt(3)));
        switch (random.nextInt(5)) {
            case 0: put("peak").put(sign, random.nextInt(40)); break;
            case 1: put("sum").put(sign, random.nextInt(200)); break;
            case 2: put("slips").put(sign, random.nextInt(3) * random.nextInt(100)); break;
            case 3: put("hour").put(sign, random.nextInt(8)); break;
            default: put("at", random.nextInt(feet)).put(sign, random.nextInt(20)); break;
        }
    }

    private void spoil() {
        int at = random.nextInt(text.length());
        switch (random.nextInt(4)) {
            case 0: text.deleteCharAt(at); break;
            case 1: text.setCharAt(at, "; ()<=>\n09az".charAt(random.nextInt(12))); break;
            case 2: text.setCharAt(at, (char) random.nextInt(256)); break;
            default: text.append(" ".repeat(Math.max(0, 398 + random.nextInt(6) - text.length()))); break;
        }
    }
}
