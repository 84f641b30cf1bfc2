import java.util.Random;

/** Promises 5 to 7: texts with their faults, against told answers and a second reader. */
public final class TextTest {
    public static void main(String[] args) {
        faults();
        ends();
        counts();
        tooLong();
        feetTold();
        staysBehindFault();
        withHours();
        againstSecondReader();
        Check.finish();
    }

    private static void faults() {
        Check.textFails("pull5;", 0, 1);
        Check.textFails("5pull;", 0, 1);
        Check.textFails("pull\t5;", 4, 1);
        Check.textFails("pull 5\r;", 6, 1);
        Check.textFails("pull 5" + (char) 160 + ";", 6, 1);
        Check.textFails("pull 5 " + (char) 0, 7, 1);
        Check.textFails("pull 5a;", 5, 1);
        Check.textFails("pull 5z;", 5, 1);
        Check.textFails("pull 1" + (char) ('a' - 1) + ";", 6, 1);
        Check.textFails("pull 1{;", 6, 1);
        Check.textFails("pull 1/;", 6, 1);
        Check.textFails("pull 1:;", 6, 1);
        Check.textFails("abcdefgh 1;", 0, 1);
        Check.textFails("fixedfixed 1 to 2;", 0, 1);
        Check.textFails("alarm peak ! 3 for 1;", 11, 1);
        Check.textFails("alarm peak >= 3 for 1;", 12, 1);
        Check.textFails("alarm peak > 10000 for 1;", 13, 1);
        Check.textFails("alarm peak > 3 and for 1;", 19, 1);
        Check.textFails("alarm peak > 3 or ) for 1;", 18, 1);
        Check.textFails("alarm () for 1;", 7, 1);
        Check.textFails("alarm ((peak > 3) for 1;", 18, 1);
        Check.textFails("alarm peak > 3) for 1;", 14, 1);
        Check.textFails("alarm not for 1;", 10, 1);
        Check.textFails("alarm for 1;", 6, 1);
        Check.textFails("alarm peak > 3 for 10;", 19, 2);
        Check.textFails("alarm peak > peak for 1;", 13, 1);
        Check.textFails("alarm at at > 3 for 1;", 9, 1);
        Check.textFails("noise 10;", 6, 2);
        Check.textFails("heat 0;", 5, 2);
        Check.textFails("heat 10;", 5, 2);
        Check.textFails("heat ;", 5, 1);
        Check.textFails("heat 1;heat 2;", 7, 3);
        Check.textFails("heat 1;heat", 7, 3);
        Check.textFails("feet 4;fixed 4 to 4;", 13, 2);
        Check.textFails("feet 4;fixed 0 to 4;", 18, 2);
        Check.textFails("fixed 0 to 24;", 11, 2);
        Check.textFails("holds 100 from 0 to 1;", 6, 2);
        Check.textFails("holds 1 from 24 to 24;", 13, 2);
        Check.textFails("holds 1 from 3 to 2;", 18, 2);
        Check.textFails("holds 1 from 3 to 24;", 18, 2);
        Check.textFails("holds 1 to 3 from 4;", 8, 1);
        Check.textFails("feet 4;alarm at 4 = 0 for 1;", 16, 2);
        Check.textFails("feet 0004;feet 5;", 10, 1);
        Check.textFails("feet 4 5;", 7, 1);
        Check.textFails("feet 3", 5, 2);
        Check.textFails(";", 0, 1);
        Check.textFails("5;", 0, 1);
        Check.textHolds("", 0);
        Check.textHolds(" \n ", 0);
        Check.textHolds("feet 48;", 0);
        Check.textHolds("feet\n0048 ;heat\n 9;pull 9;noise 0;", 3);
        Check.textHolds("alarm(peak<0 or sum>9999)and not slips=0 or at 23>5 for 9;", 1);
        Check.textFails("alarm peak<0or sum>9999 for 1;", 11, 1);
        Check.textFails("alarm peak<0 for1;", 13, 1);
        Check.textHolds("fixed 0 to 23;holds 99 from 23 to 23;", 2);
    }

    private static void ends() {
        Check.textFails("pull 5", 6, 1);
        Check.textFails("pull 5 \n ", 9, 1);
        Check.textFails("pull", 4, 1);
        Check.textFails("alarm ", 6, 1);
        Check.textFails("alarm peak", 10, 1);
        Check.textFails("alarm (peak > 3 ", 16, 1);
        Check.textFails("holds 3 from 1 to", 17, 1);
        Check.textFails("feet 10", 7, 1);
    }

    private static void counts() {
        String lines = "heat 1;" + "fixed 1 to 2;".repeat(23);
        Check.textHolds(lines, 24);
        Check.textFails(lines + "fixed 1 to 2;", 306, 3);
        Check.textFails(lines + "feet", 306, 1);
        Check.textFails(lines + "heat", 306, 3);
        Check.textFails(lines + "alarm", 306, 3);
        Check.textHolds("feet 9;" + "alarm sum=0 for 1;".repeat(6), 6);
        Check.textFails("alarm sum=0 for 1;".repeat(6) + "alarm", 6 * 18, 3);
        Check.textFails("alarm sum=0 for 1;".repeat(6) + "alarms", 6 * 18, 1);
        String nine = "not ".repeat(9);
        Check.textHolds("alarm " + nine + "sum=0 for 1;", 1);
        Check.textFails("alarm " + nine + "not sum=0 for 1;", 6 + 40, 4);
        Check.textFails("alarm " + nine + "not for 1;", 6 + 40, 1);
        Check.textHolds("alarm " + "(".repeat(9) + "sum=0" + ")".repeat(9) + "for 1;", 1);
        Check.textFails("alarm " + "(".repeat(10) + "sum=0" + ")".repeat(10) + "for 1;", 16, 4);
        Check.textFails("alarm sum=0 and not (" + "(".repeat(8) + "sum=0", 29, 4);
        String twenty = "alarm " + "sum<1 or ".repeat(19) + "sum<1 for 1;";
        Check.textHolds("alarm " + "sum<1 or ".repeat(39) + "sum<1 for 1;", 1);
        Check.textFails("alarm " + "sum<1 or ".repeat(40) + "sum<1 for 1;", 6 + 40 * 9, 4);
        Check.textFails("alarm " + "sum<1 or ".repeat(40) + "for 1;", 6 + 40 * 9, 1);
        Check.textFails("alarm " + "(sum<1)or ".repeat(20) + "(sum<1)for 1;", 6 + 200, 4);
        Check.textFails("alarm " + "sum<1or ".repeat(2) + "sum<1 for 1;", 10, 1);
        Check.textFails("alarm (sum<1)" + "and(sum<1)".repeat(20), 6 + 7 + 19 * 10 + 3, 4);
        Check.textFails("alarm (sum<1)" + "and(sum<1)".repeat(19) + "and )", 6 + 7 + 19 * 10 + 4, 1);
        Check.textFails("alarm " + "at 1<1 and ".repeat(35) + "at 1<1 for 1;", 400, 1);
        Check.textHolds(twenty + "alarm " + "not sum<1 or ".repeat(9) + "(sum<1)for 1;", 2);
        Check.textFails(twenty + "alarm " + "not sum<1 or ".repeat(10) + "sum<1 for 1;", 189 + 6 + 130, 4);
        Check.textFails(twenty + "alarm not(" + "not sum<1 or ".repeat(9) + "sum<1)for 1;", 189 + 10 + 117, 4);
    }

    private static void tooLong() {
        String blank = " ".repeat(440);
        Check.textHolds("pull 5;" + blank.substring(0, 393), 1);
        Check.textFails("pull 5;" + blank.substring(0, 394), 400, 1);
        Check.textFails(blank, 400, 1);
        Check.textFails(blank.substring(0, 397) + "pull 5;", 400, 1);
        Check.textFails(blank.substring(0, 397) + "pullpullp;", 397, 1);
        Check.textFails(blank.substring(0, 397) + "pall 5;", 397, 1);
        Check.textFails(blank.substring(0, 399) + "pall 5;", 399, 1);
        Check.textFails(blank.substring(0, 400) + "pall 5;", 400, 1);
        Check.textFails(blank.substring(0, 394) + "pull 12345;", 399, 1);
        Check.textFails(blank.substring(0, 394) + "pull 12;", 399, 2);
        Check.textFails(blank.substring(0, 395) + "pull 12;", 400, 1);
        Check.textFails(blank.substring(0, 394) + "pull 5", 400, 1);
        Check.textFails(blank.substring(0, 394) + "pull 5;", 400, 1);
        Check.textFails(blank.substring(0, 393) + "pull 5", 399, 1);
        Check.textFails("x" + blank.substring(0, 430), 0, 1);
        Check.textFails("pull 5;pull 5;" + blank.substring(0, 420), 7, 3);
        Check.textFails("a".repeat(440), 0, 1);
        Check.textFails(";".repeat(400), 0, 1);
        Check.textFails("(".repeat(440), 0, 1);
        Check.textFails("alarm" + "(".repeat(435), 15, 4);
        Check.textHolds(blank.substring(0, 393) + "pull 5;", 1);
    }

    private static void feetTold() {
        ThreadHouse house = Check.house("feet 12;fixed 2 to 4;fixed 4 to 6;holds 3 from 0 to 9;holds 7 from 5 to 11;");
        int[] fixed = {0, 0, 1, 1, 1, 1, 1, 0, 0, 0, 0, 0};
        int[] hold = {3, 3, 3, 3, 3, 7, 7, 7, 7, 7, 7, 7};
        for (int i = 0; i < 12; i++) {
            Check.same("fixed " + i, house.foot(i, 0), fixed[i]);
            Check.same("hold " + i, house.foot(i, 1), hold[i]);
        }
        Check.same("foot(12, 0)", house.foot(12, 0), -1);
        Check.same("foot(-1, 1)", house.foot(-1, 1), -1);
        Check.same("foot(0, 2)", house.foot(0, 2), -1);
        Check.same("foot(0, -1)", house.foot(0, -1), -1);
        Check.same("feet", house.count(1), 12);
        Check.text(house, "feet 20;");
        for (int i = 0; i < 20; i++) {
            Check.same("new text, fixed " + i, house.foot(i, 0), 0);
            Check.same("new text, hold " + i, house.foot(i, 1), 10);
        }
        Check.text(house, "feet 48;fixed 0 to 47;holds 9 from 0 to 47;");
        Check.same("last foot", house.foot(47, 0), 1);
        Check.same("last foot", house.foot(47, 1), 9);
        Check.text(house, "");
        Check.text(house, "feet 48;");
        for (int i = 0; i < 48; i++) {
            Check.same("third text, fixed " + i, house.foot(i, 0), 0);
            Check.same("third text, hold " + i, house.foot(i, 1), 10);
        }
    }

    private static void staysBehindFault() {
        ThreadHouse house = Check.house("feet 5;fixed 1 to 2;holds 3 from 0 to 4;noise 1;alarm sum=0 for 1;");
        Check.same("fault", Check.text(house, "feet 9;fixed 0 to 8;noise 2;alarm sum=0 for 1;alarm x"), -1 - 52);
        Check.same("kind", house.fault(), 1);
        Check.same("feet stay", house.count(1), 5);
        Check.same("alarms stay", house.count(3), 1);
        Check.same("fixed stays", house.foot(0, 0), 0);
        Check.same("fixed stays", house.foot(1, 0), 1);
        Check.same("hold stays", house.foot(4, 1), 3);
        Check.same("noise stays", house.falseShare(1, 0, 1), 3);
        Check.same("a good one", Check.text(house, ""), 0);
        Check.same("kind", house.fault(), 0);
        Check.same("feet", house.count(1), 24);
        Check.same("alarms", house.count(3), 0);
        Check.same("noise", house.falseShare(1, -1, 1), 1);
    }

    private static void withHours() {
        ThreadHouse house = Check.house("feet 4;");
        Check.text(house, "pull 0;");
        Check.same("kind", house.fault(), 2);
        Check.same("hour", Check.hour(house, 0, 0, 0, 0, 0, 0, 0, 0), 0);
        Check.same("text", Check.text(house, "feet 5;"), -1000);
        Check.same("kind of the one ahead", house.fault(), 2);
        Check.same("text", Check.text(house, "feet 5"), -1000);
        Check.same("feet", house.count(1), 4);
        Check.same("tape", house.count(5), 0);
    }

    private static final String[] PIECES = {
        "feet ", "fixed ", "to ", "holds ", "from ", "pull ", "heat ", "noise ", "alarm ", "for ",
        "or ", "and ", "not ", "peak ", "sum ", "slips ", "hour ", "at ", ";", "(", ")", "<", "=", ">",
        "1 ", "2 ", "0 ", "9", "10 ", "23", "24 ", "48 ", "99 ", "100 ", "12345 ", " ", "\n", "a", "A", "1x "};

    private static void againstSecondReader() {
        Random random = new Random(7);
        ThreadHouse house = new ThreadHouse();
        for (int round = 0; round < 60000; round++) {
            // A text takes 26 calls at most, and beyond 512 the document promises nothing.
            house = round % 19 == 0 ? new ThreadHouse() : house;
            String text = someText(random);
            if (text.length() > 440) {
                text = text.substring(0, 440);
            }
            SecondReader second = new SecondReader(text);
            Check.same("text of " + text, Check.text(house, text), second.answer());
            Check.same("fault of " + text, house.fault(), second.kind());
        }
    }

    /** Mostly good texts with a piece changed here or there, so that the reading goes far. */
    private static String someText(Random random) {
        StringBuilder text = new StringBuilder();
        if (random.nextBoolean()) {
            text.append("feet ").append(4 + random.nextInt(46)).append(';');
        }
        int lines = random.nextInt(random.nextInt(8) == 0 ? 30 : 6);
        for (int line = 0; line < lines; line++) {
            line(text, random);
        }
        for (int change = random.nextInt(3); change > 0 && text.length() > 0; change--) {
            int at = random.nextInt(text.length());
            String piece = PIECES[random.nextInt(PIECES.length)];
            text.replace(at, Math.min(text.length(), at + random.nextInt(4)), piece);
        }
        return text.toString();
    }

    private static void line(StringBuilder text, Random random) {
        int a = random.nextInt(12);
        switch (random.nextInt(9)) {
            case 0:
                text.append("pull ").append(random.nextInt(11)).append(";");
                break;
            case 1:
                text.append("heat\n").append(1 + random.nextInt(9)).append(" ;");
                break;
            case 2:
                text.append("noise ").append(random.nextInt(10)).append(";\n");
                break;
            case 3:
            case 4:
                text.append("fixed ").append(a).append(" to ").append(a + random.nextInt(14)).append(';');
                break;
            case 5:
                text.append("holds ").append(1 + random.nextInt(100)).append(" from ").append(a)
                        .append(" to ").append(a + random.nextInt(4)).append(';');
                break;
            default:
                text.append("alarm ");
                cond(text, random, 1);
                text.append(" for ").append(1 + random.nextInt(9)).append(';');
                break;
        }
    }

    private static void cond(StringBuilder text, Random random, int depth) {
        int ones = random.nextInt(6) == 0 ? 6 : 1 + random.nextInt(2);
        for (int one = 0; one < ones; one++) {
            text.append(one == 0 ? "" : random.nextBoolean() ? " or " : " and ");
            int kind = random.nextInt(depth > 11 ? 2 : 5);
            if (kind == 0) {
                text.append("at ").append(random.nextInt(6)).append("=").append(random.nextInt(20000));
            } else if (kind == 1 || kind == 2) {
                text.append(new String[] {"peak", "sum", "slips", "hour"}[random.nextInt(4)]);
                text.append("<=>".charAt(random.nextInt(3))).append(random.nextInt(3));
            } else if (kind == 3) {
                text.append("not ");
                cond(text, random, depth + 1);
            } else {
                text.append("(");
                cond(text, random, depth + 1);
                text.append(")");
            }
        }
    }
}
