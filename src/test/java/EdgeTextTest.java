import java.util.function.IntFunction;

/** The edges of what a TEXT may be and of its FAULTS (promises 5 to 7), sentence by sentence. */
public final class EdgeTextTest {
    private static final int NONE = -1;
    private static final int LEAST = Integer.MIN_VALUE;
    private static final int MOST = Integer.MAX_VALUE;
    private static final String BLANKS = " ".repeat(440);

    public static void main(String[] args) {
        blanks();
        words();
        numbers();
        runs();
        feet();
        lines();
        stretches();
        holds();
        settings();
        alarmHours();
        alarms();
        conds();
        atFeet();
        anyNumbers();
        ones();
        within();
        numberFaults();
        firstFault();
        leastFault();
        atTheEnd();
        tooLong();
        readWhole();
        toldTwice();
        fixedAndHold();
        noHours();
        faultKinds();
        footAsked();
        Check.finish();
    }

    /** The texts of least .. most hold, those beside them have fault 2 at the place. */
    private static void range(IntFunction<String> text, int least, int most, int place, int lines) {
        int[] beyond = {least - 1, most + 1, most + 10, 9999};
        for (int n : beyond) {
            if (n >= 0 && n <= 9999) {
                Check.textFails(text.apply(n), place, 2);
            }
        }
        for (int n = least; n <= most; n++) {
            Check.textHolds(text.apply(n), lines);
        }
    }

    private static void blanks() {
        Check.sentence("TOKENS, with blanks (32, 10) between them or not");
        for (int sign = 0; sign < 256; sign++) {
            String behindWord = "pull" + (char) sign + "5;";
            String behindNumber = "pull 5" + (char) sign + ";";
            boolean letter = sign >= 'a' && sign <= 'z';
            boolean digit = sign >= '0' && sign <= '9';
            if (sign == 32 || sign == 10) {
                Check.textHolds(behindWord, 1);
                Check.textHolds(behindNumber, 1);
            } else {
                Check.textFails(behindWord, letter || digit ? 0 : 4, 1);
                Check.textFails(behindNumber, letter || digit ? 5 : sign == ';' ? 7 : 6, digit ? 2 : 1);
            }
        }
        Check.textHolds("feet 9;fixed 1 to 2;alarm(not(peak<1)and(at 3>2))or hour=0 for 1;", 2);
        Check.textHolds("\n feet \n9 ; fixed  1\nto\n2\n;alarm\n( not ( peak < 1 ) and\n( at 3 > 2 ) )or hour = 0 for 1 ; ", 2);
        Check.textHolds("", 0);
        Check.textHolds(" ", 0);
        Check.textHolds("\n", 0);
        Check.textHolds(BLANKS.substring(0, 400), 0);
    }

    private static void words() {
        Check.sentence("WORDS: small letters, 1 to 8");
        Check.textFails("p 5;", 0, 1);
        Check.textFails("pullpull 5;", 0, 1);
        Check.textFails("pullpullp 5;", 0, 1);
        Check.textFails("Pull 5;", 0, 1);
        Check.textFails("pulL 5;", 0, 1);
        Check.textFails("pullL 5;", 4, 1);
        Check.textFails("PULL 5;", 0, 1);
        Check.textFails("pul 5;", 0, 1);
        Check.textFails("pulls 5;", 0, 1);
        Check.textFails("`ull 5;", 0, 1);
        Check.textFails("pull`5;", 4, 1);
        Check.textFails("pull{5;", 4, 1);
        Check.textFails("zebra 5;", 0, 1);
    }

    private static void numbers() {
        Check.sentence("NUMBERS: 1 to 4 digits");
        String[] taken = {"5", "05", "005", "0005"};
        for (String number : taken) {
            Check.textHolds("pull " + number + ";", 1);
        }
        Check.textFails("pull 00005;", 5, 1);
        Check.textFails("pull 10000;", 5, 1);
        Check.textFails("pull 0000000005;", 5, 1);
        Check.textFails("pull ;", 5, 1);
        Check.textFails("pull /;", 5, 1);
        Check.textFails("pull :;", 5, 1);
        Check.textFails("pull -1;", 5, 1);
        Check.textFails("pull +1;", 5, 1);
        Check.textFails("pull 0000;", 5, 2);
        Check.textHolds("alarm sum>0000 for 0001;", 1);
        Check.textFails("alarm sum>00000 for 0001;", 10, 1);
        Check.textFails("alarm sum>0000 for 00001;", 19, 1);
        for (int digit = 1; digit <= 9; digit++) {
            ThreadHouse house = new ThreadHouse();
            Check.same("a digit", Check.text(house, "holds " + digit + " from 0 to 0;"), 1);
            Check.same("its worth", house.foot(0, 1), digit);
            Check.same("two digits", Check.text(house, "holds " + digit + "0 from 0 to 0;"), 1);
            Check.same("their worth", house.foot(0, 1), 10 * digit);
        }
    }

    private static void runs() {
        Check.sentence("(A WORD, NUMBER goes on as long as small letters and digits do; what is not as told is no TOKEN.)");
        Check.textFails("pull5;", 0, 1);
        Check.textFails("heat 1;pull5;", 7, 1);
        Check.textFails("pull 5pull;", 5, 1);
        Check.textFails("pull 5a;", 5, 1);
        Check.textFails("pull a5;", 5, 1);
        Check.textFails("pull 5;5pull 5;", 7, 1);
        Check.textFails("fixed 1to 2;", 6, 1);
        Check.textFails("fixed 1 to2;", 8, 1);
        Check.textFails("alarm sum<1and sum<1 for 1;", 10, 1);
        Check.textFails("alarm sum<1for 1;", 10, 1);
        Check.textFails("alarm sum<1 for1;", 12, 1);
        Check.textFails("alarm notsum<1 for 1;", 6, 1);
        Check.textFails("alarm at1<1 for 1;", 6, 1);
        Check.textHolds("alarm at 1<1 for 1;", 1);
        Check.textHolds("alarm not(sum<1)for 1;", 1);
    }

    private static void feet() {
        Check.sentence("FEET: 4 to 48 (24 without it); feet are numbered from 0.");
        range(n -> "feet " + n + ";", 4, 48, 5, 0);
        for (int feet = 4; feet <= 48; feet++) {
            ThreadHouse house = Check.house("feet " + feet + ";");
            Check.same("FEET", house.count(1), feet);
            Check.same("the first foot", house.foot(0, 1), 10);
            Check.same("the last foot", house.foot(feet - 1, 1), 10);
            Check.same("none behind it", house.foot(feet, 1), NONE);
        }
        Check.same("without it", Check.house("pull 1;").count(1), 24);
        ThreadHouse again = Check.house("feet 9;");
        Check.same("without it again", Check.text(again, "pull 1;"), 1);
        Check.same("FEET", again.count(1), 24);
        Check.textFails("feet 0;", 5, 2);
        Check.textFails("feet 3", 5, 2);
        Check.textFails("feet 4", 6, 1);
        Check.textFails("feet;", 4, 1);
        Check.textFails("feet feet 4;", 5, 1);
        Check.textFails("feet 4;feet 4;", 7, 1);
        Check.textFails("pull 1;feet 4;", 7, 1);
        Check.textFails("feet 4;;", 7, 1);
    }

    private static void lines() {
        Check.sentence("{ LINE }, 24 LINES at most.");
        for (int n = 0; n <= 24; n++) {
            Check.textHolds("fixed 1 to 2;".repeat(n), n);
        }
        Check.textHolds("feet 4;" + "fixed 1 to 2;".repeat(24), 24);
        Check.sentence("a 25th LINE, a seventh alarm (at its WORD)");
        String many = "fixed 1 to 2;".repeat(24);
        String[] words = {"fixed 1 to 2;", "fixed", "fixed 99", "holds 1 from 0 to 0;", "holds", "pull 1;", "pull", "heat 0;", "noise 10;", "alarm"};
        for (String word : words) {
            Check.textFails(many + word, 312, 3);
            Check.textFails(many + " \n" + word, 314, 3);
            Check.textFails("feet 4;" + many + word, 319, 3);
        }
        Check.textFails(many + ";", 312, 1);
        Check.textFails(many + "feet 4;", 312, 1);
        Check.textFails(many + "to", 312, 1);
        Check.textHolds(many + " \n", 24);
        Check.textHolds("pull 1;heat 1;noise 1;" + "fixed 1 to 2;".repeat(15) + "alarm sum<1 for 1;".repeat(6), 24);
        Check.textFails("pull 1;heat 1;noise 1;" + "fixed 1 to 2;".repeat(15) + "alarm sum<1 for 1;".repeat(6) + "fixed", 325, 3);
    }

    private static void stretches() {
        Check.sentence("(feet from .. to: below FEET, the second not below the first");
        int[] told = {4, 5, 24, 48};
        for (int feet : told) {
            String begin = feet == 24 ? "" : "feet " + feet + ";";
            int[] edges = {0, 1, feet / 2, feet - 2, feet - 1, feet, feet + 1, 99, 9999};
            for (int first : edges) {
                for (int last : edges) {
                    stretch(begin + "fixed ", feet, first, last);
                    stretch(begin + "holds 7 from ", feet, first, last);
                }
            }
        }
    }

    private static void stretch(String begin, int feet, int first, int last) {
        String text = begin + first + " to " + last + ";";
        if (first >= feet) {
            Check.textFails(text, begin.length(), 2);
        } else if (last >= feet || last < first) {
            Check.textFails(text, text.length() - 1 - String.valueOf(last).length(), 2);
        } else {
            ThreadHouse house = Check.house(text);
            boolean fixes = begin.endsWith("fixed ");
            for (int i = 0; i < feet; i++) {
                boolean within = i >= first && i <= last;
                Check.same("FIXED of " + i + " by " + text, house.foot(i, 0), fixes && within ? 1 : 0);
                Check.same("HOLD of " + i + " by " + text, house.foot(i, 1), !fixes && within ? 7 : 10);
            }
        }
    }

    private static void holds() {
        Check.sentence("(HOLD 1 to 99)");
        range(n -> "holds " + n + " from 0 to 0;", 1, 99, 6, 1);
        for (int n = 1; n <= 99; n++) {
            Check.same("HOLD", Check.house("holds " + n + " from 5 to 5;").foot(5, 1), n);
        }
    }

    private static void settings() {
        Check.sentence("'pull' NUMBER ; | 'heat' NUMBER ; (1 to 9 each)");
        range(n -> "pull " + n + ";", 1, 9, 5, 1);
        range(n -> "heat " + n + ";", 1, 9, 5, 1);
        for (int n = 1; n <= 9; n++) {
            ThreadHouse pulled = Check.house("feet 4;pull " + n + ";");
            Check.hour(pulled, 3, 0, 0, 0, 5, 0, 0, 0);
            Check.same("pull " + n, pulled.read(0, 0, 0, 0), 2 * (3 * n + 5));
            Check.same("heat stays 1", pulled.read(0, 0, 0, 1), 10);
            ThreadHouse heated = Check.house("feet 4;heat " + n + ";");
            Check.hour(heated, 3, 0, 0, 0, 5, 0, 0, 0);
            Check.same("heat " + n, heated.read(0, 0, 0, 0), 2 * (3 + 5 * n));
            Check.same("heat " + n, heated.read(0, 0, 0, 1), 10 * n);
        }
        Check.sentence("'noise' NUMBER ; (0 to 9)");
        range(n -> "noise " + n + ";", 0, 9, 6, 1);
        for (int n = 0; n <= 9; n++) {
            ThreadHouse house = Check.house("noise " + n + ";");
            Check.same("noise " + n, house.falseShare(1, 0, 0), n);
            Check.same("noise " + n, house.falseShare(1, 0, 1), 2 * n + 1);
        }
        Check.sentence("pull, heat, noise once each: 1, 1, 0 without.)");
        ThreadHouse house = Check.house("pull 9;heat 9;noise 9;");
        for (int text = 0; text < 3; text++) {
            Check.same("the next text", Check.text(house, "feet 4;"), 0);
            Check.same("noise without", house.falseShare(1, 0, 1), 1);
        }
        Check.hour(house, 3, 0, 0, 0, 5, 0, 0, 0);
        Check.same("pull and heat without", house.read(0, 0, 0, 0), 16);
    }

    private static void alarmHours() {
        Check.sentence("'alarm' COND 'for' NUMBER ; (1 to 9 HOURS)");
        range(n -> "alarm sum<1 for " + n + ";", 1, 9, 16, 1);
    }

    private static void alarms() {
        Check.sentence("ALARMS are numbered from 0, 6 at most.");
        StringBuilder text = new StringBuilder("feet 4;");
        for (int n = 0; n <= 6; n++) {
            ThreadHouse house = Check.house(text.toString());
            Check.same("ALARMS", house.count(3), n);
            Check.hour(house, new int[8]);
            for (int k = 0; k < n; k++) {
                Check.same("ALARM " + k, house.alarm(k, 0, 0), k % 2);
            }
            Check.same("none behind", house.alarm(n, 0, 0), NONE);
            text.append(n % 2 == 0 ? "alarm hour>0 for 1;" : "alarm hour=0 for 1;");
        }
        Check.sentence("a seventh alarm (at its WORD)");
        Check.textFails(text.toString(), 7 + 6 * 19, 3);
        Check.textFails("alarm sum<1 for 1;".repeat(6) + "alarm", 108, 3);
        Check.textFails("alarm sum<1 for 1;".repeat(6) + "pull 1;alarm x", 115, 3);
        Check.textFails("alarm sum<1 for 1;".repeat(6) + "alarmed", 108, 1);
        Check.textHolds("alarm sum<1 for 1;".repeat(6) + "pull 1;", 7);
    }

    private static void conds() {
        Check.sentence("COND: ALL { 'or' ALL }. ALL: ONE { 'and' ONE }.");
        Check.textFails("alarm for 1;", 6, 1);
        Check.textFails("alarm or sum<1 for 1;", 6, 1);
        Check.textFails("alarm and sum<1 for 1;", 6, 1);
        Check.textFails("alarm sum<1 or for 1;", 15, 1);
        Check.textFails("alarm sum<1 and for 1;", 16, 1);
        Check.textFails("alarm sum<1 or and sum<1 for 1;", 15, 1);
        Check.textFails("alarm sum<1 sum<1 for 1;", 12, 1);
        Check.textFails("alarm sum<1 not sum<1 for 1;", 12, 1);
        Check.textFails("alarm sum<1;", 11, 1);
        Check.sentence("'not' ONE | ( COND )");
        Check.textFails("alarm not for 1;", 10, 1);
        Check.textFails("alarm not or sum<1 for 1;", 10, 1);
        Check.textFails("alarm () for 1;", 7, 1);
        Check.textFails("alarm (sum<1 for 1;", 13, 1);
        Check.textFails("alarm (sum<1)) for 1;", 13, 1);
        Check.textFails("alarm ) for 1;", 6, 1);
        Check.textHolds("alarm (sum<1) for 1;", 1);
        Check.textHolds("alarm not not sum<1 for 1;", 1);
        Check.sentence("SIGN: < = >.");
        Check.textHolds("alarm sum<1 or peak=1 or slips>1 for 1;", 1);
        Check.textFails("alarm sum 1 for 1;", 10, 1);
        Check.textFails("alarm sum<=1 for 1;", 10, 1);
        Check.textFails("alarm sum=<1 for 1;", 10, 1);
        Check.textFails("alarm sum! 1 for 1;", 9, 1);
        Check.textFails("alarm sum; 1 for 1;", 9, 1);
        Check.textFails("alarm sum< for 1;", 11, 1);
    }

    private static void atFeet() {
        Check.sentence("'at' NUMBER SIGN NUMBER (a foot)");
        range(n -> "feet 4;alarm at " + n + "=0 for 1;", 0, 3, 16, 1);
        range(n -> "alarm at " + n + "=0 for 1;", 0, 23, 9, 1);
        range(n -> "feet 48;alarm at " + n + "=0 for 1;", 0, 47, 17, 1);
        Check.textFails("alarm at=0 for 1;", 8, 1);
        Check.textFails("alarm at 0 0=0 for 1;", 11, 1);
    }

    private static void anyNumbers() {
        Check.sentence("one behind a SIGN may be any)");
        String[] measures = {"peak", "sum", "slips", "hour", "at 0"};
        int[] numbers = {0, 1, 48, 99, 100, 9999};
        for (String measure : measures) {
            for (int number : numbers) {
                Check.textHolds("alarm " + measure + ">" + number + " for 1;", 1);
            }
            Check.textFails("alarm " + measure + ">10000 for 1;", 7 + measure.length(), 1);
        }
    }

    private static void ones() {
        Check.sentence("No more than 40 ONES in a text");
        String plain = "alarm " + "sum<1 or ".repeat(39) + "sum<1 ";
        Check.textHolds(plain + "for 1;", 1);
        String turned = "alarm " + "not sum<1 or ".repeat(19) + "not sum<1 ";
        Check.textHolds(turned + "for 1;", 1);
        String round = "alarm " + "(sum<1)or".repeat(19) + "(sum<1)";
        Check.textHolds(round + "for 1;", 1);
        String six = "alarm not not not not not sum<1 for 1;".repeat(5) + "alarm " + "not ".repeat(9) + "sum<1";
        Check.textHolds(six + " for 1;", 6);
        Check.sentence("4 a 41st ONE, an eleventh within (at its first TOKEN)");
        Check.textFails(plain + "or sum<1 for 1;", 6 + 360, 4);
        Check.textFails(plain + "and not sum<1 for 1;", 6 + 361, 4);
        Check.textFails(plain + "or ( sum<1 ) for 1;", 6 + 360, 4);
        Check.textFails(plain + "or at 99<1 for 1;", 6 + 360, 4);
        Check.textFails(turned + "and sum<1 for 1;", turned.length() + 4, 4);
        Check.textFails(turned + "or not sum<1 for 1;", turned.length() + 3, 4);
        Check.textFails("alarm not " + turned.substring(6) + "for 1;", 4 + turned.length() - 6, 4);
        Check.textFails(round + "or(sum<1)for 1;", round.length() + 2, 4);
        Check.textFails("alarm sum<1 or" + round.substring(6) + "for 1;", 8 + round.length() - 6, 4);
        Check.textFails(six + " or sum<1 for 1;", six.length() + 4, 4);
        Check.textFails(six + " or sum", six.length() + 4, 4);
        Check.textFails(six + " for 1;pull 0;", six.length() + 12, 2);
        ThreadHouse again = Check.house(plain + "for 1;");
        for (int more = 0; more < 4; more++) {
            Check.same("counted anew in the next text", Check.text(again, turned + "for 1;"), 1);
            Check.same("and behind a FAULT", Check.text(again, plain + "for 0;"), -1 - plain.length() - 4);
            Check.same("and in the next one", Check.text(again, plain + "for 1;"), 1);
        }
        Check.same("a last text", Check.text(again, "alarm hour>0 for 1;alarm hour=0 for 1;alarm sum>0 for 1;alarm sum=0 for 1;"), 4);
        Check.hour(again, new int[48]);
        for (int k = 0; k < 4; k++) {
            Check.same("its ALARM " + k, again.alarm(k, 0, 0), k % 2);
        }
        ThreadHouse most = Check.house("feet 4;alarm " + "sum>9 or ".repeat(39) + "hour=0 for 1;");
        Check.hour(most, new int[8]);
        Check.same("the 40th ONE counts", most.alarm(0, 0, 0), 1);
        ThreadHouse all = Check.house("feet 4;alarm " + "sum=0 and ".repeat(36) + "hour>0 for 1;");
        Check.hour(all, new int[8]);
        Check.hour(all, new int[8]);
        Check.same("the last ONE counts", all.alarm(0, 0, 0), 0);
        Check.same("the last ONE counts", all.alarm(0, 1, 0), 1);
    }

    private static void within() {
        Check.sentence("no more than 10 within one another.");
        for (int nots = 0; nots <= 9; nots++) {
            String mixed = "not ".repeat(nots) + "(".repeat(9 - nots) + "sum<1" + ")".repeat(9 - nots);
            Check.textHolds("alarm " + mixed + " for 1;", 1);
            Check.textHolds("alarm " + mixed + " and " + mixed + " or " + mixed.replace("sum<1", "sum<1 or sum<1 and sum<1") + " for 1;", 1);
        }
        Check.sentence("an eleventh within (at its first TOKEN)");
        for (int nots = 0; nots <= 10; nots++) {
            String begin = "alarm " + "not ".repeat(nots) + "(".repeat(10 - nots);
            Check.textFails(begin + "sum<1", begin.length(), 4);
            Check.textFails(begin + " not sum<1", begin.length() + 1, 4);
            Check.textFails(begin + "(sum<1", begin.length(), 4);
            Check.textFails("alarm sum<1 or " + begin.substring(6) + "at 99<1", begin.length() + 9, 4);
        }
        Check.textFails("alarm (((((((((sum<1 or (sum<1", 24 + 1, 4);
        Check.textFails("alarm (((((((((sum<1 or not sum<1", 24 + 4, 4);
    }

    private static void numberFaults() {
        Check.sentence("2 a NUMBER that is not as told (at it");
        Check.textFails("feet 3;", 5, 2);
        Check.textFails(" feet\n 49 ;", 7, 2);
        Check.textFails("feet 4;fixed 4 to 0;", 13, 2);
        Check.textFails("feet 4;fixed 3 to 2;", 18, 2);
        Check.textFails("feet 4;holds 0 from 0 to 0;", 13, 2);
        Check.textFails("feet 4;holds 1 from 4 to 0;", 20, 2);
        Check.textFails("feet 4;holds 1 from 1 to 0;", 25, 2);
        Check.textFails("feet 4;pull 0;", 12, 2);
        Check.textFails("feet 4;heat 10;", 12, 2);
        Check.textFails("feet 4;noise 10;", 13, 2);
        Check.textFails("feet 4;alarm at 4<0 for 0;", 16, 2);
        Check.textFails("feet 4;alarm at 3<0 for 0;", 24, 2);
    }

    private static void firstFault() {
        Check.sentence("FAULTS, the first along the text");
        Check.textFails("pull 0;pull 0;", 5, 2);
        Check.textFails("pull 1;pull 0;", 7, 3);
        Check.textFails("pull 1;heat 0;pull 1;", 12, 2);
        Check.textFails("heat 99 ? 12345", 5, 2);
        Check.textFails("? heat 99;", 0, 1);
        Check.textFails("feet 3;fixed 9 to 1;", 5, 2);
        Check.textFails("fixed 24 to 5;", 6, 2);
        Check.textFails("fixed 24 x", 6, 2);
        Check.textFails("alarm sum<1 for 0;alarm", 16, 2);
        Check.textFails("alarm at 24 ! 1 for 0;", 9, 2);
    }

    private static void leastFault() {
        Check.sentence("of one TOKEN the least");
        Check.textFails("pull 00010;", 5, 1);
        Check.textFails("fixed 3 to 00001;", 11, 1);
        String full = "alarm " + "sum<1 or ".repeat(40);
        Check.textFails(full + "for 1;", full.length(), 1);
        Check.textFails(full + "1;", full.length(), 1);
        Check.textFails(full + ")", full.length(), 1);
        Check.textFails(full + "summ<1", full.length(), 1);
        Check.textFails("alarm " + "not ".repeat(10) + "for 1;", 46, 1);
        Check.textFails("alarm " + "(".repeat(10) + ")", 16, 1);
        Check.textFails("fixed 1 to 2;".repeat(24) + "and", 312, 1);
        Check.textFails("fixed 1 to 2;".repeat(24) + "pull1", 312, 1);
    }

    private static void atTheEnd() {
        Check.sentence("1 no TOKEN, or one that can't come (at it; the end: how many bytes there are");
        String text = "feet 10; holds 3 from 1 to 4 ;fixed 2 to 3; pull 5;alarm not ( at 3 > 5 or peak < 2 and slips = 0 ) for 4;";
        for (int length = 0; length <= text.length(); length++) {
            String part = text.substring(0, length);
            SecondReader second = new SecondReader(part);
            ThreadHouse house = new ThreadHouse();
            Check.same("text() of " + part, Check.text(house, part), second.answer());
            Check.same("fault() of " + part, house.fault(), second.kind());
        }
        Check.textFails("feet", 4, 1);
        Check.textFails("feet ", 5, 1);
        Check.textFails("feet 4", 6, 1);
        Check.textFails("feet 4\n\n", 8, 1);
        Check.textFails("alarm sum<1 for 1", 17, 1);
        Check.textFails("pull 1;heat", 11, 1);
        Check.textFails(BLANKS.substring(0, 396) + "pull", 400, 1);
        Check.textFails(BLANKS.substring(0, 395) + "pull", 399, 1);
    }

    private static void tooLong() {
        Check.sentence("A TEXT of at most 400 bytes.");
        Check.textHolds("pull 5;" + BLANKS.substring(0, 393), 1);
        Check.textHolds(BLANKS.substring(0, 393) + "pull 5;", 1);
        Check.textHolds(BLANKS.substring(0, 400), 0);
        Check.sentence("400, if there are more and no FAULT is ahead");
        Check.textFails("pull 5;" + BLANKS.substring(0, 394), 400, 1);
        Check.textFails(BLANKS.substring(0, 394) + "pull 5;", 400, 1);
        Check.textFails(BLANKS.substring(0, 401), 400, 1);
        Check.textFails(BLANKS, 400, 1);
        Check.textFails(BLANKS.substring(0, 400) + ";", 400, 1);
        Check.textFails(BLANKS.substring(0, 400) + "?", 400, 1);
        Check.textFails("pull 5;" + BLANKS.substring(0, 393) + "heat 5;", 400, 1);
        Check.textFails("pull 5;" + BLANKS.substring(0, 393) + "pull 5;", 400, 1);
        Check.textFails("pull 5" + BLANKS.substring(0, 394) + ";", 400, 1);
        Check.textFails("pull 0;" + BLANKS.substring(0, 433), 5, 2);
        Check.textFails("pull 1;pull 1;" + BLANKS.substring(0, 426), 7, 3);
        Check.textFails(BLANKS.substring(0, 399) + "?" + BLANKS.substring(0, 40), 399, 1);
        Check.textFails(BLANKS.substring(0, 399) + ";;", 399, 1);
    }

    private static void readWhole() {
        Check.sentence("TOKENS that begin ahead of it are read whole)");
        Check.textFails(BLANKS.substring(0, 399) + "pull 5;", 400, 1);
        Check.textFails(BLANKS.substring(0, 399) + "pulx 5;", 399, 1);
        Check.textFails(BLANKS.substring(0, 399) + "pull5;", 399, 1);
        Check.textFails(BLANKS.substring(0, 400) + "pulx 5;", 400, 1);
        Check.textFails(BLANKS.substring(0, 397) + "pull", 400, 1);
        Check.textFails("pull 5;" + BLANKS.substring(0, 392) + "pull", 399, 3);
        Check.textFails("pull 5;" + BLANKS.substring(0, 393) + "pull", 400, 1);
        Check.textFails("pull " + BLANKS.substring(0, 394) + "5;", 400, 1);
        Check.textFails("pull " + BLANKS.substring(0, 394) + "55;", 399, 2);
        Check.textFails("pull " + BLANKS.substring(0, 394) + "0005;", 400, 1);
        Check.textFails("pull " + BLANKS.substring(0, 394) + "00005;", 399, 1);
        Check.textFails("pull " + BLANKS.substring(0, 394) + "5x;", 399, 1);
        Check.textFails("pull " + BLANKS.substring(0, 395) + "55;", 400, 1);
        Check.textFails("x".repeat(440), 0, 1);
        Check.textFails(";".repeat(400), 0, 1);
        Check.textFails("(".repeat(440), 0, 1);
        Check.textFails("alarm" + "(".repeat(395), 15, 4);
        Check.textFails("alarm" + "(".repeat(435), 15, 4);
        Check.textFails(BLANKS.substring(0, 390) + "x".repeat(50), 390, 1);
        String full = "alarm " + "sum<1 or ".repeat(40);
        Check.textFails(full + BLANKS.substring(0, 399 - full.length()) + "sum<1", 399, 4);
        Check.textFails(full + BLANKS.substring(0, 400 - full.length()) + "sum<1", 400, 1);
        Check.textFails(full + BLANKS.substring(0, 399 - full.length()) + "sun<1", 399, 1);
    }

    private static void toldTwice() {
        Check.sentence("3 pull, heat, noise told twice");
        String[] words = {"pull", "heat", "noise"};
        for (String word : words) {
            int length = word.length() + 3;
            Check.textFails(word + " 1;" + word + " 1;", length, 3);
            Check.textFails(word + " 1;" + word, length, 3);
            Check.textFails(word + " 1;fixed 0 to 0; " + word + " 99;", length + 14, 3);
            for (String other : words) {
                if (!other.equals(word)) {
                    Check.textHolds(word + " 1;" + other + " 1;", 2);
                    Check.textFails(word + " 1;" + other + " 1;" + word + " 1;", length + other.length() + 3, 3);
                }
            }
            ThreadHouse again = Check.house(word + " 1;");
            Check.same(word + " in the next text", Check.text(again, word + " 2;"), 1);
        }
        Check.textHolds("fixed 0 to 0;fixed 0 to 0;holds 1 from 0 to 0;holds 1 from 0 to 0;", 4);
    }

    private static void fixedAndHold() {
        Check.sentence("A foot is FIXED, if a LINE tells it; the HOLD of a foot is that of the last LINE that tells it, 10 without.");
        ThreadHouse house = Check.house("feet 6;holds 5 from 0 to 3;fixed 1 to 1;holds 9 from 3 to 4;fixed 1 to 2;");
        int[] fixed = {0, 1, 1, 0, 0, 0};
        int[] hold = {5, 5, 5, 9, 9, 10};
        for (int i = 0; i < 6; i++) {
            Check.same("FIXED " + i, house.foot(i, 0), fixed[i]);
            Check.same("HOLD " + i, house.foot(i, 1), hold[i]);
        }
        Check.text(house, "feet 6;holds 7 from 0 to 5;fixed 0 to 5;");
        for (int text = 0; text < 3; text++) {
            Check.same("the next text", Check.text(house, "feet 6;"), 0);
            for (int i = 0; i < 6; i++) {
                Check.same("FIXED " + i, house.foot(i, 0), 0);
                Check.same("HOLD " + i, house.foot(i, 1), 10);
            }
        }
    }

    private static void noHours() {
        Check.sentence("A TEXT can be told as long as there are no HOURS.");
        ThreadHouse house = new ThreadHouse();
        Check.same("a text", Check.text(house, "feet 4;"), 0);
        Check.same("a refused HOUR", Check.hour(house, 100, 0, 0, 0, 0, 0, 0, 0), NONE);
        Check.same("a text", Check.text(house, "feet 5;"), 0);
        Check.same("a day later", house.next(1), 1);
        Check.same("a text", Check.text(house, "feet 4;pull 2;"), 1);
        Check.same("an HOUR", Check.hour(house, new int[8]), 0);
        Check.sentence("-1000: there are HOURS.");
        String[] texts = {"feet 4;", "", "?", "pull 0;", BLANKS};
        for (String text : texts) {
            Check.same("text() of " + text, Check.text(house, text), -1000);
            Check.same("the tape", house.count(5), 0);
            Check.same("FEET", house.count(1), 4);
        }
        Check.same("a day later", house.next(1), 2);
        Check.same("mended", Check.mend(house, 0, new int[8]), true);
        Check.same("text()", Check.text(house, "feet 4;"), -1000);
    }

    private static void faultKinds() {
        Check.sentence("The kind of the FAULT of the latest text() that did not tell -1000; 0 without one and ahead of any.");
        String[] texts = {"pull", "pull 0;", "pull 1;pull 1;", "alarm " + "(".repeat(11)};
        for (int kind = 1; kind <= 4; kind++) {
            ThreadHouse house = new ThreadHouse();
            Check.same("ahead of any", house.fault(), 0);
            Check.same("a FAULT", Check.text(house, texts[kind - 1]) < 0, true);
            Check.same("its kind", house.fault(), kind);
            Check.same("asked again", house.fault(), kind);
            Check.same("without one", Check.text(house, "pull 1;"), 1);
            Check.same("no kind", house.fault(), 0);
            Check.text(house, texts[kind - 1]);
            Check.hour(house, new int[48]);
            Check.same("there are HOURS", Check.text(house, "pull 1;"), -1000);
            Check.same("the kind ahead of it", house.fault(), kind);
            Check.same("there are HOURS", Check.text(house, texts[4 - kind]), -1000);
            Check.same("the kind ahead of it", house.fault(), kind);
        }
        ThreadHouse never = new ThreadHouse();
        Check.hour(never, new int[48]);
        Check.same("there are HOURS", Check.text(never, "pull"), -1000);
        Check.same("still ahead of any", never.fault(), 0);
    }

    private static void footAsked() {
        Check.sentence("NONE: no such foot, what.");
        ThreadHouse house = Check.house("feet 4;fixed 0 to 3;holds 7 from 0 to 3;");
        int[] others = {-1, -2, LEAST, MOST};
        for (int other : others) {
            Check.same("foot(" + other + ", 0)", house.foot(other, 0), NONE);
            Check.same("foot(" + other + ", 1)", house.foot(other, 1), NONE);
            Check.same("foot(0, " + other + ")", house.foot(0, other), NONE);
        }
        Check.same("foot(0, 0)", house.foot(0, 0), 1);
        Check.same("foot(3, 1)", house.foot(3, 1), 7);
        Check.same("foot(4, 0)", house.foot(4, 0), NONE);
        Check.same("foot(4, 1)", house.foot(4, 1), NONE);
        Check.same("foot(3, 2)", house.foot(3, 2), NONE);
        Check.same("foot(0, 2)", house.foot(0, 2), NONE);
    }
}
