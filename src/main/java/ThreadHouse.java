import java.util.Arrays;
import java.util.NoSuchElementException;

/** A house for threads that feel; the promises stand in the document, by number. */
public final class ThreadHouse {
    public static final int NONE = -1;

    private static final int LAST_DAY = 999;
    private static final int MOST_FEET = 48;
    private static final int MOST_HOURS = 40;
    private static final int MOST_MENDED = 60;
    private static final int MOST_NOISES = 12;
    private static final int MOST_NOISE = 9;
    private static final int MOST_STRETCHES = 40;
    private static final int THERE_ARE_HOURS = -1000;
    private static final int UNEXPLAINED = -2;

    private final Tape tape = new Tape();
    private final Reader reader = new Reader();
    private final Body body = new Body();
    private final Unsmearer unsmearer = new Unsmearer();
    private final Explainer explainer = new Explainer();
    private final Walker walker = new Walker();
    private final Liner liner = new Liner();
    private final int[] gaugeFeet = new int[MOST_FEET];
    private int gaugesPlaced = 0;
    private Text told = new Text();
    private long[] ways = new long[2 * MOST_NOISES * MOST_NOISE + 1];
    private long[] waysOfOneMore = new long[2 * MOST_NOISES * MOST_NOISE + 1];
    private int today = 0;

    public ThreadHouse() {
    }

    public int feed(int a, int b, int c, int d, int e) {
        if (!tape.hasRoom(20)) {
            return NONE;
        }
        tape.put(a);
        tape.put(b);
        tape.put(c);
        tape.put(d);
        tape.put(e);
        return tape.length;
    }

    public boolean end(int n) {
        if (n < 0 || n > tape.length) {
            return false;
        }
        tape.length = n;
        return true;
    }

    public int next(int n) {
        if (n < 0 || n > LAST_DAY - today) {
            return NONE;
        }
        today += n;
        return today;
    }

    public int text() {
        int answer = THERE_ARE_HOURS;
        if (body.hours == 0) {
            boolean whole = reader.reads(tape);
            if (whole) {
                Text old = told;
                told = reader.text;
                reader.text = old;
            }
            answer = whole ? told.lines : -1 - reader.faultPlace;
        }
        tape.clear();
        return answer;
    }

    public int fault() {
        return reader.faultKind;
    }

    public int foot(int i, int what) {
        if (!told.hasFoot(i)) {
            return NONE;
        }
        if (what == 0) {
            return told.fixed[i] ? 1 : 0;
        }
        return what == 1 ? told.hold[i] : NONE;
    }

    public int hour() {
        int answer = NONE;
        if (body.hours < MOST_HOURS && body.isRow(tape, told.feet)) {
            answer = body.addHour(tape, today);
        }
        tape.clear();
        return answer;
    }

    public boolean mend(int h) {
        boolean mends = h >= 0 && h < body.hours && body.mended < MOST_MENDED
                && body.isRow(tape, told.feet);
        if (mends) {
            body.addMended(tape, today, h);
        }
        tape.clear();
        return mends;
    }

    public int felt(int i, int h, int t) throws NoSuchElementException {
        Feel feel = body.feelOf(told, h, t);
        if (feel == null || !told.hasFoot(i)) {
            throw new NoSuchElementException("no such foot or HOUR");
        }
        return feel.of(i);
    }

    public int slips(int h, int t) {
        Feel feel = body.feelOf(told, h, t);
        return feel == null ? NONE : feel.slips;
    }

    public int read(int i, int h, int t, int box) throws NoSuchElementException {
        Feel feel = body.feelOf(told, h, t);
        if (feel == null || !told.hasFoot(i) || box < 0 || box > 1) {
            throw new NoSuchElementException("no such foot, HOUR or BOX");
        }
        int pull = box == 0 ? told.pull : 0;
        return 2 * feel.sensed(i, pull, told.heat)
                + feel.sensed(i - 1, pull, told.heat)
                + feel.sensed(i + 1, pull, told.heat);
    }

    public int alarm(int k, int h, int t) {
        Feel feel = body.feelOf(told, h, t);
        if (feel == null || k < 0 || k >= told.alarms) {
            return NONE;
        }
        return told.alarmIsAt(k, feel) ? 1 : 0;
    }

    public int alarmed(int k, int t) {
        if (k < 0 || k >= told.alarms) {
            return NONE;
        }
        return body.firstAlarmed(told, k, t);
    }

    public long tellings() {
        long answer = NONE;
        if (tape.length == 2 * told.feet) {
            answer = unsmearer.unsmear(tape, told.feet, told.noise);
        }
        tape.clear();
        return answer;
    }

    public int mayFeel(int i, int what) throws NoSuchElementException {
        if (i < 0 || i >= unsmearer.feet || what < 0 || what > 1) {
            throw new NoSuchElementException("no such TELLINGS, foot or what");
        }
        return what == 0 ? unsmearer.least[i] : unsmearer.most[i];
    }

    public boolean shape(int k) {
        boolean takes = explainer.takesShape(k, tape);
        tape.clear();
        return takes;
    }

    public int explain() {
        int answer = NONE;
        if (tape.length == told.feet) {
            answer = explainer.fewestEvents(tape, told.feet, told.noise);
        }
        tape.clear();
        return answer;
    }

    public int event(int k, int what) {
        if (k < 0 || k >= explainer.events) {
            return NONE;
        }
        switch (what) {
            case 0:
                return explainer.eventShape[k];
            case 1:
                return explainer.eventFoot[k];
            case 2:
                return explainer.eventTimes[k];
            default:
                return NONE;
        }
    }

    public int walk(int a, int b, int far, int t) {
        if (a < 0 || a > b || far < 0 || far >= MOST_FEET) {
            return NONE;
        }
        Feel last = body.feelOf(told, b, t);
        return last == null ? NONE : walker.loudest(last, b - a + 1, far, told.feet);
    }

    public int walked(int k) {
        return k >= 0 && k < walker.hours ? walker.route[k] : NONE;
    }

    public int lined(int n, int gap) {
        int answer = NONE;
        if (liner.areRows(tape.length, n) && gap >= 0 && gap <= 255) {
            answer = liner.leastCost(tape, n, gap);
        }
        tape.clear();
        return answer;
    }

    public int paired(int k) {
        return k >= 0 && k < liner.firstLength ? liner.partner[k] : NONE;
    }

    public long falseShare(int k, int above, int what) throws NoSuchElementException {
        if (k < 1 || k > MOST_NOISES || what < 0 || what > 1) {
            throw new NoSuchElementException("no such number of noises or what");
        }
        long all = countWays(k);
        long some = waysAbove(k * told.noise, above);
        long divisor = commonDivisor(all, some);
        return (what == 0 ? some : all) / (divisor < 1 ? 1 : divisor);
    }

    /** Ways to each sum of k noises, the least sum first; their number in all. */
    private long countWays(int k) {
        int choices = 2 * told.noise + 1;
        long all = 1;
        Arrays.fill(ways, 0);
        ways[0] = 1;
        for (int noises = 0; noises < k; noises++) {
            addNoise(choices);
            all *= choices;
        }
        return all;
    }

    /** Each new sum comes of a window of old ones, so the window's total is carried along. */
    private void addNoise(int choices) {
        long window = 0;
        for (int sum = 0; sum < ways.length; sum++) {
            window += ways[sum];
            if (sum >= choices) {
                window -= ways[sum - choices];
            }
            waysOfOneMore[sum] = window;
        }
        long[] old = ways;
        ways = waysOfOneMore;
        waysOfOneMore = old;
    }

    private long waysAbove(int greatest, int above) {
        long some = 0;
        for (int sum = -greatest; sum <= greatest && sum + greatest < ways.length; sum++) {
            if (sum > above) {
                some += ways[sum + greatest];
            }
        }
        return some;
    }

    private static long commonDivisor(long a, long b) {
        long divisor = a;
        long rest = b;
        // Euclid's steps for two longs are fewer than a hundred.
        for (int step = 0; step < 100 && rest != 0; step++) {
            long left = divisor % rest;
            divisor = rest;
            rest = left;
        }
        return divisor;
    }

    public int gauges() {
        int answer = NONE;
        if (areStretches()) {
            answer = placeGauges();
        }
        tape.clear();
        return answer;
    }

    private boolean areStretches() {
        int stretches = tape.length / 2;
        if (tape.length % 2 != 0 || stretches < 1 || stretches > MOST_STRETCHES) {
            return false;
        }
        for (int s = 0; s < stretches; s++) {
            int last = tape.unsigned(2 * s + 1);
            if (tape.unsigned(2 * s) > last || last >= told.feet) {
                return false;
            }
        }
        return true;
    }

    /** A stretch that has no GAUGE in it by its last foot needs one there; none can be further on. */
    private int placeGauges() {
        gaugesPlaced = 0;
        int latest = NONE;
        for (int i = 0; i < told.feet && i < MOST_FEET; i++) {
            if (endsUngauged(i, latest)) {
                gaugeFeet[gaugesPlaced] = i;
                gaugesPlaced++;
                latest = i;
            }
        }
        return gaugesPlaced;
    }

    private boolean endsUngauged(int i, int latest) {
        for (int s = 0; s < tape.length / 2; s++) {
            if (tape.unsigned(2 * s + 1) == i && tape.unsigned(2 * s) > latest) {
                return true;
            }
        }
        return false;
    }

    public int gauge(int k) {
        return k >= 0 && k < gaugesPlaced ? gaugeFeet[k] : NONE;
    }

    public int count(int what) {
        switch (what) {
            case 0:
                return today;
            case 1:
                return told.feet;
            case 2:
                return body.hours;
            case 3:
                return told.alarms;
            case 4:
                return body.mended;
            case 5:
                return tape.length;
            default:
                return NONE;
        }
    }

    /** The bytes that were fed and not used yet. */
    private static final class Tape {
        private static final int MOST_BYTES = 440;

        private final byte[] bytes = new byte[MOST_BYTES];
        private int length = 0;

        boolean hasRoom(int more) {
            return length + more <= MOST_BYTES;
        }

        void put(int number) {
            for (int shift = 24; shift >= 0 && length < MOST_BYTES; shift -= 8) {
                bytes[length] = (byte) (number >> shift);
                length++;
            }
        }

        void clear() {
            length = 0;
        }

        int signed(int i) {
            return i >= 0 && i < length ? bytes[i] : 0;
        }

        int unsigned(int i) {
            return signed(i) & 255;
        }

        int signedPair(int i) {
            return (signed(2 * i) << 8) | unsigned(2 * i + 1);
        }

        boolean allWithin(int from, int to, int most) {
            for (int i = from; i < to; i++) {
                if (signed(i) < -most || signed(i) > most) {
                    return false;
                }
            }
            return true;
        }

        byte[] copy() {
            return Arrays.copyOf(bytes, length);
        }
    }

    /** Kinds of TOKENS; those that are always written alike know how. */
    private enum Token {
        AT_END(""), NO_TOKEN(""), NUMBER(""),
        SEMICOLON(";"), OPEN("("), CLOSE(")"), LESS("<"), EQUAL("="), MORE(">"),
        FEET("feet"), FIXED("fixed"), TO("to"), HOLDS("holds"), FROM("from"),
        PULL("pull"), HEAT("heat"), NOISE("noise"), ALARM("alarm"), FOR("for"),
        OR("or"), AND("and"), NOT("not"),
        PEAK("peak"), SUM("sum"), SLIPS("slips"), HOUR("hour"), AT("at");

        private final String written;

        Token(String written) {
            this.written = written;
        }
    }

    /** What a TEXT tells. Its CONDS stand as steps, ONES ahead of what joins or turns them. */
    private static final class Text {
        private static final int FEET_WITHOUT = 24;
        private static final int HOLD_WITHOUT = 10;
        private static final int MOST_ALARMS = 6;
        /** Each of 40 ONES gives one step at most, and joining them takes fewer. */
        private static final int MOST_STEPS = 80;

        private int feet;
        private int pull;
        private int heat;
        private int noise;
        private int lines;
        private int alarms;
        private int steps;
        private final boolean[] fixed = new boolean[MOST_FEET];
        private final int[] hold = new int[MOST_FEET];
        private final int[] alarmHours = new int[MOST_ALARMS];
        private final int[] alarmEnd = new int[MOST_ALARMS];
        private final Token[] stepKind = new Token[MOST_STEPS];
        private final Token[] stepSign = new Token[MOST_STEPS];
        private final int[] stepFoot = new int[MOST_STEPS];
        private final int[] stepNumber = new int[MOST_STEPS];

        Text() {
            empty();
        }

        private void empty() {
            feet = FEET_WITHOUT;
            pull = 1;
            heat = 1;
            noise = 0;
            lines = 0;
            alarms = 0;
            steps = 0;
            Arrays.fill(hold, HOLD_WITHOUT);
            for (int i = 0; i < MOST_FEET; i++) {
                fixed[i] = false;
            }
        }

        boolean hasFoot(int i) {
            return i >= 0 && i < feet;
        }

        void fix(int first, int last) {
            for (int i = first; i <= last && hasFoot(i); i++) {
                fixed[i] = true;
            }
        }

        void holdBy(int much, int first, int last) {
            for (int i = first; i <= last && hasFoot(i); i++) {
                hold[i] = much;
            }
        }

        /** Whether a unit slips between foot i and the one behind it. */
        boolean slipsAt(int i, int[] feels) {
            if (i < 0 || i + 1 >= feels.length || i + 1 >= feet || fixed[i] || fixed[i + 1]) {
                return false;
            }
            int more = feels[i] - feels[i + 1];
            return more > hold[i] || -more > hold[i];
        }

        void addMeasured(Token measure, int footAsked, Token sign, int number) {
            if (steps < MOST_STEPS) {
                stepFoot[steps] = footAsked;
                stepSign[steps] = sign;
                stepNumber[steps] = number;
                addStep(measure);
            }
        }

        void addStep(Token kind) {
            if (steps < MOST_STEPS) {
                stepKind[steps] = kind;
                steps++;
            }
        }

        void addAlarm(int hours) {
            if (alarms < MOST_ALARMS) {
                alarmHours[alarms] = hours;
                alarmEnd[alarms] = steps;
                alarms++;
            }
        }

        boolean alarmIsAt(int k, Feel last) {
            if (k < 0 || k >= alarms) {
                return false;
            }
            Feel feel = last;
            for (int hours = 0; hours < alarmHours[k]; hours++) {
                if (feel == null || feel.ahead == null || !holds(k, feel)) {
                    return false;
                }
                feel = feel.ahead;
            }
            return true;
        }

        /** Answers that wait are bits, the latest the lowest: those of 40 ONES fit in a long. */
        private boolean holds(int k, Feel feel) {
            long waiting = 0;
            for (int s = k == 0 ? 0 : alarmEnd[k - 1]; s < alarmEnd[k]; s++) {
                if (stepKind[s] == Token.NOT) {
                    waiting ^= 1;
                } else if (stepKind[s] == Token.AND) {
                    waiting = (waiting >> 1) & ((waiting & 1) | ~1L);
                } else if (stepKind[s] == Token.OR) {
                    waiting = (waiting >> 1) | (waiting & 1);
                } else {
                    waiting = (waiting << 1) | (isSo(s, feel) ? 1 : 0);
                }
            }
            return (waiting & 1) == 1;
        }

        private boolean isSo(int s, Feel feel) {
            int measured = measure(s, feel);
            if (stepSign[s] == Token.LESS) {
                return measured < stepNumber[s];
            }
            return stepSign[s] == Token.EQUAL ? measured == stepNumber[s] : measured > stepNumber[s];
        }

        private int measure(int s, Feel feel) {
            if (stepKind[s] == Token.PEAK) {
                return feel.peak;
            }
            if (stepKind[s] == Token.SUM) {
                return feel.sum;
            }
            if (stepKind[s] == Token.SLIPS) {
                return feel.slips;
            }
            return stepKind[s] == Token.HOUR ? feel.row.hour : feel.loudness(stepFoot[s]);
        }
    }

    /** Reads a tape as a TEXT, TOKEN by TOKEN, up to its end or its first FAULT. */
    private static final class Reader {
        private static final Token[] TOKENS = Token.values();
        private static final int MOST_BYTES = 400;
        private static final int MOST_DIGITS = 4;
        private static final int LEAST_FEET = 4;
        private static final int MOST_HOLD = 99;
        private static final int MOST_SETTING = 9;
        private static final int MOST_ALARM_HOURS = 9;
        private static final int MOST_LINES = 24;
        private static final int MOST_ONES = 40;
        private static final int MOST_WITHIN = 10;
        private static final int MOST_NUMBER = 9999;
        private static final int CAN_NOT_COME = 1;
        private static final int NOT_AS_TOLD = 2;
        private static final int TOO_OFTEN = 3;
        private static final int TOO_MANY_ONES = 4;

        private final Token[] kinds = new Token[MOST_BYTES + 1];
        private final int[] places = new int[MOST_BYTES + 1];
        private final int[] values = new int[MOST_BYTES + 1];
        private int tokens = 0;
        /** Changed places with the TEXT in force when it is whole, so that a FAULT leaves that alone. */
        private Text text = new Text();
        private int at = 0;
        private Token kind = Token.AT_END;
        private int taken = 0;
        private int ones = 0;
        private boolean pullTold = false;
        private boolean heatTold = false;
        private boolean noiseTold = false;
        private int faultKind = 0;
        private int faultPlace = 0;

        boolean reads(Tape tape) {
            text.empty();
            scan(tape);
            at = NONE;
            advance();
            ones = 0;
            pullTold = false;
            heatTold = false;
            noiseTold = false;
            faultKind = 0;
            if (kind == Token.FEET && !readFeet()) {
                return false;
            }
            // A round more than there may be LINES finds the one too many.
            for (int line = 0; line <= MOST_LINES && kind != Token.AT_END; line++) {
                if (!readLine() || !take(Token.SEMICOLON)) {
                    return false;
                }
            }
            return tape.length <= MOST_BYTES || faulty(CAN_NOT_COME);
        }

        /** TOKENS that begin ahead of the limit are read whole. */
        private void scan(Tape tape) {
            int limit = Math.min(tape.length, MOST_BYTES);
            tokens = 0;
            int from = 0;
            // Each round goes on by a byte at least.
            for (int round = 0; round < MOST_BYTES && from < limit; round++) {
                int behind = behindRun(tape, from);
                int sign = tape.unsigned(from);
                if (sign != ' ' && sign != '\n') {
                    addToken(tokenOf(tape, from, behind), from, numberOf(tape, from, behind));
                }
                from = behind;
            }
            addToken(Token.AT_END, limit, 0);
        }

        private void addToken(Token token, int place, int value) {
            if (tokens <= MOST_BYTES) {
                kinds[tokens] = token;
                places[tokens] = place;
                values[tokens] = value;
                tokens++;
            }
        }

        private static boolean isDigit(int sign) {
            return sign >= '0' && sign <= '9';
        }

        private static int behindRun(Tape tape, int from) {
            int behind = from;
            while (behind < tape.length && (isDigit(tape.unsigned(behind))
                    || (tape.unsigned(behind) >= 'a' && tape.unsigned(behind) <= 'z'))) {
                behind++;
            }
            return Math.max(behind, from + 1);
        }

        /** A WORD that is none of the known ones can't come anywhere: it is like no TOKEN. */
        private static Token tokenOf(Tape tape, int from, int behind) {
            for (int t = 0; t < TOKENS.length; t++) {
                if (isWritten(TOKENS[t].written, tape, from, behind)) {
                    return TOKENS[t];
                }
            }
            for (int i = from; i < behind; i++) {
                if (!isDigit(tape.unsigned(i))) {
                    return Token.NO_TOKEN;
                }
            }
            return behind - from <= MOST_DIGITS ? Token.NUMBER : Token.NO_TOKEN;
        }

        private static boolean isWritten(String written, Tape tape, int from, int behind) {
            if (written.length() != behind - from) {
                return false;
            }
            for (int i = 0; i < written.length(); i++) {
                if (tape.unsigned(from + i) != written.charAt(i)) {
                    return false;
                }
            }
            return true;
        }

        private static int numberOf(Tape tape, int from, int behind) {
            int number = 0;
            for (int i = from; i < behind && i < from + MOST_DIGITS; i++) {
                number = number * 10 + tape.unsigned(i) - '0';
            }
            return number;
        }

        private void advance() {
            if (at + 1 < tokens) {
                at++;
                kind = kinds[at];
            }
        }

        private boolean faulty(int faultKindHere) {
            faultKind = faultKindHere;
            faultPlace = at >= 0 && at < tokens ? places[at] : 0;
            return false;
        }

        private boolean take(Token wanted) {
            if (kind != wanted) {
                return faulty(CAN_NOT_COME);
            }
            advance();
            return true;
        }

        private boolean takeNumber(int least, int most) {
            if (kind != Token.NUMBER || at < 0 || at >= tokens) {
                return faulty(CAN_NOT_COME);
            }
            if (values[at] < least || values[at] > most) {
                return faulty(NOT_AS_TOLD);
            }
            taken = values[at];
            advance();
            return true;
        }

        private boolean readFeet() {
            advance();
            if (!takeNumber(LEAST_FEET, MOST_FEET)) {
                return false;
            }
            text.feet = taken;
            return take(Token.SEMICOLON);
        }

        private boolean readLine() {
            Token word = kind;
            if (!beginsLine(word)) {
                return faulty(CAN_NOT_COME);
            }
            if (text.lines >= MOST_LINES || isTooOften(word)) {
                return faulty(TOO_OFTEN);
            }
            text.lines++;
            advance();
            if (word == Token.FIXED) {
                return readFixed();
            }
            if (word == Token.HOLDS) {
                return readHolds();
            }
            if (word != Token.ALARM) {
                return readSetting(word);
            }
            if (!readCond(1) || !take(Token.FOR) || !takeNumber(1, MOST_ALARM_HOURS)) {
                return false;
            }
            text.addAlarm(taken);
            return true;
        }

        private static boolean beginsLine(Token word) {
            return word == Token.FIXED || word == Token.HOLDS || word == Token.PULL
                    || word == Token.HEAT || word == Token.NOISE || word == Token.ALARM;
        }

        private boolean isTooOften(Token word) {
            return (word == Token.PULL && pullTold) || (word == Token.HEAT && heatTold)
                    || (word == Token.NOISE && noiseTold)
                    || (word == Token.ALARM && text.alarms >= Text.MOST_ALARMS);
        }

        private boolean readFixed() {
            if (!takeNumber(0, text.feet - 1)) {
                return false;
            }
            int first = taken;
            if (!take(Token.TO) || !takeNumber(first, text.feet - 1)) {
                return false;
            }
            text.fix(first, taken);
            return true;
        }

        private boolean readHolds() {
            if (!takeNumber(1, MOST_HOLD)) {
                return false;
            }
            int much = taken;
            if (!take(Token.FROM) || !takeNumber(0, text.feet - 1)) {
                return false;
            }
            int first = taken;
            if (!take(Token.TO) || !takeNumber(first, text.feet - 1)) {
                return false;
            }
            text.holdBy(much, first, taken);
            return true;
        }

        private boolean readSetting(Token word) {
            if (!takeNumber(word == Token.NOISE ? 0 : 1, MOST_SETTING)) {
                return false;
            }
            if (word == Token.PULL) {
                text.pull = taken;
                pullTold = true;
            } else if (word == Token.HEAT) {
                text.heat = taken;
                heatTold = true;
            } else {
                text.noise = taken;
                noiseTold = true;
            }
            return true;
        }

        private boolean readCond(int within) {
            // The round too many still looks at its TOKEN: one that can't come is the lesser FAULT.
            for (int alls = 0; alls <= MOST_ONES; alls++) {
                if (!readOne(within)) {
                    return false;
                }
                for (int more = 0; more <= MOST_ONES && kind == Token.AND; more++) {
                    advance();
                    if (!readOne(within)) {
                        return false;
                    }
                    text.addStep(Token.AND);
                }
                if (alls > 0) {
                    text.addStep(Token.OR);
                }
                if (kind != Token.OR) {
                    return true;
                }
                advance();
            }
            return faulty(TOO_MANY_ONES);
        }

        private boolean readOne(int within) {
            Token first = kind;
            if (first != Token.NOT && first != Token.OPEN && !isMeasure(first)) {
                return faulty(CAN_NOT_COME);
            }
            if (ones >= MOST_ONES || within > MOST_WITHIN) {
                return faulty(TOO_MANY_ONES);
            }
            ones++;
            advance();
            if (first == Token.OPEN) {
                return readCond(within + 1) && take(Token.CLOSE);
            }
            if (first != Token.NOT) {
                return readMeasured(first);
            }
            if (!readOne(within + 1)) {
                return false;
            }
            text.addStep(Token.NOT);
            return true;
        }

        private static boolean isMeasure(Token token) {
            return token == Token.PEAK || token == Token.SUM || token == Token.SLIPS
                    || token == Token.HOUR || token == Token.AT;
        }

        private boolean readMeasured(Token measure) {
            int footAsked = 0;
            if (measure == Token.AT) {
                if (!takeNumber(0, text.feet - 1)) {
                    return false;
                }
                footAsked = taken;
            }
            Token sign = kind;
            if (sign != Token.LESS && sign != Token.EQUAL && sign != Token.MORE) {
                return faulty(CAN_NOT_COME);
            }
            advance();
            if (!takeNumber(0, MOST_NUMBER)) {
                return false;
            }
            text.addMeasured(measure, footAsked, sign, taken);
            return true;
        }
    }

    /** One telling of an HOUR: the body's stretch, then its warmth, foot by foot. */
    private static final class Row {
        private final byte[] numbers;
        private final int hour;
        private final int day;

        Row(byte[] numbers, int hour, int day) {
            this.numbers = numbers;
            this.hour = hour;
            this.day = day;
        }

        int stretch(int i) {
            return i >= 0 && i < numbers.length / 2 ? numbers[i] : 0;
        }

        int warmth(int i) {
            int half = numbers.length / 2;
            return i >= 0 && i < half && half + i < numbers.length ? numbers[half + i] : 0;
        }
    }

    /**
     * What the feet feel in an HOUR behind told rows. Days that share their first rows share
     * these too, as a tree: so no HOUR's slipping is worked out twice.
     */
    private static final class Feel {
        private static final int MOST_SLIPS = 100000;
        /** Each SLIP goes back a foot at most, so twice the SLIPS and the feet are enough. */
        private static final int MOST_LOOKS = 2 * MOST_SLIPS + 2 * MOST_FEET;

        private final Row row;
        private final Feel ahead;
        private final int[] feels;
        private int slips = 0;
        private int peak = 0;
        private int sum = 0;
        private Feel latestBehind = null;
        private Feel likewiseBehind = null;

        Feel(Row row, Feel ahead, int feet) {
            this.row = row;
            this.ahead = ahead;
            this.feels = new int[feet < 0 ? 0 : feet];
        }

        int of(int i) {
            return i >= 0 && i < feels.length ? feels[i] : 0;
        }

        int sensed(int i, int pull, int heat) {
            return pull * of(i) + heat * row.warmth(i);
        }

        /** The CHANGE of a foot, without its sign. */
        int loudness(int i) {
            int change = ahead == null ? 0 : of(i) - ahead.of(i);
            return change < 0 ? -change : change;
        }

        Feel behindBy(Row rowBehind) {
            Feel feel = latestBehind;
            while (feel != null && feel.row != rowBehind) {
                feel = feel.likewiseBehind;
            }
            return feel;
        }

        void keepBehind(Feel feel) {
            feel.likewiseBehind = latestBehind;
            latestBehind = feel;
        }

        void settle(Text text) {
            if (ahead == null) {
                return;
            }
            for (int i = 0; i < feels.length; i++) {
                feels[i] = ahead.of(i) + row.stretch(i) - ahead.row.stretch(i);
            }
            slipAll(text);
            for (int i = 0; i < feels.length; i++) {
                int loudness = loudness(i);
                sum += loudness;
                peak = loudness > peak ? loudness : peak;
            }
        }

        /** Behind a SLIP at i only the pairs next to it are new: the first one to look at is i - 1. */
        private void slipAll(Text text) {
            int i = 0;
            for (int look = 0; look < MOST_LOOKS && i + 1 < feels.length; look++) {
                if (!text.slipsAt(i, feels)) {
                    i++;
                } else if (slips >= MOST_SLIPS) {
                    return;
                } else {
                    slipOne(i);
                    i = i > 0 ? i - 1 : 0;
                }
            }
        }

        private void slipOne(int i) {
            int back = feels[i] > feels[i + 1] ? 1 : -1;
            feels[i] -= back;
            feels[i + 1] += back;
            slips++;
        }
    }

    /** The rows told of the body, and what the thread feels AS OF each day. */
    private static final class Body {
        private static final int MOST_ROWS = MOST_HOURS + MOST_MENDED;
        private static final int MOST_STRETCH = 99;
        private static final int MOST_WARMTH = 50;

        private final Row[] rows = new Row[MOST_ROWS];
        private final Row[] inForce = new Row[MOST_HOURS];
        private final Feel start = new Feel(new Row(new byte[0], NONE, 0), null, 0);
        private int rowsTold = 0;
        private int hours = 0;
        private int mended = 0;

        boolean isRow(Tape tape, int feet) {
            return tape.length == 2 * feet && tape.allWithin(0, feet, MOST_STRETCH)
                    && tape.allWithin(feet, 2 * feet, MOST_WARMTH);
        }

        int addHour(Tape tape, int day) {
            if (hours >= MOST_HOURS) {
                return NONE;
            }
            addRow(new Row(tape.copy(), hours, day));
            hours++;
            return hours - 1;
        }

        void addMended(Tape tape, int day, int h) {
            addRow(new Row(tape.copy(), h, day));
            mended++;
        }

        private void addRow(Row row) {
            if (rowsTold < MOST_ROWS) {
                rows[rowsTold] = row;
                rowsTold++;
            }
        }

        /** Finds the rows in force AS OF a day; of how many HOURS there are some. */
        private int lookBack(int day) {
            int known = 0;
            for (int r = 0; r < rowsTold; r++) {
                Row row = rows[r];
                if (row == null || row.day > day) {
                    return known;
                }
                if (row.hour >= 0 && row.hour < MOST_HOURS) {
                    inForce[row.hour] = row;
                    known = row.hour >= known ? row.hour + 1 : known;
                }
            }
            return known;
        }

        /** Null where there is no such HOUR AS OF the day. */
        Feel feelOf(Text text, int h, int day) {
            if (h < 0 || h >= lookBack(day)) {
                return null;
            }
            Feel feel = start;
            for (int i = 0; i <= h && i < MOST_HOURS; i++) {
                feel = feelBehind(text, feel, inForce[i]);
            }
            return feel;
        }

        private Feel feelBehind(Text text, Feel ahead, Row row) {
            Feel known = ahead.behindBy(row);
            if (known != null || row == null) {
                return known == null ? ahead : known;
            }
            Feel feel = new Feel(row, ahead, text.feet);
            feel.settle(text);
            ahead.keepBehind(feel);
            return feel;
        }

        int firstAlarmed(Text text, int k, int day) {
            int known = lookBack(day);
            Feel feel = start;
            for (int h = 0; h < known && h < MOST_HOURS; h++) {
                feel = feelBehind(text, feel, inForce[h]);
                if (text.alarmIsAt(k, feel)) {
                    return h;
                }
            }
            return NONE;
        }
    }

    /** Counts the TELLINGS of a smeared row; what a foot feels is held as 15 more, from 0 on. */
    private static final class Unsmearer {
        private static final int MOST_FELT = 15;
        private static final int SPAN = 2 * MOST_FELT + 1;
        private static final long MOST_TELLINGS = 1000000000000000L;

        private final int[] least = new int[MOST_FEET];
        private final int[] most = new int[MOST_FEET];
        private int feet = 0;
        /** For a foot's feeling (times SPAN) and the one's behind it: ways to feel so up to there. */
        private long[] waysHere = new long[SPAN * SPAN];
        private long[] waysBehind = new long[SPAN * SPAN];
        private final long[] waysBelow = new long[SPAN + 1];
        /** For each foot and its feeling: which feelings of the foot ahead lead to it, as bits. */
        private final int[] reached = new int[MOST_FEET * SPAN];
        /** For the feeling of the foot ahead: which ones of a foot can be gone on from, as bits. */
        private int[] goesOnHere = new int[SPAN];
        private int[] goesOnBehind = new int[SPAN];

        long unsmear(Tape row, int rowFeet, int noise) {
            Arrays.fill(waysHere, 0);
            for (int b = 0; b < SPAN; b++) {
                waysHere[MOST_FELT * SPAN + b] = 1;
            }
            for (int i = 0; i < rowFeet; i++) {
                goPast(i, row.signedPair(i), noise);
            }
            long tellings = 0;
            for (int b = 0; b < SPAN; b++) {
                tellings = atMost(tellings + waysHere[b * SPAN + MOST_FELT]);
            }
            if (tellings > 0) {
                noteBounds(row, rowFeet, noise);
            }
            return tellings;
        }

        private static long atMost(long tellings) {
            return tellings < MOST_TELLINGS ? tellings : MOST_TELLINGS;
        }

        /** What the sum of the two outer feelings must be at, as held, for the row's number. */
        private static int outerSum(int number, int b) {
            return number - 2 * (b - MOST_FELT) + 2 * MOST_FELT;
        }

        private void goPast(int i, int number, int noise) {
            for (int b = 0; b < SPAN; b++) {
                sumWays(i, b);
                int outer = outerSum(number, b);
                for (int c = 0; c < SPAN; c++) {
                    int from = Math.max(0, outer - noise - c);
                    int to = Math.min(SPAN - 1, outer + noise - c);
                    long fitting = from <= to ? waysBelow[to + 1] - waysBelow[from] : 0;
                    waysBehind[b * SPAN + c] = atMost(fitting);
                }
            }
            long[] old = waysHere;
            waysHere = waysBehind;
            waysBehind = old;
        }

        private void sumWays(int i, int b) {
            int from = 0;
            for (int a = 0; a < SPAN; a++) {
                long count = waysHere[a * SPAN + b];
                waysBelow[a + 1] = waysBelow[a] + count;
                if (count > 0) {
                    from |= 1 << a;
                }
            }
            if (i >= 0 && i < MOST_FEET) {
                reached[i * SPAN + b] = from;
            }
        }

        private void noteBounds(Tape row, int rowFeet, int noise) {
            feet = rowFeet;
            // Behind the last foot there is none: it feels 0.
            Arrays.fill(goesOnBehind, 1 << MOST_FELT);
            for (int i = rowFeet - 1; i >= 0 && i < MOST_FEET; i--) {
                least[i] = MOST_FELT;
                most[i] = -MOST_FELT;
                Arrays.fill(goesOnHere, 0);
                for (int b = 0; b < SPAN; b++) {
                    if ((goOn(b, outerSum(row.signedPair(i), b), noise) & reached[i * SPAN + b]) != 0) {
                        least[i] = Math.min(least[i], b - MOST_FELT);
                        most[i] = Math.max(most[i], b - MOST_FELT);
                    }
                }
                int[] old = goesOnBehind;
                goesOnBehind = goesOnHere;
                goesOnHere = old;
            }
        }

        /** Which feelings ahead of b can be gone on from through b, as bits. */
        private int goOn(int b, int outer, int noise) {
            int ahead = 0;
            for (int a = 0; a < SPAN; a++) {
                if ((bits(outer - noise - a, outer + noise - a) & goesOnBehind[b]) != 0) {
                    ahead |= 1 << a;
                    goesOnHere[a] |= 1 << b;
                }
            }
            return ahead;
        }

        private static int bits(int from, int to) {
            int low = Math.max(0, from);
            int high = Math.min(SPAN - 1, to);
            return low > high ? 0 : ((1 << (high + 1)) - 1) & ~((1 << low) - 1);
        }
    }

    /** The SHAPES, and the fewest EVENTS of them that explain a row. */
    private static final class Explainer {
        private static final int MOST_SHAPES = 6;
        private static final int MOST_LENGTH = 9;
        private static final int MOST_TIMES = 5;
        private static final int MOST_TOLD = 99;
        private static final int CAN_NOT = 1000;
        private static final int NO_EVENT = 0;

        private final int[] shapeLength = new int[MOST_SHAPES];
        private final int[] shapes = new int[MOST_SHAPES * MOST_LENGTH];
        private final int[] fewest = new int[MOST_FEET + 1];
        private final int[] bestShape = new int[MOST_FEET];
        private final int[] bestTimes = new int[MOST_FEET];
        private final int[] eventShape = new int[MOST_FEET];
        private final int[] eventFoot = new int[MOST_FEET];
        private final int[] eventTimes = new int[MOST_FEET];
        private int events = 0;

        boolean takesShape(int k, Tape tape) {
            boolean asTold = k >= 0 && k < MOST_SHAPES && tape.length >= 1
                    && tape.length <= MOST_LENGTH && tape.signed(0) != 0
                    && tape.allWithin(0, tape.length, MOST_TOLD);
            if (asTold) {
                shapeLength[k] = tape.length;
                for (int j = 0; j < tape.length; j++) {
                    shapes[k * MOST_LENGTH + j] = tape.signed(j);
                }
            }
            return asTold;
        }

        int fewestEvents(Tape row, int feet, int noise) {
            if (feet < 0 || feet > MOST_FEET) {
                return UNEXPLAINED;
            }
            fewest[feet] = 0;
            for (int i = feet - 1; i >= 0; i--) {
                chooseAt(i, row, feet, noise);
            }
            if (fewest[0] >= CAN_NOT) {
                return UNEXPLAINED;
            }
            noteEvents(feet);
            return events;
        }

        /** Ways are tried in the order in which they come first, so only a better one replaces. */
        private void chooseAt(int i, Tape row, int feet, int noise) {
            boolean quiet = isNear(row.signed(i), 0, noise);
            fewest[i] = quiet ? fewest[i + 1] : CAN_NOT;
            bestTimes[i] = NO_EVENT;
            for (int k = 0; k < MOST_SHAPES; k++) {
                int behind = i + shapeLength[k];
                if (shapeLength[k] == 0 || behind > feet || fewest[behind] + 1 >= fewest[i]) {
                    continue;
                }
                int times = leastTimes(k, i, row, noise);
                if (times != NO_EVENT) {
                    fewest[i] = fewest[behind] + 1;
                    bestShape[i] = k;
                    bestTimes[i] = times;
                }
            }
        }

        private int leastTimes(int k, int i, Tape row, int noise) {
            for (int times = 1; times <= MOST_TIMES; times++) {
                if (fits(k, times, i, row, noise)) {
                    return times;
                }
            }
            return NO_EVENT;
        }

        private boolean fits(int k, int times, int i, Tape row, int noise) {
            for (int j = 0; j < shapeLength[k]; j++) {
                if (!isNear(row.signed(i + j), times * shapes[k * MOST_LENGTH + j], noise)) {
                    return false;
                }
            }
            return true;
        }

        private static boolean isNear(int number, int told, int noise) {
            return number - told <= noise && told - number <= noise;
        }

        private void noteEvents(int feet) {
            events = 0;
            int i = 0;
            while (i < feet && events < MOST_FEET) {
                if (bestTimes[i] == NO_EVENT) {
                    i++;
                } else {
                    eventShape[events] = bestShape[i];
                    eventFoot[events] = i;
                    eventTimes[events] = bestTimes[i];
                    events++;
                    i += shapeLength[bestShape[i]];
                }
            }
        }
    }

    /** The loudest WALK, worked out from its last HOUR back to its first. */
    private static final class Walker {
        private final int[] route = new int[MOST_HOURS];
        private int hours = 0;
        private final byte[] footBehind = new byte[MOST_HOURS * MOST_FEET];
        private int[] loudestHere = new int[MOST_FEET];
        private int[] loudestBehind = new int[MOST_FEET];

        int loudest(Feel last, int walkHours, int far, int feet) {
            if (walkHours < 1 || walkHours > MOST_HOURS || feet < 1 || feet > MOST_FEET) {
                return NONE;
            }
            Arrays.fill(loudestBehind, 0);
            Feel feel = last;
            for (int h = walkHours - 1; h >= 0 && feel != null; h--) {
                goBack(feel, h, far, feet);
                feel = feel.ahead;
            }
            hours = walkHours;
            route[0] = firstLoudest(0, feet - 1);
            for (int h = 1; h < walkHours; h++) {
                route[h] = footBehind[(h - 1) * MOST_FEET + route[h - 1]];
            }
            return loudestBehind[route[0]];
        }

        private void goBack(Feel feel, int h, int far, int feet) {
            int best = firstLoudest(0, Math.min(far, feet - 1));
            for (int i = 0; i < feet; i++) {
                int entering = i + far;
                if (best < i - far) {
                    best = firstLoudest(i - far, Math.min(entering, feet - 1));
                } else if (entering < feet && loudestBehind[entering] > loudestBehind[best]) {
                    best = entering;
                }
                footBehind[h * MOST_FEET + i] = (byte) best;
                loudestHere[i] = feel.loudness(i) + loudestBehind[best];
            }
            int[] old = loudestBehind;
            loudestBehind = loudestHere;
            loudestHere = old;
        }

        private int firstLoudest(int from, int to) {
            int best = from;
            for (int i = from + 1; i <= to; i++) {
                if (loudestBehind[i] > loudestBehind[best]) {
                    best = i;
                }
            }
            return best;
        }
    }

    /** LINED UP: costs of what is still to line up, worked out from the right. */
    private static final class Liner {
        private static final int MOST_LENGTH = 48;
        private static final int SIDE = MOST_LENGTH + 1;

        private final int[] partner = new int[MOST_LENGTH];
        private int firstLength = 0;
        private final int[] cost = new int[SIDE * SIDE];

        boolean areRows(int bytes, int n) {
            return n >= 0 && n <= MOST_LENGTH && n <= bytes && bytes - n <= MOST_LENGTH;
        }

        int leastCost(Tape tape, int n, int gap) {
            int m = tape.length - n;
            if (!areRows(tape.length, n)) {
                return NONE;
            }
            for (int i = n; i >= 0; i--) {
                for (int j = m; j >= 0; j--) {
                    cost[i * SIDE + j] = costFrom(tape, n, gap, i, j);
                }
            }
            notePairs(tape, n, gap);
            return cost[0];
        }

        private int costFrom(Tape tape, int n, int gap, int i, int j) {
            int m = tape.length - n;
            if (i == n) {
                return (m - j) * gap;
            }
            if (j == m) {
                return (n - i) * gap;
            }
            int alone = Math.min(cost[(i + 1) * SIDE + j], cost[i * SIDE + j + 1]) + gap;
            return Math.min(alone, costPaired(tape, n, i, j));
        }

        private int costPaired(Tape tape, int n, int i, int j) {
            int difference = tape.unsigned(i) - tape.unsigned(n + j);
            return Math.abs(difference) + cost[(i + 1) * SIDE + j + 1];
        }

        private void notePairs(Tape tape, int n, int gap) {
            int m = tape.length - n;
            firstLength = n;
            Arrays.fill(partner, NONE);
            int i = 0;
            int j = 0;
            while (i < n && j < m) {
                int here = cost[i * SIDE + j];
                if (here == costPaired(tape, n, i, j)) {
                    partner[i] = j;
                    i++;
                    j++;
                } else if (here == cost[(i + 1) * SIDE + j] + gap) {
                    i++;
                } else {
                    j++;
                }
            }
        }
    }
}
