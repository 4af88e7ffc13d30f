import java.util.Arrays;
import java.util.NoSuchElementException;

/** A store of series that thin with age; ../shared/DOC.md says what each call promises. */
public final class ThinSeries {
    public static final int NONE = -1;
    public static final int EMPTY = -20000;

    private static final int TAPE_LIMIT = 600;
    private static final int IDS = 10;
    private static final int TIME_LIMIT = 1000000;
    private static final int VALUE_LIMIT = 10000;
    private static final int SHEET_LIMIT = 60;
    private static final int BAR_LIMIT = 1000000;

    private static final int CANNOT_BE = 1;
    private static final int TOO_LATE = 2;
    private static final int NO_SERIES = 3;
    private static final int LINE_REFUSED = 4;

    private final byte[] tape = new byte[TAPE_LIMIT];
    private final Tokens tokens = new Tokens(tape);
    private final PlanReader planReader = new PlanReader(tokens);
    private final BatchReader batchReader = new BatchReader(tokens);
    private final Roster roster = new Roster();
    private final Roster trial = new Roster();
    private final Series[] rows = new Series[IDS];
    private final Tally inside = new Tally();
    private final Tally partly = new Tally();
    private final int[] answers = new int[4];
    private final int[] trialSeams = new int[Plan.TIER_LIMIT];
    private final int[] latestWhy = {0, 0, NONE, NONE};
    private Plan plan = new Plan();
    private Plan sparePlan = new Plan();
    private int tapeLength = 0;
    private int faultPlace = NONE;
    private int pushedOut = 0;
    private int lateEver = 0;
    private int lostEver = 0;

    public ThinSeries() {
    }

    public int feed(int a, int b, int c, int d, int e) {
        if (tapeLength > TAPE_LIMIT - 20) {
            return NONE;
        }
        appendToTape(a);
        appendToTape(b);
        appendToTape(c);
        appendToTape(d);
        appendToTape(e);
        return tapeLength;
    }

    public int tell(int n) throws IllegalArgumentException {
        if (n < 0 || n > tapeLength) {
            throw new IllegalArgumentException("the tape has not so many bytes");
        }
        tapeLength = 0;
        boolean sound = planReader.read(n, sparePlan);
        faultPlace = tokens.faultPlace;
        if (!sound) {
            return tokens.faultKind;
        }
        Plan before = plan;
        plan = sparePlan;
        sparePlan = before;
        roster.clear();
        return 0;
    }

    public int batch(int n) throws IllegalArgumentException {
        if (n < 0 || n > tapeLength) {
            throw new IllegalArgumentException("the tape has not so many bytes");
        }
        tapeLength = 0;
        boolean sound = batchReader.read(n);
        faultPlace = tokens.faultPlace;
        if (!sound) {
            explain(CANNOT_BE, 0, NONE, NONE);
            return -2 - tokens.faultKind;
        }
        if (!allLinesWouldGo()) {
            return NONE;
        }
        for (int i = 0; i < batchReader.lines; i++) {
            carryOut(i);
        }
        explain(0, 0, NONE, NONE);
        return batchReader.lines;
    }

    public int fault() {
        return faultPlace;
    }

    public int put(int id, int time, int value) {
        if (!isId(id) || !isTime(time) || !isValue(value)) {
            explain(CANNOT_BE, 0, NONE, NONE);
            return NONE;
        }
        int late = latenessIn(roster, id, time);
        if (late > 0) {
            noteLate(id);
            explain(TOO_LATE, 0, late, NONE);
            return NONE;
        }
        explain(0, 0, NONE, NONE);
        return place(id, time, value);
    }

    public int tick(int id, int time) {
        if (!isId(id) || !isTime(time)) {
            explain(CANNOT_BE, 0, NONE, NONE);
            return NONE;
        }
        explain(0, 0, NONE, NONE);
        return bring(id, time).size;
    }

    public int drop(int id) {
        if (!isId(id)) {
            explain(CANNOT_BE, 0, NONE, NONE);
            return NONE;
        }
        if (!roster.knows(id)) {
            explain(NO_SERIES, 0, NONE, NONE);
            return NONE;
        }
        tallyAll(rowsOf(id));
        roster.remove(id);
        explain(0, 0, NONE, NONE);
        return inside.points;
    }

    public int sheet(int id, int n, int time, int step, int value, int rise) {
        if (!isId(id) || n < 0 || n > SHEET_LIMIT) {
            explain(CANNOT_BE, 0, NONE, NONE);
            return NONE;
        }
        int done = 0;
        for (int i = 0; i < n; i++) {
            if (placeIfItCanBe(id, time + (long) i * step, value + (long) i * rise)) {
                done++;
            }
        }
        explain(0, 0, NONE, NONE);
        return done;
    }

    public int why(int what) throws NoSuchElementException {
        needWhat(what, 3);
        return latestWhy[what];
    }

    public int count(int what) throws NoSuchElementException {
        switch (what) {
            case 0: return plan.tiers;
            case 1: return plan.most;
            case 2: return plan.alarm.isTold() ? 1 : 0;
            case 3: return roster.size;
            case 4: return tapeLength;
            case 5: return pushedOut;
            case 6: return lateEver;
            case 7: return lostEver;
            default: throw new NoSuchElementException("no such what");
        }
    }

    public int tier(int tier, int what) throws NoSuchElementException {
        needTier(tier);
        needWhat(what, 1);
        return what == 0 ? plan.span[tier] : plan.keep[tier];
    }

    public int used(int i) throws NoSuchElementException {
        if (i < 0 || i >= roster.size) {
            throw new NoSuchElementException("no such series");
        }
        return roster.byUse[i];
    }

    public long of(int id, int what) throws NoSuchElementException {
        Series series = known(id);
        tallyAll(series);
        switch (what) {
            case 0: return roster.head[id];
            case 1: return series.size;
            case 2: return inside.points;
            case 3: return series.late;
            case 4: return series.lost;
            case 5: return inside.least;
            case 6: return inside.greatest;
            case 7: return inside.sum;
            default: throw new NoSuchElementException("no such what");
        }
    }

    public int seam(int id, int tier) throws NoSuchElementException {
        Series series = known(id);
        needTier(tier);
        return series.seams[tier];
    }

    public int buckets(int id, int tier) throws NoSuchElementException {
        Series series = known(id);
        needTier(tier);
        return series.endOf(tier) - series.beginOf(tier);
    }

    public long bucket(int id, int tier, int i, int what) throws NoSuchElementException {
        Series series = known(id);
        needTier(tier);
        needWhat(what, 5);
        int begin = series.beginOf(tier);
        if (i < 0 || i >= series.endOf(tier) - begin) {
            throw new NoSuchElementException("no such bucket");
        }
        return series.fact(begin + i, what);
    }

    public int at(int id, int time, int what) throws NoSuchElementException {
        Series series = known(id);
        needWhat(what, 2);
        if (!isTime(time)) {
            throw new NoSuchElementException("no time");
        }
        int tier = series.tierOf(time);
        if (what == 0) {
            return tier;
        }
        if (tier == NONE) {
            return what == 1 ? EMPTY : 0;
        }
        int start = multipleUpTo(time, plan.span[tier]);
        return what == 1 ? start : series.pointsFrom(start);
    }

    public long total(int id, int from, int to, int what)
            throws NoSuchElementException, IllegalArgumentException {
        Series series = known(id);
        needWhat(what, 6);
        if (!isTime(from) || !isTime(to) || to < from) {
            throw new IllegalArgumentException("no stretch of times");
        }
        tallyStretch(series, from, to);
        switch (what) {
            case 4: return partly.points;
            case 5: return inside.buckets;
            case 6: return partly.buckets;
            default: return inside.fact(what);
        }
    }

    public int gap(int id, int tier, int i, boolean many) throws NoSuchElementException {
        Series series = known(id);
        needTier(tier);
        int span = plan.span[tier];
        int end = series.endOf(tier);
        int gaps = 0;
        for (int k = series.beginOf(tier) + 1; k < end; k++) {
            int first = series.start[k - 1] + span;
            if (series.start[k] == first) {
                continue;
            }
            if (gaps == i) {
                return many ? quotient(series.start[k] - first, span) : first;
            }
            gaps++;
        }
        if (i != NONE) {
            throw new NoSuchElementException("no such gap");
        }
        return gaps;
    }

    public long bar(int id, int w, int time, int what)
            throws NoSuchElementException, IllegalArgumentException {
        Series series = known(id);
        needWhat(what, 3);
        if (!plan.isBarWidth(w) || !isTime(time)) {
            throw new IllegalArgumentException("no such bar");
        }
        int from = multipleUpTo(time, w);
        inside.clear();
        for (int i = series.firstFrom(from); i < series.size && series.start[i] < from + w; i++) {
            inside.add(series, i);
        }
        return inside.fact(what);
    }

    public int alarms(int id, int what) throws NoSuchElementException {
        Series series = known(id);
        needWhat(what, 3);
        series.surveyAlarms(answers);
        return answers[what];
    }

    public int would(int id, int time, int what)
            throws NoSuchElementException, IllegalArgumentException {
        Series series = known(id);
        needWhat(what, 2);
        if (!isTime(time)) {
            throw new IllegalArgumentException("no time");
        }
        series.foresee(Math.max(time, roster.head[id]), answers);
        return answers[what];
    }

    public int until(int id, int tier, int time)
            throws NoSuchElementException, IllegalArgumentException {
        known(id);
        needTier(tier);
        if (!isTime(time)) {
            throw new IllegalArgumentException("no time");
        }
        int head = Math.max(roster.head[id], plan.leastHeadPast(tier, time));
        return head > TIME_LIMIT ? NONE : head;
    }

    public long trend(int id, int tier, int what) throws NoSuchElementException {
        Series series = known(id);
        needTier(tier);
        needWhat(what, 3);
        series.surveyTrend(tier, answers);
        return answers[what];
    }

    public int both(int id, int other, int what) throws NoSuchElementException {
        Series one = known(id);
        Series two = known(other);
        needWhat(what, 2);
        surveyBoth(one, two);
        return answers[what];
    }

    private void appendToTape(int number) {
        for (int shift = 24; shift >= 0 && tapeLength < TAPE_LIMIT; shift -= 8) {
            tape[tapeLength] = (byte) (number >>> shift);
            tapeLength++;
        }
    }

    private static boolean isId(int id) {
        return id >= 0 && id < IDS;
    }

    private static boolean isTime(long time) {
        return time >= -TIME_LIMIT && time <= TIME_LIMIT;
    }

    private static boolean isValue(long value) {
        return value >= -VALUE_LIMIT && value <= VALUE_LIMIT;
    }

    private static void needWhat(int what, int last) throws NoSuchElementException {
        if (what < 0 || what > last) {
            throw new NoSuchElementException("no such what");
        }
    }

    private void needTier(int tier) throws NoSuchElementException {
        if (tier < 0 || tier >= plan.tiers) {
            throw new NoSuchElementException("no such tier");
        }
    }

    private Series known(int id) throws NoSuchElementException {
        if (!roster.knows(id)) {
            throw new NoSuchElementException("no such series");
        }
        return rowsOf(id);
    }

    /** Rows are made for an ID once and used again: a series that comes anew takes the old ones. */
    private Series rowsOf(int id) {
        if (rows[id] == null) {
            rows[id] = new Series(plan);
        }
        return rows[id];
    }

    private void explain(int reason, int cause, int howMuch, int line) {
        latestWhy[0] = reason;
        latestWhy[1] = cause;
        latestWhy[2] = howMuch;
        latestWhy[3] = line;
    }

    /** By how much a time lies before the last seam of a series; 0 if it isn't late. */
    private int latenessIn(Roster whose, int id, int time) {
        if (!whose.knows(id)) {
            return 0;
        }
        plan.findSeams(whose.head[id], trialSeams);
        return Math.max(0, trialSeams[plan.tiers - 1] - time);
    }

    private void noteLate(int id) {
        lateEver++;
        rowsOf(id).late++;
    }

    private Series bring(int id, int time) {
        boolean isNew = !roster.knows(id);
        if (roster.use(id, time, plan.most) != NONE) {
            pushedOut++;
        }
        Series series = rowsOf(id);
        if (isNew) {
            series.begin(plan, time);
        } else {
            lostEver += series.moveTo(roster.head[id]);
        }
        return series;
    }

    private int place(int id, int time, int value) {
        Series series = bring(id, time);
        series.add(time, value);
        return series.tierOf(time);
    }

    private boolean placeIfItCanBe(int id, long time, long value) {
        if (!isTime(time) || !isValue(value)) {
            return false;
        }
        if (latenessIn(roster, id, (int) time) > 0) {
            noteLate(id);
            return false;
        }
        place(id, (int) time, (int) value);
        return true;
    }

    /**
     * What refuses a line hangs on the heads and the order of use alone, so a batch is
     * tried on a copy of these, and no bucket ever needs to be taken back.
     */
    private boolean allLinesWouldGo() {
        trial.copyFrom(roster);
        for (int i = 0; i < batchReader.lines; i++) {
            int id = batchReader.id[i];
            int time = batchReader.time[i];
            if (batchReader.kind[i] == BatchReader.DROP) {
                if (!trial.knows(id)) {
                    explain(LINE_REFUSED, NO_SERIES, NONE, i);
                    return false;
                }
                trial.remove(id);
                continue;
            }
            int late = latenessIn(trial, id, time);
            if (batchReader.kind[i] == BatchReader.PUT && late > 0) {
                explain(LINE_REFUSED, TOO_LATE, late, i);
                return false;
            }
            trial.use(id, time, plan.most);
        }
        return true;
    }

    private void carryOut(int line) {
        int id = batchReader.id[line];
        int time = batchReader.time[line];
        switch (batchReader.kind[line]) {
            case BatchReader.PUT:
                place(id, time, batchReader.value[line]);
                break;
            case BatchReader.TICK:
                bring(id, time);
                break;
            default:
                roster.remove(id);
                break;
        }
    }

    private void tallyAll(Series series) {
        inside.clear();
        for (int i = 0; i < series.size; i++) {
            inside.add(series, i);
        }
    }

    private void tallyStretch(Series series, int from, int to) {
        inside.clear();
        partly.clear();
        for (int i = 0; i < series.size; i++) {
            int start = series.start[i];
            int end = start + series.spanAt(i);
            if (start >= from && end <= to) {
                inside.add(series, i);
            } else if (Math.max(start, from) < Math.min(end, to)) {
                partly.add(series, i);
            }
        }
    }

    private void surveyBoth(Series one, Series two) {
        answers[0] = 0;
        answers[1] = 0;
        answers[2] = EMPTY;
        for (int i = 0; i < one.size; i++) {
            int start = one.start[i];
            int k = two.firstFrom(start);
            if (!two.hasStart(k, start) || one.tierOf(start) != two.tierOf(start)) {
                continue;
            }
            int more = one.mean(i) - two.mean(k);
            answers[0]++;
            answers[1] += more > 0 ? 1 : 0;
            answers[2] = Math.max(answers[2], Math.abs(more));
        }
    }

    /** Downwards, below 0 too. No span and no count is below 1; if one were, the answer is 0. */
    private static int quotient(long number, int by) {
        return by < 1 ? 0 : (int) Math.floorDiv(number, (long) by);
    }

    private static int multipleUpTo(int number, int base) {
        return base < 1 ? number : number - Math.floorMod(number, base);
    }

    private static int multipleFrom(int number, int base) {
        return -multipleUpTo(-number, base);
    }

    /** Tiers, how many series there can be, and the alarm. */
    private static final class Plan {
        static final int TIER_LIMIT = 4;
        private static final int[] FIRST_SPANS = {10, 60, 300};
        private static final int[] FIRST_KEEPS = {6, 5, 4};
        private static final int FIRST_MOST = 4;

        final int[] span = new int[TIER_LIMIT];
        final int[] keep = new int[TIER_LIMIT];
        final Alarm alarm = new Alarm();
        int tiers;
        int most;

        Plan() {
            most = FIRST_MOST;
            takeFirstTiers();
        }

        void clear() {
            tiers = 0;
            most = FIRST_MOST;
            alarm.clear();
        }

        void takeFirstTiers() {
            tiers = FIRST_SPANS.length;
            for (int i = 0; i < tiers; i++) {
                span[i] = FIRST_SPANS[i];
                keep[i] = FIRST_KEEPS[i];
            }
        }

        boolean isFull() {
            return tiers >= TIER_LIMIT;
        }

        void addTier(int itsSpan, int itsKeep) {
            if (!isFull()) {
                span[tiers] = itsSpan;
                keep[tiers] = itsKeep;
                tiers++;
            }
        }

        boolean canFollow(int nextSpan) {
            if (tiers == 0) {
                return true;
            }
            int last = span[tiers - 1];
            return nextSpan >= 2 * last && multipleUpTo(nextSpan, last) == nextSpan;
        }

        void findSeams(int head, int[] into) {
            int seam = multipleUpTo(head, span[0]) + span[0];
            for (int i = 0; i < tiers; i++) {
                seam -= keep[i] * span[i];
                if (i + 1 < tiers) {
                    seam = multipleUpTo(seam, span[i + 1]);
                }
                into[i] = seam;
            }
        }

        /** findSeams() read backwards: the least head whose seam lies behind a time. */
        int leastHeadPast(int tier, int time) {
            int least = time + 1;
            for (int i = tier; i >= 0; i--) {
                if (i + 1 < tiers) {
                    least = multipleFrom(least, span[i + 1]);
                }
                least += keep[i] * span[i];
            }
            return multipleFrom(least - span[0], span[0]);
        }

        /** NONE: it is gone. */
        int tierUnder(int[] seams, int time) {
            for (int i = 0; i < tiers; i++) {
                if (time >= seams[i]) {
                    return i;
                }
            }
            return NONE;
        }

        /** Each span is a multiple of the one ahead, so a multiple of the last is one of all. */
        boolean isBarWidth(int w) {
            return w >= 1 && w <= BAR_LIMIT && multipleUpTo(w, span[tiers - 1]) == w;
        }
    }

    /** A test of a bucket, held as steps with what they work on told ahead of them. */
    private static final class Alarm {
        static final int LESS = 0;
        static final int LIKE = 1;
        static final int MORE = 2;
        static final int NOT = 100;
        static final int AND = 101;
        static final int OR = 102;
        /** A step takes four bytes of text at least, of 600 in all. */
        private static final int STEP_LIMIT = 160;

        private final int[] step = new int[STEP_LIMIT];
        private final int[] number = new int[STEP_LIMIT];
        private int size = 0;

        void clear() {
            size = 0;
        }

        boolean isTold() {
            return size > 0;
        }

        void addComparison(int fact, int relation, int with) {
            addStep(fact * 3 + relation, with);
        }

        void addJoint(int joint) {
            addStep(joint, 0);
        }

        private void addStep(int what, int with) {
            if (size < STEP_LIMIT) {
                step[size] = what;
                number[size] = with;
                size++;
            }
        }

        /** Answers wait as bits of a number: with six brackets open no more than 15 do at once. */
        boolean isSoOf(Series series, int i) {
            int waiting = 0;
            for (int k = 0; k < size; k++) {
                int last = waiting & 1;
                int rest = waiting >> 1;
                switch (step[k]) {
                    case NOT: waiting = waiting ^ 1; break;
                    case AND: waiting = last == 1 ? rest : rest & ~1; break;
                    case OR: waiting = rest | last; break;
                    default: waiting = (waiting << 1) | (compares(k, series, i) ? 1 : 0); break;
                }
            }
            return (waiting & 1) == 1;
        }

        private boolean compares(int k, Series series, int i) {
            int fact = step[k] / 3;
            long got = fact == Series.TIER ? series.tierOf(series.start[i]) : series.fact(i, fact);
            switch (step[k] % 3) {
                case LESS: return got < number[k];
                case LIKE: return got == number[k];
                default: return got > number[k];
            }
        }
    }

    /** The tokens of a text, one at a time, and the first fault that was found in it. */
    private static final class Tokens {
        static final int END = 0;
        static final int WORD = 1;
        static final int NUMBER = 2;
        static final int SIGN = 3;
        static final int STRAY = 4;
        static final int WRONG = 1;
        static final int TOO_MUCH = 2;
        static final int NO_MULTIPLE = 3;
        static final int NUMBER_LIMIT = 9999999;
        private static final int DIGITS = 7;
        private static final String SIGNS = ";-()<=>";

        private final byte[] text;
        private int length = 0;
        private int from = 0;
        private int to = 0;
        int kind = END;
        int number = 0;
        int taken = 0;
        int faultKind = 0;
        int faultPlace = NONE;

        Tokens(byte[] text) {
            this.text = text;
        }

        void open(int n) {
            length = Math.max(0, Math.min(n, text.length));
            to = 0;
            faultKind = 0;
            faultPlace = NONE;
            next();
        }

        void next() {
            while (to < length && (text[to] == ' ' || text[to] == '\n')) {
                to++;
            }
            from = to;
            if (from >= length) {
                kind = END;
            } else if (text[from] >= 'a' && text[from] <= 'z') {
                readWord();
            } else if (text[from] >= '0' && text[from] <= '9') {
                readNumber();
            } else {
                kind = SIGNS.indexOf((char) (text[from] & 255)) >= 0 ? SIGN : STRAY;
                to = from + 1;
            }
        }

        boolean isWord(String word) {
            if (kind != WORD || to - from != word.length()) {
                return false;
            }
            for (int i = 0; i < word.length(); i++) {
                if (text[from + i] != word.charAt(i)) {
                    return false;
                }
            }
            return true;
        }

        boolean isSign(char sign) {
            return kind == SIGN && text[from] == sign;
        }

        /** Always false, so that a reader can end with it. */
        boolean refuse(int fault) {
            faultKind = fault;
            faultPlace = from;
            return false;
        }

        boolean takeSign(char sign) {
            if (!isSign(sign)) {
                return refuse(WRONG);
            }
            next();
            return true;
        }

        /** Doesn't go on, so that a caller can find more at the same token. */
        boolean isNumberWithin(int least, int most) {
            if (kind != NUMBER) {
                return refuse(WRONG);
            }
            if (number < least || number > most) {
                return refuse(TOO_MUCH);
            }
            return true;
        }

        boolean takeNumber(int least, int most) {
            if (!isNumberWithin(least, most)) {
                return false;
            }
            taken = number;
            next();
            return true;
        }

        boolean takeSigned(int limit) {
            boolean below = isSign('-');
            if (below) {
                next();
            }
            if (!isNumberWithin(0, limit)) {
                return false;
            }
            taken = below ? -number : number;
            next();
            return true;
        }

        private void readWord() {
            kind = WORD;
            while (to < length && text[to] >= 'a' && text[to] <= 'z') {
                to++;
            }
        }

        private void readNumber() {
            kind = NUMBER;
            number = 0;
            while (to < length && text[to] >= '0' && text[to] <= '9') {
                number = number * 10 + text[to] - '0';
                to++;
            }
            if (to - from > DIGITS) {
                number = Integer.MAX_VALUE;
            }
        }
    }

    /** Reads a plan's clauses; the alarm's steps come as they are read. */
    private static final class PlanReader {
        private static final int SPAN_LIMIT = 100000;
        private static final int KEEP_LIMIT = 20;
        private static final int MOST_LIMIT = 6;
        private static final int NESTING_LIMIT = 6;

        private final Tokens tokens;

        PlanReader(Tokens tokens) {
            this.tokens = tokens;
        }

        boolean read(int n, Plan into) {
            into.clear();
            tokens.open(n);
            for (int i = 0; i < TAPE_LIMIT && tokens.kind != Tokens.END; i++) {
                if (!readClause(into) || !tokens.takeSign(';')) {
                    return false;
                }
            }
            if (into.tiers == 0) {
                into.takeFirstTiers();
            }
            return true;
        }

        private boolean readClause(Plan into) {
            if (tokens.isWord("tier")) {
                return readTier(into);
            }
            if (tokens.isWord("most")) {
                tokens.next();
                boolean sound = tokens.takeNumber(1, MOST_LIMIT);
                into.most = tokens.taken;
                return sound;
            }
            if (tokens.isWord("alarm")) {
                tokens.next();
                into.alarm.clear();
                return readTest(into.alarm, 0);
            }
            return tokens.refuse(Tokens.WRONG);
        }

        private boolean readTier(Plan into) {
            if (into.isFull()) {
                return tokens.refuse(Tokens.TOO_MUCH);
            }
            tokens.next();
            if (!tokens.isNumberWithin(1, SPAN_LIMIT)) {
                return false;
            }
            int span = tokens.number;
            if (!into.canFollow(span)) {
                return tokens.refuse(Tokens.NO_MULTIPLE);
            }
            tokens.next();
            if (!tokens.takeNumber(1, KEEP_LIMIT)) {
                return false;
            }
            into.addTier(span, tokens.taken);
            return true;
        }

        /** Rows of 'and' within a row of 'or'. */
        private boolean readTest(Alarm into, int depth) {
            for (int i = 0; i < TAPE_LIMIT; i++) {
                if (!readUnit(into, depth)) {
                    return false;
                }
                for (int k = 0; k < TAPE_LIMIT && tokens.isWord("and"); k++) {
                    tokens.next();
                    if (!readUnit(into, depth)) {
                        return false;
                    }
                    into.addJoint(Alarm.AND);
                }
                if (i > 0) {
                    into.addJoint(Alarm.OR);
                }
                if (!tokens.isWord("or")) {
                    return true;
                }
                tokens.next();
            }
            return false;
        }

        /** Comparisons are read here too, so that few calls stand open at once. */
        private boolean readUnit(Alarm into, int depth) {
            boolean isNot = tokens.isWord("not");
            if (isNot || tokens.isSign('(')) {
                if (depth >= NESTING_LIMIT) {
                    return tokens.refuse(Tokens.TOO_MUCH);
                }
                tokens.next();
                if (!isNot) {
                    return readTest(into, depth + 1) && tokens.takeSign(')');
                }
                boolean sound = readUnit(into, depth + 1);
                into.addJoint(Alarm.NOT);
                return sound;
            }
            int fact = factHere();
            if (fact == NONE) {
                return tokens.refuse(Tokens.WRONG);
            }
            tokens.next();
            int relation = relationHere();
            if (relation == NONE) {
                return tokens.refuse(Tokens.WRONG);
            }
            tokens.next();
            boolean sound = tokens.takeSigned(Tokens.NUMBER_LIMIT);
            into.addComparison(fact, relation, tokens.taken);
            return sound;
        }

        private int factHere() {
            if (tokens.isWord("count")) {
                return Series.COUNT;
            }
            if (tokens.isWord("sum")) {
                return Series.SUM;
            }
            if (tokens.isWord("least")) {
                return Series.LEAST;
            }
            if (tokens.isWord("greatest")) {
                return Series.GREATEST;
            }
            if (tokens.isWord("mean")) {
                return Series.MEAN;
            }
            return tokens.isWord("tier") ? Series.TIER : NONE;
        }

        private int relationHere() {
            if (tokens.isSign('<')) {
                return Alarm.LESS;
            }
            if (tokens.isSign('=')) {
                return Alarm.LIKE;
            }
            return tokens.isSign('>') ? Alarm.MORE : NONE;
        }
    }

    /** Reads a batch's lines and holds them until they are tried and carried out. */
    private static final class BatchReader {
        static final int PUT = 0;
        static final int TICK = 1;
        static final int DROP = 2;
        /** The shortest line, such as drop0; has six bytes, of 600 in all. */
        private static final int LINE_LIMIT = 100;

        private final Tokens tokens;
        final int[] kind = new int[LINE_LIMIT];
        final int[] id = new int[LINE_LIMIT];
        final int[] time = new int[LINE_LIMIT];
        final int[] value = new int[LINE_LIMIT];
        int lines = 0;

        BatchReader(Tokens tokens) {
            this.tokens = tokens;
        }

        boolean read(int n) {
            lines = 0;
            tokens.open(n);
            for (int i = 0; i < LINE_LIMIT && tokens.kind != Tokens.END; i++) {
                if (!readLine()) {
                    return false;
                }
                lines = i + 1;
            }
            return true;
        }

        private boolean readLine() {
            int what = kindHere();
            if (what == NONE) {
                return tokens.refuse(Tokens.WRONG);
            }
            tokens.next();
            kind[lines] = what;
            if (!tokens.takeNumber(0, IDS - 1)) {
                return false;
            }
            id[lines] = tokens.taken;
            if (what != DROP && !tokens.takeSigned(TIME_LIMIT)) {
                return false;
            }
            time[lines] = tokens.taken;
            if (what == PUT && !tokens.takeSigned(VALUE_LIMIT)) {
                return false;
            }
            value[lines] = tokens.taken;
            return tokens.takeSign(';');
        }

        private int kindHere() {
            if (tokens.isWord("put")) {
                return PUT;
            }
            if (tokens.isWord("tick")) {
                return TICK;
            }
            return tokens.isWord("drop") ? DROP : NONE;
        }
    }

    /** Which series there are, the one that was used last first, and their heads. */
    private static final class Roster {
        final int[] byUse = new int[IDS];
        final int[] head = new int[IDS];
        int size = 0;

        void clear() {
            size = 0;
        }

        void copyFrom(Roster other) {
            size = other.size;
            for (int i = 0; i < IDS; i++) {
                byUse[i] = other.byUse[i];
                head[i] = other.head[i];
            }
        }

        boolean knows(int id) {
            return placeOf(id) != NONE;
        }

        /** Answers the ID that had to go for it, or NONE. */
        int use(int id, int time, int most) {
            int gone = NONE;
            int place = placeOf(id);
            if (place == NONE) {
                if (size > 0 && size >= most) {
                    size--;
                    gone = byUse[size];
                }
                place = size;
                size++;
                head[id] = time;
            }
            for (int i = place; i > 0; i--) {
                byUse[i] = byUse[i - 1];
            }
            byUse[0] = id;
            head[id] = Math.max(head[id], time);
            return gone;
        }

        void remove(int id) {
            int place = placeOf(id);
            if (place == NONE) {
                return;
            }
            size--;
            for (int i = place; i < size; i++) {
                byUse[i] = byUse[i + 1];
            }
        }

        private int placeOf(int id) {
            for (int i = 0; i < size; i++) {
                if (byUse[i] == id) {
                    return i;
                }
            }
            return NONE;
        }
    }

    /** The buckets of one series in one row, rising by start: the last tier comes first in it. */
    private static final class Series {
        static final int START = 0;
        static final int COUNT = 1;
        static final int SUM = 2;
        static final int LEAST = 3;
        static final int GREATEST = 4;
        static final int MEAN = 5;
        static final int TIER = 6;
        private static final int FIRST_ROOM = 16;
        /** 512 calls put 60 points each at most: no series that is promised anything has more. */
        private static final int ROOM_LIMIT = 32768;

        private Plan plan;
        final int[] seams = new int[Plan.TIER_LIMIT];
        private final int[] seamsThen = new int[Plan.TIER_LIMIT];
        int[] start = new int[FIRST_ROOM];
        int[] points = new int[FIRST_ROOM];
        long[] sum = new long[FIRST_ROOM];
        int[] least = new int[FIRST_ROOM];
        int[] greatest = new int[FIRST_ROOM];
        int size = 0;
        int late = 0;
        int lost = 0;

        Series(Plan plan) {
            this.plan = plan;
        }

        void begin(Plan itsPlan, int head) {
            plan = itsPlan;
            size = 0;
            late = 0;
            lost = 0;
            plan.findSeams(head, seams);
        }

        int tierOf(int time) {
            return plan.tierUnder(seams, time);
        }

        int spanAt(int i) {
            int tier = tierOf(start[i]);
            return tier == NONE ? 1 : plan.span[tier];
        }

        int beginOf(int tier) {
            return firstFrom(seams[tier]);
        }

        int endOf(int tier) {
            return tier == 0 ? size : firstFrom(seams[tier - 1]);
        }

        /** The place of the first bucket whose start is no less than a time. */
        int firstFrom(int time) {
            int low = 0;
            int high = size;
            while (low < high) {
                int middle = (low + high) >>> 1;
                if (start[middle] < time) {
                    low = middle + 1;
                } else {
                    high = middle;
                }
            }
            return low;
        }

        boolean hasStart(int i, int itsStart) {
            return i < size && start[i] == itsStart;
        }

        int pointsFrom(int itsStart) {
            int i = firstFrom(itsStart);
            return hasStart(i, itsStart) ? points[i] : 0;
        }

        int mean(int i) {
            return quotient(sum[i], points[i]);
        }

        long fact(int i, int what) {
            switch (what) {
                case START: return start[i];
                case COUNT: return points[i];
                case SUM: return sum[i];
                case LEAST: return least[i];
                case GREATEST: return greatest[i];
                default: return mean(i);
            }
        }

        void add(int time, int value) {
            int tier = tierOf(time);
            if (tier == NONE) {
                return;
            }
            int itsStart = multipleUpTo(time, plan.span[tier]);
            int i = firstFrom(itsStart);
            if (!hasStart(i, itsStart)) {
                if (!makeRoom()) {
                    return;
                }
                openAt(i, itsStart, value);
            }
            points[i]++;
            sum[i] += value;
            least[i] = Math.min(least[i], value);
            greatest[i] = Math.max(greatest[i], value);
        }

        /** Answers how many points are lost by it. */
        int moveTo(int head) {
            plan.findSeams(head, seamsThen);
            // Each seam hangs on the one ahead alone: if the first stays, all stay.
            if (seamsThen[0] == seams[0]) {
                return 0;
            }
            System.arraycopy(seamsThen, 0, seams, 0, seams.length);
            int kept = 0;
            int gone = 0;
            for (int i = 0; i < size; i++) {
                int tier = tierOf(start[i]);
                if (tier == NONE) {
                    gone += points[i];
                    continue;
                }
                int startThen = multipleUpTo(start[i], plan.span[tier]);
                if (kept > 0 && start[kept - 1] == startThen) {
                    join(i, kept - 1);
                } else {
                    carry(i, kept, startThen);
                    kept++;
                }
            }
            size = kept;
            lost += gone;
            return gone;
        }

        void foresee(int head, int[] answers) {
            plan.findSeams(head, seamsThen);
            int kept = 0;
            int gone = 0;
            int others = 0;
            int latest = 0;
            for (int i = 0; i < size; i++) {
                int tier = plan.tierUnder(seamsThen, start[i]);
                if (tier != tierOf(start[i])) {
                    others++;
                }
                if (tier == NONE) {
                    gone += points[i];
                    continue;
                }
                int startThen = multipleUpTo(start[i], plan.span[tier]);
                if (kept == 0 || startThen != latest) {
                    kept++;
                }
                latest = startThen;
            }
            answers[0] = kept;
            answers[1] = gone;
            answers[2] = others;
        }

        void surveyAlarms(int[] answers) {
            answers[0] = 0;
            answers[1] = EMPTY;
            answers[2] = 0;
            answers[3] = EMPTY;
            if (!plan.alarm.isTold()) {
                return;
            }
            int inRow = 0;
            int rowStart = 0;
            for (int i = 0; i < size; i++) {
                if (!plan.alarm.isSoOf(this, i)) {
                    inRow = 0;
                    continue;
                }
                if (inRow == 0 || !isBesideTheOneAhead(i)) {
                    inRow = 0;
                    rowStart = start[i];
                }
                inRow++;
                if (answers[0] == 0) {
                    answers[1] = start[i];
                }
                answers[0]++;
                if (inRow > answers[2]) {
                    answers[2] = inRow;
                    answers[3] = rowStart;
                }
            }
        }

        void surveyTrend(int tier, int[] answers) {
            answers[0] = 0;
            answers[1] = 0;
            answers[2] = 0;
            answers[3] = EMPTY;
            int end = endOf(tier);
            for (int i = beginOf(tier) + 1; i < end; i++) {
                int more = mean(i) - mean(i - 1);
                answers[0] += more > 0 ? 1 : 0;
                answers[1] += more < 0 ? 1 : 0;
                if (more > answers[2]) {
                    answers[2] = more;
                    answers[3] = start[i];
                }
            }
        }

        private boolean isBesideTheOneAhead(int i) {
            return i > 0 && tierOf(start[i - 1]) == tierOf(start[i])
                    && start[i] - start[i - 1] == spanAt(i);
        }

        private void join(int from, int to) {
            points[to] += points[from];
            sum[to] += sum[from];
            least[to] = Math.min(least[to], least[from]);
            greatest[to] = Math.max(greatest[to], greatest[from]);
        }

        private void carry(int from, int to, int itsStart) {
            start[to] = itsStart;
            points[to] = points[from];
            sum[to] = sum[from];
            least[to] = least[from];
            greatest[to] = greatest[from];
        }

        private boolean makeRoom() {
            if (size < start.length) {
                return true;
            }
            if (start.length >= ROOM_LIMIT) {
                return false;
            }
            int room = start.length * 2;
            start = Arrays.copyOf(start, room);
            points = Arrays.copyOf(points, room);
            sum = Arrays.copyOf(sum, room);
            least = Arrays.copyOf(least, room);
            greatest = Arrays.copyOf(greatest, room);
            return true;
        }

        private void openAt(int i, int itsStart, int value) {
            int behind = size - i;
            System.arraycopy(start, i, start, i + 1, behind);
            System.arraycopy(points, i, points, i + 1, behind);
            System.arraycopy(sum, i, sum, i + 1, behind);
            System.arraycopy(least, i, least, i + 1, behind);
            System.arraycopy(greatest, i, greatest, i + 1, behind);
            start[i] = itsStart;
            points[i] = 0;
            sum[i] = 0;
            least[i] = value;
            greatest[i] = value;
            size++;
        }
    }

    /** What some buckets tell together. */
    private static final class Tally {
        int buckets = 0;
        int points = 0;
        long sum = 0;
        int least = EMPTY;
        int greatest = EMPTY;

        void clear() {
            buckets = 0;
            points = 0;
            sum = 0;
            least = EMPTY;
            greatest = EMPTY;
        }

        void add(Series series, int i) {
            least = buckets == 0 ? series.least[i] : Math.min(least, series.least[i]);
            greatest = Math.max(greatest, series.greatest[i]);
            sum += series.sum[i];
            points += series.points[i];
            buckets++;
        }

        /** As total() and bar() number them. */
        long fact(int what) {
            switch (what) {
                case 0: return points;
                case 1: return sum;
                case 2: return least;
                default: return greatest;
            }
        }
    }
}
