import java.util.NoSuchElementException;

/** Promise by promise: ordinary inputs, the edges that the document names, wrong inputs. */
public final class PromiseTest {
    private static final long NO_ELEMENT = Long.MIN_VALUE;
    private static final long BAD_ARGUMENT = Long.MIN_VALUE + 1;
    private static final int MOST_INT = Integer.MAX_VALUE;
    private static final int LEAST_INT = Integer.MIN_VALUE;
    private static int wrong = 0;
    private static String promise = "";

    private interface Call {
        long answer();
    }

    public static void main(String[] args) {
        newObject();
        feed();
        tell();
        faultsOfPlans();
        nesting();
        batch();
        faultsOfBatches();
        put();
        putAmongMost();
        tick();
        drop();
        sheet();
        why();
        count();
        tierAndUsed();
        of();
        seam();
        buckets();
        at();
        total();
        gap();
        bar();
        alarms();
        alarmTexts();
        would();
        until();
        trend();
        both();
        anyOrder();
        System.out.println(wrong == 0 ? "all promises hold" : wrong + " answers are not as due");
        if (wrong != 0) {
            System.exit(1);
        }
    }

    private static void due(String call, long want, Call got) {
        long g;
        try {
            g = got.answer();
        } catch (NoSuchElementException e) {
            g = NO_ELEMENT;
        } catch (IllegalArgumentException e) {
            g = BAD_ARGUMENT;
        }
        if (g != want) {
            wrong++;
            System.out.println(promise + ": " + call + " answered " + told(g) + ", due is " + told(want));
        }
    }

    private static String told(long answer) {
        return answer == NO_ELEMENT ? "NoSuchElementException" : answer == BAD_ARGUMENT ? "IllegalArgumentException" : "" + answer;
    }

    /** Puts a text on the tape, blanks behind it up to the next twenty; answers its length. */
    private static int type(ThinSeries x, String text) {
        for (int i = 0; i < text.length(); i += 20) {
            int[] w = new int[5];
            for (int k = 0; k < 20; k++) {
                w[k / 4] = w[k / 4] << 8 | (i + k < text.length() ? text.charAt(i + k) & 255 : 32);
            }
            x.feed(w[0], w[1], w[2], w[3], w[4]);
        }
        return text.length();
    }

    private static ThinSeries withPlan(String text) {
        ThinSeries x = new ThinSeries();
        int n = type(x, text);
        due("tell: " + text, 0, () -> x.tell(n));
        return x;
    }

    private static void newObject() {
        promise = "1 a new object";
        ThinSeries x = new ThinSeries();
        int[] first = {3, 4, 0, 0, 0, 0, 0, 0};
        for (int w = 0; w < 8; w++) {
            int what = w;
            due("count " + w, first[w], () -> x.count(what));
        }
        int[][] tiers = {{10, 6}, {60, 5}, {300, 4}};
        for (int t = 0; t < 3; t++) {
            int tier = t;
            due("span " + t, tiers[t][0], () -> x.tier(tier, 0));
            due("keep " + t, tiers[t][1], () -> x.tier(tier, 1));
        }
        due("fault", -1, () -> x.fault());
        due("why 0", 0, () -> x.why(0));
        due("why 1", 0, () -> x.why(1));
        due("why 2", -1, () -> x.why(2));
        due("why 3", -1, () -> x.why(3));
        due("used", NO_ELEMENT, () -> x.used(0));
    }

    private static void feed() {
        promise = "2 feed";
        ThinSeries x = new ThinSeries();
        for (int i = 1; i <= 30; i++) {
            int many = i * 20;
            due("feed " + i, many, () -> x.feed(0x20202020, 0x20202020, 0x20202020, 0x20202020, 0x20202020));
        }
        due("feed 31", -1, () -> x.feed(0, 0, 0, 0, 0));
        due("count", 600, () -> x.count(4));
        due("all of it", 0, () -> x.tell(600));
        due("count", 0, () -> x.count(4));
        // highest byte first: "most" "\n5;  ", and bytes above 127 come as they are
        due("feed", 20, () -> x.feed(0x6d6f7374, 0x0a353b20, 0x20202020, 0x20202020, 0xff202020));
        due("tell", 1, () -> x.tell(17));
        due("fault", 16, () -> x.fault());
        x.feed(0x6d6f7374, 0x0a353b20, 0x20202020, 0x20202020, 0xff202020);
        due("tell", 0, () -> x.tell(16));
        due("most", 5, () -> x.count(1));
    }

    private static void tell() {
        promise = "3 tell";
        ThinSeries x = withPlan("tier 7 20; most 2; most 3; alarm sum<1; alarm tier=0;");
        due("tiers", 1, () -> x.count(0));
        due("most", 3, () -> x.count(1));
        due("alarm", 1, () -> x.count(2));
        due("keep", 20, () -> x.tier(0, 1));
        x.put(1, 0, 1);
        due("the later alarm holds", 1, () -> x.alarms(1, 0));
        x.put(1, 1000, 1);
        x.put(1, 0, 1);
        for (int i = 2; i < 6; i++) {
            x.put(i, 0, 0);
        }
        due("pushed out", 2, () -> x.count(5));
        due("late", 1, () -> x.count(6));
        due("lost", 1, () -> x.count(7));
        int n = type(x, "most 2");
        due("too short", 1, () -> x.tell(n));
        due("all stays", 3, () -> x.count(3));
        due("most stays", 3, () -> x.count(1));
        due("the tape is empty", 0, () -> x.count(4));
        type(x, "most 2;");
        due("n below 0", BAD_ARGUMENT, () -> x.tell(-1));
        due("n below 0", BAD_ARGUMENT, () -> x.tell(LEAST_INT));
        due("not so many", BAD_ARGUMENT, () -> x.tell(21));
        due("not so many", BAD_ARGUMENT, () -> x.tell(MOST_INT));
        due("nothing changes", 20, () -> x.count(4));
        due("nothing changes", n, () -> x.fault());
        due("tell", 0, () -> x.tell(20));
        due("fault", -1, () -> x.fault());
        due("most", 2, () -> x.count(1));
        due("tiers as at first", 3, () -> x.count(0));
        due("no alarm", 0, () -> x.count(2));
        due("all series go", 0, () -> x.count(3));
        due("pushed out stays", 2, () -> x.count(5));
        due("late stays", 1, () -> x.count(6));
        due("lost stays", 1, () -> x.count(7));
        due("an empty text", 0, () -> x.tell(0));
        due("most as at first", 4, () -> x.count(1));
        x.put(1, 5, 5);
        due("series come anew", 1, () -> x.of(1, 2));
        due("with nothing late", 0, () -> x.of(1, 3));
        due("with nothing lost", 0, () -> x.of(1, 4));
    }

    private static void plan(String text, int kind, int place) {
        ThinSeries x = new ThinSeries();
        int n = type(x, text);
        due("plan: " + text, kind, () -> x.tell(n));
        due("place: " + text, place, () -> x.fault());
    }

    private static void faultsOfPlans() {
        promise = "3, 5 faults of plans";
        plan("", 0, -1);
        plan(" \n ", 0, -1);
        plan("tier5 2;tier10 1;", 0, -1);
        plan("tier 0000005 0000002 ;", 0, -1);
        plan("tier 100000 20;", 0, -1);
        plan("tier 100001 1;", 2, 5);
        plan("tier 12345678 1;", 2, 5);
        plan("tier 00000005 1;", 2, 5);
        plan("tier 5 0;", 2, 7);
        plan("tier 5;", 1, 6);
        plan("tier -5 1;", 1, 5);
        plan("tier 5 2", 1, 8);
        plan("tier 5 2  ", 1, 10);
        plan("tier 5 2 3;", 1, 9);
        plan("tier 50000 2; tier 100000 1;", 0, -1);
        plan("tier 50000 2; tier 99999 1;", 3, 19);
        plan("tier 50000 2; tier 150000 1;", 2, 19);
        plan("tier 5 2; tier 5 1;", 3, 15);
        plan("tier 5 2; tier 4 1;", 3, 15);
        plan("tier 5 2; tier 11 99;", 3, 15);
        plan("tier 5 2; tier 10 99;", 2, 18);
        plan("tier 1 1;tier 2 1;tier 4 1;tier 8 1;", 0, -1);
        plan("tier 1 1;tier 2 1;tier 4 1;tier 8 1;tier", 2, 36);
        plan("most 1;most 6;", 0, -1);
        plan("most 0;", 2, 5);
        plan("most 7;", 2, 5);
        plan("most;", 1, 4);
        plan("mosts 1;", 1, 0);
        plan("Most 1;", 1, 0);
        plan("12345678", 1, 0);
        plan(";", 1, 0);
        plan("most\t1;", 1, 4);
        plan("most\r1;", 1, 4);
        plan("most 1\u00e9;", 1, 6);
        plan("put 1 1 1;", 1, 0);
        plan("alarm;", 1, 5);
        plan("alarm", 1, 5);
        plan("alarm sum<1", 1, 11);
        plan("alarm sum 1;", 1, 10);
        plan("alarm sum<=1;", 1, 10);
        plan("alarm sum<;", 1, 10);
        plan("alarm sum<-;", 1, 11);
        plan("alarm sum<--1;", 1, 11);
        plan("alarm sum<-12345678;", 2, 11);
        plan("alarm sum<-9999999;", 0, -1);
        plan("alarm 1<sum;", 1, 6);
        plan("alarm sum<1 and;", 1, 15);
        plan("alarm sum<1 or or sum<1;", 1, 15);
        plan("alarm sum<1 sum<1;", 1, 12);
        plan("alarm (sum<1;", 1, 12);
        plan("alarm sum<1);", 1, 11);
        plan("alarm ();", 1, 7);
        plan("alarm notsum<1;", 1, 6);
        plan("alarm not sum<1or not sum<1and not(sum<1);", 0, -1);
    }

    private static void nesting() {
        promise = "3, 5 nesting";
        plan("alarm ((((((sum<1))))));", 0, -1);
        plan("alarm (((((((sum<1)))))));", 2, 12);
        plan("alarm not(not(not(sum<1)));", 0, -1);
        plan("alarm not(not(not(not sum<1)));", 2, 18);
        plan("alarm not(not(not(x", 1, 18);
        // side by side they aren't within one another
        plan("alarm ((((((sum<1)))))) and ((((((sum<1)))))) or not not not not not not sum<1;", 0, -1);
        plan("alarm (not sum<1) and not not not not not(not sum<1);", 2, 42);
    }

    private static void batch() {
        promise = "4 batch";
        ThinSeries x = new ThinSeries();
        int n = type(x, "put0 100 5;put 0 -1-7;tick 1 50; drop 0 ;put 0 7 1;");
        due("batch", 5, () -> x.batch(n));
        due("series", 2, () -> x.count(3));
        due("head", 7, () -> x.of(0, 0));
        due("head", 50, () -> x.of(1, 0));
        due("used", 0, () -> x.used(0));
        due("tape", 0, () -> x.count(4));
        due("fault", -1, () -> x.fault());
        // the third line pushes 1 out, so that the fourth is refused, and nothing is done
        for (int i = 2; i < 4; i++) {
            x.put(i, 0, i);
        }
        int m = type(x, "put 0 8 8;put 4 0 0;drop 2;tick 9 9;drop 1;put 0 100000 1;");
        due("refused", -1, () -> x.batch(m));
        due("reason", 4, () -> x.why(0));
        due("cause", 3, () -> x.why(1));
        due("how much", -1, () -> x.why(2));
        due("line", 4, () -> x.why(3));
        due("fault", -1, () -> x.fault());
        due("used", 3, () -> x.used(0));
        due("used", 1, () -> x.used(3));
        due("points", 1, () -> x.of(0, 2));
        due("pushed out", 0, () -> x.count(5));
        // a line that is late only by what a line ahead of it does
        int k = type(x, "tick 2 10000;put 2 0 0;");
        due("refused", -1, () -> x.batch(k));
        due("cause", 2, () -> x.why(1));
        // heads 10000: seams 9900, 9600, 8400
        due("how much", 8400, () -> x.why(2));
        due("line", 1, () -> x.why(3));
        due("head", 0, () -> x.of(2, 0));
        due("late", 0, () -> x.of(2, 3));
        due("late", 0, () -> x.count(6));
        // the same, but the series goes between
        int q = type(x, "tick 2 10000;drop 2;put 2 0 0;");
        due("batch", 3, () -> x.batch(q));
        due("head", 0, () -> x.of(2, 0));
        due("points", 1, () -> x.of(2, 2));
        // points are lost by a batch, and series pushed out
        int r = type(x, "tick 2 10000;put 5 0 0;put 6 0 0;");
        due("batch", 3, () -> x.batch(r));
        due("lost, with the one ahead", 2, () -> x.count(7));
        due("pushed out", 2, () -> x.count(5));
        due("no lines", 0, () -> x.batch(0));
        type(x, "drop 2;");
        due("n below 0", BAD_ARGUMENT, () -> x.batch(-1));
        due("not so many", BAD_ARGUMENT, () -> x.batch(21));
        due("not so many", BAD_ARGUMENT, () -> x.batch(MOST_INT));
        due("nothing changes", 20, () -> x.count(4));
        StringBuilder hundred = new StringBuilder();
        for (int i = 0; i < 50; i++) {
            hundred.append("put0 0 0;");
        }
        for (int i = 0; i < 25; i++) {
            hundred.append("drop0;");
        }
        ThinSeries y = new ThinSeries();
        int h = type(y, hundred.toString());
        due("600 bytes", -1, () -> y.batch(h));
        due("line", 51, () -> y.why(3));
    }

    private static void lines(String text, int answer, int place) {
        ThinSeries x = new ThinSeries();
        x.put(1, 0, 0);
        int n = type(x, text);
        due("batch: " + text, answer, () -> x.batch(n));
        due("place: " + text, place, () -> x.fault());
        due("reason: " + text, answer < -1 ? 1 : 0, () -> x.why(0));
        due("cause: " + text, 0, () -> x.why(1));
        due("line: " + text, -1, () -> x.why(3));
        due("used: " + text, 1, () -> x.used(0));
    }

    private static void faultsOfBatches() {
        promise = "4, 5 faults of batches";
        lines("put 1 1000000 10000;put 1 -1000000 -10000", -3, 41);
        lines("put 1 1000000 10000;", 1, -1);
        lines("put 1 1000001 0;", -4, 6);
        lines("put 1 -1000001 0;", -4, 7);
        lines("put 1 0 10001;", -4, 8);
        lines("put 1 0 -10001;", -4, 9);
        lines("put 1 -0 -0;", 1, -1);
        lines("put 10 0 0;", -4, 4);
        lines("put -1 0 0;", -3, 4);
        lines("put 1 0;", -3, 7);
        lines("put 2 0 0;put 1 0 0 0;", -3, 20);
        lines("tick 1;", -3, 6);
        lines("tick 1 12345678;", -4, 7);
        lines("tick 1 0 0;", -3, 9);
        lines("drop 1", -3, 6);
        lines("drop 10;", -4, 5);
        lines("drop 1 1;", -3, 7);
        lines("tier 1 1;", -3, 0);
        lines("drop 1;;", -3, 7);
        lines("tick 1 5;\n", 1, -1);
    }

    private static void put() {
        promise = "6 put";
        ThinSeries x = new ThinSeries();
        due("first", 0, () -> x.put(0, 0, 0));
        // head 0: seams floor60(10 - 60) = -60, floor300(-360) = -600, -1800
        due("seam 0", 0, () -> x.put(0, -60, 1));
        due("before it", 1, () -> x.put(0, -61, 1));
        due("seam 1", 1, () -> x.put(0, -600, 1));
        due("before it", 2, () -> x.put(0, -601, 1));
        due("seam 2", 2, () -> x.put(0, -1800, 1));
        due("late", -1, () -> x.put(0, -1801, 1));
        due("reason", 2, () -> x.why(0));
        due("how much", 1, () -> x.why(2));
        due("late", 1, () -> x.of(0, 3));
        due("points", 6, () -> x.of(0, 2));
        due("a new head", 0, () -> x.put(0, 10, 1));
        due("head", 10, () -> x.of(0, 0));
        due("edges", 0, () -> x.put(1, 1000000, 10000));
        due("edges", 0, () -> x.put(2, -1000000, -10000));
        int[][] bad = {{-1, 0, 0}, {10, 0, 0}, {0, 1000001, 0}, {0, -1000001, 0}, {0, 0, 10001}, {0, 0, -10001},
            {LEAST_INT, MOST_INT, LEAST_INT}, {0, -1000000, 10001}, {0, MOST_INT, 0}, {0, LEAST_INT, 0}, {0, 0, LEAST_INT}};
        for (int[] b : bad) {
            due("refused", -1, () -> x.put(b[0], b[1], b[2]));
            due("reason", 1, () -> x.why(0));
            due("how much", -1, () -> x.why(2));
        }
        due("late ones", 1, () -> x.count(6));
        due("used", 2, () -> x.used(0));
        x.put(0, -5000, 0);
        due("late ones aren't use", 2, () -> x.used(0));
    }

    private static void putAmongMost() {
        promise = "6 put, most";
        ThinSeries x = withPlan("most 2;");
        x.put(7, 0, 1);
        x.put(8, 0, 1);
        x.put(7, -3, 1);
        due("comes", 0, () -> x.put(9, 5, 1));
        due("8 went", NO_ELEMENT, () -> x.of(8, 0));
        due("7 stays", 2, () -> x.of(7, 2));
        due("pushed out", 1, () -> x.count(5));
        due("not lost", 0, () -> x.count(7));
        due("comes anew", 0, () -> x.put(8, -900000, 4));
        due("head", -900000, () -> x.of(8, 0));
        due("points", 1, () -> x.of(8, 2));
        due("7 went", NO_ELEMENT, () -> x.of(7, 0));
    }

    private static void tick() {
        promise = "7 tick";
        ThinSeries x = new ThinSeries();
        due("comes", 0, () -> x.tick(3, -70));
        due("head", -70, () -> x.of(3, 0));
        due("points", 0, () -> x.of(3, 2));
        x.put(3, -70, 1);
        x.put(3, -60, 1);
        x.put(2, 0, 0);
        due("no more", 2, () -> x.tick(3, -1000000));
        due("head stays", -60, () -> x.of(3, 0));
        due("it is used", 3, () -> x.used(0));
        due("reason", 0, () -> x.why(0));
        // head 60: seam 0 is 0: both lie in tier 1, -120 and -60
        due("tick", 2, () -> x.tick(3, 60));
        due("tier 1", 2, () -> x.buckets(3, 1));
        // head 490: seams 420, 0: both lie in tier 2 in -300
        due("together", 1, () -> x.tick(3, 490));
        due("count", 2, () -> x.bucket(3, 2, 0, 1));
        due("not yet", 0, () -> x.of(3, 4));
        due("gone", 0, () -> x.tick(3, 1000000));
        due("lost", 2, () -> x.of(3, 4));
        due("lost ever", 2, () -> x.count(7));
        due("no id", -1, () -> x.tick(10, 0));
        due("reason", 1, () -> x.why(0));
        due("no id", -1, () -> x.tick(-1, 0));
        due("no time", -1, () -> x.tick(3, 1000001));
        due("reason", 1, () -> x.why(0));
        due("no time", -1, () -> x.tick(4, -1000001));
        due("none came", NO_ELEMENT, () -> x.of(4, 0));
        ThinSeries y = withPlan("most 1;");
        y.tick(0, 0);
        y.tick(1, 0);
        due("pushed out", 1, () -> y.count(5));
        due("series", 1, () -> y.count(3));
    }

    private static void drop() {
        promise = "8 drop";
        ThinSeries x = new ThinSeries();
        x.put(1, 0, 5);
        x.put(1, 0, 5);
        x.put(1, 30, 5);
        x.tick(2, 0);
        due("drop", 3, () -> x.drop(1));
        due("reason", 0, () -> x.why(0));
        due("none", -1, () -> x.drop(1));
        due("reason", 3, () -> x.why(0));
        due("empty", 0, () -> x.drop(2));
        due("no id", -1, () -> x.drop(10));
        due("reason", 1, () -> x.why(0));
        due("no id", -1, () -> x.drop(LEAST_INT));
        due("series", 0, () -> x.count(3));
        due("not pushed out", 0, () -> x.count(5));
        due("not lost", 0, () -> x.count(7));
        x.put(1, 1, 1);
        due("comes anew", 1, () -> x.of(1, 2));
        x.put(2, 1, 1);
        x.put(3, 1, 1);
        x.drop(2);
        due("order", 3, () -> x.used(0));
        due("order", 1, () -> x.used(1));
        due("order", NO_ELEMENT, () -> x.used(2));
    }

    private static void sheet() {
        promise = "9 sheet";
        ThinSeries x = new ThinSeries();
        due("rising", 60, () -> x.sheet(0, 60, 0, 1, -30, 1));
        due("sum", -30, () -> x.of(0, 7));
        due("least", -30, () -> x.of(0, 5));
        due("greatest", 29, () -> x.of(0, 6));
        due("head", 59, () -> x.of(0, 0));
        // falling by 1000 from 59: 59, -941 are in, -1941 and on are late (the last seam is -1800)
        due("falling", 2, () -> x.sheet(0, 5, 59, -1000, 0, 0));
        due("reason", 0, () -> x.why(0));
        due("late", 3, () -> x.of(0, 3));
        due("late ever", 3, () -> x.count(6));
        due("no values, not late", 0, () -> x.sheet(0, 5, -5000, 0, 10001, 1));
        due("late ever", 3, () -> x.count(6));
        due("values run out", 1, () -> x.sheet(1, 3, 0, 1, 10000, 1));
        due("values come", 1, () -> x.sheet(2, 3, 0, 1, 10002, -1));
        due("its value", 10000, () -> x.of(2, 5));
        due("its time", 2, () -> x.of(2, 0));
        due("times run out", 2, () -> x.sheet(3, 60, 0, 900000, 0, 0));
        due("head", 900000, () -> x.of(3, 0));
        due("no wrapping", 1, () -> x.sheet(4, 60, 0, MOST_INT, 0, MOST_INT));
        due("no wrapping", 1, () -> x.sheet(4, 60, 0, LEAST_INT, 0, LEAST_INT));
        due("no wrapping", 0, () -> x.sheet(5, 60, LEAST_INT, LEAST_INT, 0, 0));
        due("none comes", NO_ELEMENT, () -> x.of(5, 0));
        due("none", 0, () -> x.sheet(5, 0, 0, 0, 0, 0));
        due("none comes", NO_ELEMENT, () -> x.of(5, 0));
        due("reason", 0, () -> x.why(0));
        int[][] bad = {{10, 1}, {-1, 1}, {0, -1}, {0, 61}, {0, MOST_INT}, {0, LEAST_INT}};
        for (int[] b : bad) {
            due("refused", -1, () -> x.sheet(b[0], b[1], 0, 0, 0, 0));
            due("reason", 1, () -> x.why(0));
        }
    }

    private static void why() {
        promise = "10 why";
        ThinSeries x = new ThinSeries();
        x.put(0, 0, 0);
        x.put(0, -2000, 0);
        long[] late = {2, 0, 200, -1};
        for (int w = 0; w < 4; w++) {
            int what = w;
            due("late, " + w, late[w], () -> x.why(what));
        }
        x.tell(0);
        due("tell leaves it", 2, () -> x.why(0));
        due("what", NO_ELEMENT, () -> x.why(-1));
        due("what", NO_ELEMENT, () -> x.why(4));
        due("what", NO_ELEMENT, () -> x.why(MOST_INT));
        x.tick(0, 0);
        due("not refused", 0, () -> x.why(0));
        due("not refused", -1, () -> x.why(2));
        int n = type(x, "drop 0;drop 0;");
        x.batch(n);
        long[] refused = {4, 3, -1, 1};
        for (int w = 0; w < 4; w++) {
            int what = w;
            due("batch, " + w, refused[w], () -> x.why(what));
        }
        due("no such n", BAD_ARGUMENT, () -> x.batch(1));
        due("that changes nothing", 4, () -> x.why(0));
        x.sheet(0, 61, 0, 0, 0, 0);
        long[] sheet = {1, 0, -1, -1};
        for (int w = 0; w < 4; w++) {
            int what = w;
            due("sheet, " + w, sheet[w], () -> x.why(what));
        }
    }

    private static void count() {
        promise = "11 count";
        ThinSeries x = withPlan("tier 1 1;most 1;alarm not count>0;");
        int[] told = {1, 1, 1, 0, 0, 0, 0, 0};
        for (int w = 0; w < 8; w++) {
            int what = w;
            due("count " + w, told[w], () -> x.count(what));
        }
        x.put(0, 0, 0);
        x.put(0, 1, 0);
        x.put(0, 0, 0);
        x.sheet(0, 3, -1, -1, 0, 0);
        x.put(1, 0, 0);
        x.feed(0, 0, 0, 0, 0);
        int[] then = {1, 1, 1, 1, 20, 1, 4, 1};
        for (int w = 0; w < 8; w++) {
            int what = w;
            due("count " + w, then[w], () -> x.count(what));
        }
        due("what", NO_ELEMENT, () -> x.count(-1));
        due("what", NO_ELEMENT, () -> x.count(8));
        due("what", NO_ELEMENT, () -> x.count(LEAST_INT));
    }

    private static void tierAndUsed() {
        promise = "12 tier";
        ThinSeries x = withPlan("tier 3 4;tier 9 5;");
        due("span", 9, () -> x.tier(1, 0));
        due("keep", 5, () -> x.tier(1, 1));
        int[][] bad = {{2, 0}, {-1, 0}, {0, 2}, {0, -1}, {MOST_INT, 0}, {LEAST_INT, 0}, {0, MOST_INT}};
        for (int[] b : bad) {
            due("none", NO_ELEMENT, () -> x.tier(b[0], b[1]));
        }
        promise = "13 used";
        x.put(5, 0, 0);
        x.put(6, 0, 0);
        x.tick(5, -1);
        due("last", 5, () -> x.used(0));
        due("ahead of it", 6, () -> x.used(1));
        due("none", NO_ELEMENT, () -> x.used(2));
        due("none", NO_ELEMENT, () -> x.used(-1));
        due("none", NO_ELEMENT, () -> x.used(MOST_INT));
        due("none", NO_ELEMENT, () -> x.used(LEAST_INT));
    }

    private static void of() {
        promise = "14 of";
        ThinSeries x = new ThinSeries();
        x.tick(0, 0);
        long[] empty = {0, 0, 0, 0, 0, -20000, -20000, 0};
        for (int w = 0; w < 8; w++) {
            int what = w;
            due("empty " + w, empty[w], () -> x.of(0, what));
        }
        x.put(0, 0, 3);
        x.put(0, -1000, -7);
        x.put(0, -2000, 100);
        x.put(0, 9, 4);
        long[] some = {9, 2, 3, 1, 0, -7, 4, 0};
        for (int w = 0; w < 8; w++) {
            int what = w;
            due("some " + w, some[w], () -> x.of(0, what));
        }
        x.tick(0, 1750);
        // seams 1680, 1200, 0: -1000 is gone
        long[] less = {1750, 1, 2, 1, 1, 3, 4, 7};
        for (int w = 0; w < 8; w++) {
            int what = w;
            due("less " + w, less[w], () -> x.of(0, what));
        }
        int[][] bad = {{1, 0}, {10, 0}, {-1, 0}, {0, -1}, {0, 8}, {MOST_INT, 0}, {LEAST_INT, 0}};
        for (int[] b : bad) {
            due("none", NO_ELEMENT, () -> x.of(b[0], b[1]));
        }
    }

    private static void seam() {
        promise = "15 seam";
        ThinSeries x = new ThinSeries();
        x.tick(0, -1);
        due("below 0", -60, () -> x.seam(0, 0));
        due("below 0", -600, () -> x.seam(0, 1));
        due("below 0", -1800, () -> x.seam(0, 2));
        x.tick(0, 109);
        due("on the multiple less one", 0, () -> x.seam(0, 0));
        x.tick(0, 110);
        due("on the multiple", 60, () -> x.seam(0, 0));
        ThinSeries y = withPlan("tier 7 2;");
        y.tick(0, 15);
        due("a single tier looks for no multiple", 7, () -> y.seam(0, 0));
        y.tick(1, -15);
        due("below 0", -28, () -> y.seam(1, 0));
        due("no tier", NO_ELEMENT, () -> y.seam(0, 1));
        due("no tier", NO_ELEMENT, () -> y.seam(0, -1));
        due("no tier", NO_ELEMENT, () -> y.seam(0, MOST_INT));
        due("no series", NO_ELEMENT, () -> y.seam(2, 0));
        ThinSeries z = withPlan("tier 12500 20;tier 25000 20;tier 50000 20;tier 100000 20;");
        z.tick(0, -1000000);
        due("far", -1250000, () -> z.seam(0, 0));
        due("far", -1750000, () -> z.seam(0, 1));
        due("far", -2800000, () -> z.seam(0, 2));
        due("far", -4800000, () -> z.seam(0, 3));
    }

    private static void buckets() {
        promise = "16, 17 buckets, bucket";
        ThinSeries x = new ThinSeries();
        x.put(0, 0, -3);
        x.put(0, 9, -4);
        x.put(0, -1, 7);
        x.put(0, -100, 1);
        due("tier 0", 2, () -> x.buckets(0, 0));
        due("tier 1", 1, () -> x.buckets(0, 1));
        due("tier 2", 0, () -> x.buckets(0, 2));
        due("no tier", NO_ELEMENT, () -> x.buckets(0, 3));
        due("no tier", NO_ELEMENT, () -> x.buckets(0, -1));
        due("no series", NO_ELEMENT, () -> x.buckets(1, 0));
        long[] last = {0, 2, -7, -4, -3, -4};
        long[] first = {-10, 1, 7, 7, 7, 7};
        long[] wider = {-120, 1, 1, 1, 1, 1};
        for (int w = 0; w < 6; w++) {
            int what = w;
            due("last " + w, last[w], () -> x.bucket(0, 0, 1, what));
            due("first " + w, first[w], () -> x.bucket(0, 0, 0, what));
            due("wider " + w, wider[w], () -> x.bucket(0, 1, 0, what));
        }
        int[][] bad = {{1, 0, 0, 0}, {0, 3, 0, 0}, {0, -1, 0, 0}, {0, 0, 2, 0}, {0, 0, -1, 0}, {0, 2, 0, 0},
            {0, 0, 0, 6}, {0, 0, 0, -1}, {0, 0, MOST_INT, 0}, {0, 0, LEAST_INT, 0}, {0, 1, 1, 0}, {0, MOST_INT, 0, 0}};
        for (int[] b : bad) {
            due("none", NO_ELEMENT, () -> x.bucket(b[0], b[1], b[2], b[3]));
        }
        x.tick(0, 60);
        // seam 0 is 0: -10 comes to -60 in tier 1, beside -120
        due("tier 0", 1, () -> x.buckets(0, 0));
        due("tier 1", 2, () -> x.buckets(0, 1));
        due("start", -60, () -> x.bucket(0, 1, 1, 0));
        x.put(0, -59, -2);
        due("sum", 5, () -> x.bucket(0, 1, 1, 2));
        due("least", -2, () -> x.bucket(0, 1, 1, 3));
        due("greatest", 7, () -> x.bucket(0, 1, 1, 4));
        due("mean", 2, () -> x.bucket(0, 1, 1, 5));
    }

    private static void at() {
        promise = "18 at";
        ThinSeries x = new ThinSeries();
        x.put(0, 0, 1);
        x.put(0, 3, 1);
        long[][] rows = {{5, 0, 0, 2}, {1000000, 0, 1000000, 0}, {-60, 0, -60, 0}, {-61, 1, -120, 0}, {-601, 2, -900, 0},
            {-1800, 2, -1800, 0}, {-1801, -1, -20000, 0}, {-1000000, -1, -20000, 0}};
        for (long[] r : rows) {
            for (int w = 0; w < 3; w++) {
                int what = w;
                due("at " + r[0] + ", " + w, r[w + 1], () -> x.at(0, (int) r[0], what));
            }
        }
        int[][] bad = {{1, 0, 0}, {0, 1000001, 0}, {0, -1000001, 0}, {0, 0, 3}, {0, 0, -1}, {0, LEAST_INT, 0}};
        for (int[] b : bad) {
            due("none", NO_ELEMENT, () -> x.at(b[0], b[1], b[2]));
        }
    }

    private static void total() {
        promise = "19 total";
        ThinSeries x = new ThinSeries();
        x.put(0, 0, 1);
        x.put(0, 10, 2);
        x.put(0, 11, 4);
        x.put(0, 20, 8);
        x.put(0, -100, 16);
        long[][] rows = {
            {0, 30, 4, 15, 1, 8, 0, 3, 0}, {0, 20, 3, 7, 1, 4, 0, 2, 0}, {1, 20, 2, 6, 2, 4, 1, 1, 1},
            {0, 19, 1, 1, 1, 1, 2, 1, 1}, {5, 5, 0, 0, -20000, -20000, 0, 0, 0}, {5, 6, 0, 0, -20000, -20000, 1, 0, 1},
            {10, 10, 0, 0, -20000, -20000, 0, 0, 0}, {-120, 0, 1, 16, 16, 16, 0, 1, 0}, {-119, 0, 0, 0, -20000, -20000, 1, 0, 1},
            {-61, 1, 0, 0, -20000, -20000, 2, 0, 2}, {-60, 0, 0, 0, -20000, -20000, 0, 0, 0},
            {-1000000, 1000000, 5, 31, 1, 16, 0, 4, 0}, {30, 1000, 0, 0, -20000, -20000, 0, 0, 0}};
        for (long[] r : rows) {
            for (int w = 0; w < 7; w++) {
                int what = w;
                due("total " + r[0] + " to " + r[1] + ", " + w, r[w + 2], () -> x.total(0, (int) r[0], (int) r[1], what));
            }
        }
        due("the second below", BAD_ARGUMENT, () -> x.total(0, 1, 0, 0));
        due("no time", BAD_ARGUMENT, () -> x.total(0, -1000001, 0, 0));
        due("no time", BAD_ARGUMENT, () -> x.total(0, 0, 1000001, 0));
        due("no time", BAD_ARGUMENT, () -> x.total(0, LEAST_INT, MOST_INT, 6));
        due("no series first", NO_ELEMENT, () -> x.total(1, 1, 0, 0));
        due("what first", NO_ELEMENT, () -> x.total(0, 1, 0, 7));
        due("what first", NO_ELEMENT, () -> x.total(0, 1, 0, -1));
        ThinSeries y = new ThinSeries();
        y.put(0, 1000000, 1);
        y.put(1, -1000000, 1);
        due("the last time isn't in it", 0, () -> y.total(0, 0, 1000000, 6));
        due("the first time is", 1, () -> y.total(1, -1000000, -999990, 5));
    }

    private static void gap() {
        promise = "20 gap";
        ThinSeries x = withPlan("tier 5 20;tier 100 3;");
        due("no series", NO_ELEMENT, () -> x.gap(0, 0, -1, false));
        x.tick(0, 195);
        due("empty", 0, () -> x.gap(0, 0, -1, true));
        x.put(0, 101, 1);
        due("one", 0, () -> x.gap(0, 0, -1, true));
        x.put(0, 105, 1);
        due("side by side", 0, () -> x.gap(0, 0, -1, true));
        x.put(0, 118, 1);
        x.put(0, 125, 1);
        x.put(0, 195, 1);
        // starts 100, 105, 115, 125, 195
        int[][] gaps = {{110, 1}, {120, 1}, {130, 13}};
        due("many", 3, () -> x.gap(0, 0, -1, false));
        for (int g = 0; g < 3; g++) {
            int i = g;
            due("first " + g, gaps[g][0], () -> x.gap(0, 0, i, false));
            due("how many " + g, gaps[g][1], () -> x.gap(0, 0, i, true));
        }
        int[][] bad = {{0, 0, 3}, {0, 0, -2}, {0, 2, -1}, {0, -1, -1}, {0, 1, 0}, {1, 0, -1}, {0, 0, MOST_INT}, {0, 0, LEAST_INT}};
        for (int[] b : bad) {
            due("none", NO_ELEMENT, () -> x.gap(b[0], b[1], b[2], false));
            due("none", NO_ELEMENT, () -> x.gap(b[0], b[1], b[2], true));
        }
        due("another tier", 0, () -> x.gap(0, 1, -1, false));
    }

    private static void bar() {
        promise = "21 bar";
        ThinSeries x = new ThinSeries();
        x.put(0, 0, 5);
        x.put(0, 299, 6);
        x.put(0, 300, 7);
        x.put(0, -1, 9);
        x.put(0, -299, -9);
        long[][] rows = {{300, 0, 2, 11, 5, 6}, {300, 299, 2, 11, 5, 6}, {300, 300, 1, 7, 7, 7}, {300, -1, 2, 0, -9, 9},
            {600, 0, 3, 18, 5, 7}, {600, -600, 2, 0, -9, 9}, {300, 600, 0, 0, -20000, -20000}, {999900, 1000000, 0, 0, -20000, -20000},
            {999900, 0, 3, 18, 5, 7}, {300, 1000000, 0, 0, -20000, -20000}, {300, -1000000, 0, 0, -20000, -20000}};
        for (long[] r : rows) {
            for (int w = 0; w < 4; w++) {
                int what = w;
                due("bar " + r[0] + " at " + r[1] + ", " + w, r[w + 2], () -> x.bar(0, (int) r[0], (int) r[1], what));
            }
        }
        int[] bad = {0, -300, 299, 301, 60, 150, 1000200, 1000000, MOST_INT, LEAST_INT};
        for (int w : bad) {
            due("no such w " + w, BAD_ARGUMENT, () -> x.bar(0, w, 0, 0));
        }
        due("no time", BAD_ARGUMENT, () -> x.bar(0, 300, 1000001, 0));
        due("no time", BAD_ARGUMENT, () -> x.bar(0, 300, -1000001, 0));
        due("what first", NO_ELEMENT, () -> x.bar(0, 0, 0, 4));
        due("what first", NO_ELEMENT, () -> x.bar(0, 0, 0, -1));
        due("series first", NO_ELEMENT, () -> x.bar(1, 0, 0, 0));
        ThinSeries y = withPlan("tier 5 2;tier 1000 2;");
        y.put(0, 5, 5);
        due("the widest", 1, () -> y.bar(0, 1000000, 999999, 0));
        due("the widest", 0, () -> y.bar(0, 1000000, 1000000, 0));
    }

    private static void alarms() {
        promise = "22 alarms";
        ThinSeries x = withPlan("tier 10 6;tier 60 5;alarm sum > 4;");
        x.tick(0, 100);
        long[] none = {0, -20000, 0, -20000};
        for (int w = 0; w < 4; w++) {
            int what = w;
            due("none " + w, none[w], () -> x.alarms(0, what));
        }
        // head 100: seams 0, -300; tier 1 has -120, -60; -60 and 0 aren't in one row
        int[][] points = {{-120, 5}, {-60, 5}, {0, 5}, {10, 5}, {20, 4}, {30, 5}, {40, 5}, {60, 5}, {70, 5}};
        for (int[] p : points) {
            x.put(0, p[0], p[1]);
        }
        long[] some = {8, -120, 2, -120};
        for (int w = 0; w < 4; w++) {
            int what = w;
            due("some " + w, some[w], () -> x.alarms(0, what));
        }
        x.put(0, 50, 9);
        long[] more = {9, -120, 5, 30};
        for (int w = 0; w < 4; w++) {
            int what = w;
            due("more " + w, more[w], () -> x.alarms(0, what));
        }
        due("what", NO_ELEMENT, () -> x.alarms(0, 4));
        due("what", NO_ELEMENT, () -> x.alarms(0, -1));
        due("no series", NO_ELEMENT, () -> x.alarms(1, 0));
        ThinSeries y = withPlan("most 1;");
        y.put(0, 0, 1);
        due("no alarm", 0, () -> y.alarms(0, 0));
        due("no alarm", -20000, () -> y.alarms(0, 3));
    }

    /** One bucket of -3, 4 (sum 1, mean 0) in tier 0 and one of -5, -2 (sum -7, mean -4) in tier 1. */
    private static void alarm(String test, int want) {
        ThinSeries x = withPlan("tier 10 6;tier 60 5;alarm " + test + ";");
        x.put(0, 100, -3);
        x.put(0, 101, 4);
        x.put(0, -1, -5);
        x.put(0, -2, -2);
        due("alarm " + test, want, () -> x.alarms(0, 0) * 1000 + (x.alarms(0, 0) == 0 ? 0 : x.alarms(0, 1)));
    }

    private static void alarmTexts() {
        promise = "22 alarms, texts";
        int first = 1100;
        int second = 940;
        int both = 1940;
        alarm("least = -3", first);
        alarm("least < -3", second);
        alarm("greatest > -2", first);
        alarm("greatest = -2", second);
        alarm("sum = 1", first);
        alarm("sum = -7", second);
        alarm("mean = 0", first);
        alarm("mean = -4", second);
        alarm("mean < 0", second);
        alarm("count = 2", both);
        alarm("count > 2", 0);
        alarm("count < 2", 0);
        alarm("tier = 0", first);
        alarm("tier > 0", second);
        alarm("not tier > 0", first);
        alarm("not not tier > 0", second);
        alarm("sum = 1 or sum = -7", both);
        alarm("sum = 1 and sum = -7", 0);
        alarm("tier = 0 or tier = 1 and sum = 99", first);
        alarm("sum = 99 and tier = 1 or tier = 0", first);
        alarm("(tier = 0 or tier = 1) and sum = 99", 0);
        alarm("not tier = 0 and sum = 1", 0);
        alarm("not (tier = 0 and sum = 2)", both);
        alarm("not tier = 0 or sum = 1", both);
        alarm("tier=0 and(tier=1 or tier=0 and(tier=1 or tier=0 and(tier=1 or tier=0 and(tier=1 or tier=0 and(tier=1 or tier=0 and(tier=1 or tier=0))))))", first);
        alarm("tier=1 or tier=9 and(tier=8 or tier=7 and(tier=8 or tier=7 and(tier=8 or tier=7)))or tier=6", second);
    }

    private static void would() {
        promise = "23 would";
        ThinSeries x = new ThinSeries();
        x.put(0, 0, 1);
        x.put(0, 10, 1);
        x.put(0, 10, 1);
        x.put(0, -100, 1);
        // buckets 10, 0 in tier 0, -120 in tier 1
        long[][] rows = {{-1000000, 3, 0, 0}, {10, 3, 0, 0}, {109, 3, 0, 0}, {110, 2, 0, 2}, {530, 2, 0, 3}, {1000, 2, 0, 3},
            {1549, 2, 0, 3}, {1550, 1, 1, 3}, {1849, 1, 1, 3}, {1850, 0, 4, 3}, {1000000, 0, 4, 3}};
        for (long[] r : rows) {
            for (int w = 0; w < 3; w++) {
                int what = w;
                due("would " + r[0] + ", " + w, r[w + 1], () -> x.would(0, (int) r[0], what));
            }
        }
        due("it doesn't", 10, () -> x.of(0, 0));
        due("it doesn't", 3, () -> x.of(0, 1));
        due("no time", BAD_ARGUMENT, () -> x.would(0, 1000001, 0));
        due("no time", BAD_ARGUMENT, () -> x.would(0, LEAST_INT, 0));
        due("what first", NO_ELEMENT, () -> x.would(0, 1000001, 3));
        due("what first", NO_ELEMENT, () -> x.would(0, 1000001, -1));
        due("series first", NO_ELEMENT, () -> x.would(1, 1000001, 0));
    }

    private static void until() {
        promise = "24 until";
        ThinSeries x = new ThinSeries();
        x.put(0, 100, 1);
        // seams of 100: 0, -300, -1500
        due("already", 100, () -> x.until(0, 0, -1));
        due("the seam itself isn't", 110, () -> x.until(0, 0, 0));
        due("gone already", 100, () -> x.until(0, 2, -1501));
        due("last tier", 110, () -> x.until(0, 0, 59));
        due("next", 170, () -> x.until(0, 0, 60));
        due("never", -1, () -> x.until(0, 0, 1000000));
        due("last", 999950, () -> x.until(0, 0, 999899));
        due("too far", -1, () -> x.until(0, 0, 999900));
        due("no time", BAD_ARGUMENT, () -> x.until(0, 0, 1000001));
        due("no time", BAD_ARGUMENT, () -> x.until(0, 0, LEAST_INT));
        due("tier first", NO_ELEMENT, () -> x.until(0, 3, 1000001));
        due("tier first", NO_ELEMENT, () -> x.until(0, -1, 1000001));
        due("series first", NO_ELEMENT, () -> x.until(1, 0, 1000001));
        ThinSeries y = withPlan("tier 1 1;");
        y.put(0, -50, 0);
        due("-1 can be a head", -1, () -> y.until(0, 0, -2));
        due("head 1000000", 1000000, () -> y.until(0, 0, 999999));
        due("never", -1, () -> y.until(0, 0, 1000000));
    }

    private static void trend() {
        promise = "25 trend";
        ThinSeries x = new ThinSeries();
        x.tick(0, 50);
        long[] none = {0, 0, 0, -20000};
        for (int w = 0; w < 4; w++) {
            int what = w;
            due("none " + w, none[w], () -> x.trend(0, 0, what));
        }
        // seam 0 of 50 is 0; means 5, 3, 7, 7, 11, 1
        int[] values = {5, 3, 7, 7, 11, 1};
        for (int i = 0; i < 6; i++) {
            x.put(0, i * 10, values[i]);
        }
        long[] some = {2, 2, 4, 20};
        for (int w = 0; w < 4; w++) {
            int what = w;
            due("some " + w, some[w], () -> x.trend(0, 0, what));
        }
        x.put(0, 25, 6);
        // the mean of 7 and 6 is 6: rises 3, 1, 4
        long[] more = {3, 2, 4, 40};
        for (int w = 0; w < 4; w++) {
            int what = w;
            due("more " + w, more[w], () -> x.trend(0, 0, what));
        }
        due("another tier", 0, () -> x.trend(0, 1, 0));
        int[][] bad = {{1, 0, 0}, {0, 3, 0}, {0, -1, 0}, {0, 0, 4}, {0, 0, -1}};
        for (int[] b : bad) {
            due("none", NO_ELEMENT, () -> x.trend(b[0], b[1], b[2]));
        }
    }

    private static void both() {
        promise = "26 both";
        ThinSeries x = new ThinSeries();
        x.tick(0, 50);
        x.tick(1, 110);
        due("none", 0, () -> x.both(0, 1, 0));
        due("none", 0, () -> x.both(0, 1, 1));
        due("none", -20000, () -> x.both(0, 1, 2));
        // seam 0 of 0 is 0, of 1 is 60: start 0 is in tier 0 of the one, in tier 1 of the other
        x.put(0, 0, 9);
        x.put(1, 0, 3);
        due("in another tier", 0, () -> x.both(0, 1, 0));
        x.put(0, -60, 9);
        x.put(1, -1, -10000);
        x.put(0, -120, -10000);
        x.put(1, -120, 10000);
        x.put(0, -180, 4);
        x.put(1, -180, 4);
        x.put(0, -240, 4);
        due("both", 3, () -> x.both(0, 1, 0));
        due("greater", 1, () -> x.both(0, 1, 1));
        due("greater", 1, () -> x.both(1, 0, 1));
        due("apart", 20000, () -> x.both(0, 1, 2));
        due("apart", 20000, () -> x.both(1, 0, 2));
        due("itself", 5, () -> x.both(0, 0, 0));
        due("itself", 0, () -> x.both(0, 0, 2));
        int[][] bad = {{0, 2, 0}, {2, 0, 0}, {0, 1, 3}, {0, 1, -1}, {LEAST_INT, 0, 0}, {0, MOST_INT, 0}};
        for (int[] b : bad) {
            due("none", NO_ELEMENT, () -> x.both(b[0], b[1], b[2]));
        }
    }

    private static void anyOrder() {
        promise = "the same points in another order leave the same buckets";
        int[] times = {0, 35, 61, 62, 119, 120, 240, 301, 333, 500, 555, 700};
        ThinSeries x = new ThinSeries();
        ThinSeries y = new ThinSeries();
        for (int i = 0; i < times.length; i++) {
            int k = times.length - 1 - i;
            x.put(0, times[i], i);
            y.put(0, times[k], k);
        }
        for (int t = 0; t < 3; t++) {
            int tier = t;
            due("tier " + t, x.buckets(0, t), () -> y.buckets(0, tier));
            for (int b = 0; b < x.buckets(0, t); b++) {
                for (int w = 0; w < 6; w++) {
                    int i = b;
                    int what = w;
                    due("bucket " + t + ", " + b + ", " + w, x.bucket(0, t, b, w), () -> y.bucket(0, tier, i, what));
                }
            }
        }
    }
}
