import java.util.ArrayList;
import java.util.HashSet;
import java.util.LinkedHashMap;
import java.util.List;
import java.util.Map;
import java.util.NoSuchElementException;
import java.util.Random;
import java.util.Set;
import java.util.TreeMap;
import java.util.function.Predicate;
import java.util.regex.Matcher;
import java.util.regex.Pattern;

/**
 * Random runs of calls, each answer held against a plain model that keeps every point
 * and makes the buckets anew, word by word as the document tells them.
 */
public final class ModelTest {
    private static final long NO_ELEMENT = Long.MIN_VALUE;
    private static final long BAD_ARGUMENT = Long.MIN_VALUE + 1;
    private static final int RUNS = 3000;
    private static final int CALLS = 480;
    private static int wrong = 0;

    private interface Call {
        long answer();
    }

    public static void main(String[] args) {
        for (int seed = 0; seed < RUNS && wrong < 20; seed++) {
            new Run(seed).go();
        }
        System.out.println(wrong == 0 ? "the model agrees" : wrong + " answers differ from the model");
        if (wrong != 0) {
            System.exit(1);
        }
    }

    private static long ask(Call call) {
        try {
            return call.answer();
        } catch (NoSuchElementException e) {
            return NO_ELEMENT;
        } catch (IllegalArgumentException e) {
            return BAD_ARGUMENT;
        }
    }

    private static final class Run {
        final Random random;
        final int seed;
        final ThinSeries real = new ThinSeries();
        final Model model = new Model();
        final StringBuilder log = new StringBuilder();
        int calls = 0;
        /** Each fourth run has spans and stretches up to the document's greatest, and all IDs. */
        final boolean wide;
        int centre;
        int spread;

        Run(int seed) {
            this.seed = seed;
            random = new Random(seed);
            centre = pick(0, 0, 1000, -1000, 999000, -999000, 500000);
            wide = seed % 4 == 3;
            spread = wide ? pick(3000, 100000, 1000000, 2000000) : pick(50, 400, 3000, 100000);
        }

        int pick(int... of) {
            return of[random.nextInt(of.length)];
        }

        void check(String name, Call got, Call want) {
            calls++;
            long g = ask(got);
            long w = ask(want);
            log.append(name).append(" = ").append(g).append('\n');
            if (g != w) {
                wrong++;
                System.out.println("seed " + seed + ", call " + calls + ": " + name + " answered " + g + ", the model " + w);
                if (wrong == 1) {
                    System.out.println(log);
                }
            }
        }

        void go() {
            if (random.nextInt(3) > 0) {
                text(true);
            }
            while (calls < CALLS && wrong < 20) {
                int dice = random.nextInt(100);
                if (dice < 3) {
                    text(true);
                } else if (dice < 12) {
                    text(false);
                } else if (dice < 50) {
                    change();
                } else {
                    look();
                }
                if (random.nextInt(40) == 0) {
                    centre += random.nextInt(spread);
                }
            }
        }

        int id() {
            return random.nextInt(40) == 0 ? pick(-1, 10, Integer.MAX_VALUE, Integer.MIN_VALUE) : random.nextInt(wide ? 10 : 7);
        }

        int time() {
            if (random.nextInt(60) == 0) {
                return pick(1000001, -1000001, 1000000, -1000000, Integer.MAX_VALUE, Integer.MIN_VALUE);
            }
            return centre + random.nextInt(spread) - spread / 2;
        }

        int value() {
            if (random.nextInt(60) == 0) {
                return pick(10001, -10001, 10000, -10000, Integer.MAX_VALUE, Integer.MIN_VALUE);
            }
            return random.nextInt(21) - 10;
        }

        int what(int most) {
            return random.nextInt(40) == 0 ? pick(-1, most + 1, Integer.MAX_VALUE, Integer.MIN_VALUE) : random.nextInt(most + 1);
        }

        int tier() {
            return random.nextInt(30) == 0 ? pick(-1, 4, Integer.MAX_VALUE, Integer.MIN_VALUE) : random.nextInt(model.spans.length);
        }

        void change() {
            int id = id();
            int time = time();
            int value = value();
            int dice = random.nextInt(20);
            if (dice < 10) {
                check("put(" + id + ", " + time + ", " + value + ")", () -> real.put(id, time, value), () -> model.put(id, time, value));
            } else if (dice < 13) {
                check("tick(" + id + ", " + time + ")", () -> real.tick(id, time), () -> model.tick(id, time));
            } else if (dice < 14) {
                check("drop(" + id + ")", () -> real.drop(id), () -> model.drop(id));
            } else {
                int n = random.nextInt(20) == 0 ? pick(-1, 60, 61, Integer.MAX_VALUE, Integer.MIN_VALUE) : random.nextInt(13);
                int step = random.nextInt(20) == 0 ? pick(Integer.MAX_VALUE, Integer.MIN_VALUE, 0, 400000) : (random.nextInt(61) - 25) * (wide ? 997 : 1);
                int rise = random.nextInt(20) == 0 ? pick(Integer.MAX_VALUE, Integer.MIN_VALUE, 0, 4000) : random.nextInt(7) - 3;
                check("sheet(" + id + ", " + n + ", " + time + ", " + step + ", " + value + ", " + rise + ")",
                        () -> real.sheet(id, n, time, step, value, rise), () -> model.sheet(id, n, time, step, value, rise));
            }
            whys();
        }

        void whys() {
            if (random.nextInt(4) > 0) {
                return;
            }
            for (int w = 0; w < 4; w++) {
                int what = w;
                check("why(" + what + ")", () -> real.why(what), () -> model.why[what]);
            }
            int what = what(7);
            check("count(" + what + ")", () -> real.count(what), () -> model.count(what));
        }

        void look() {
            int id = id();
            int time = time();
            int tier = tier();
            int i = random.nextInt(8) - 1;
            switch (random.nextInt(18)) {
                case 0: { int w = what(7); check("count(" + w + ")", () -> real.count(w), () -> model.count(w)); break; }
                case 1: { int w = what(1); check("tier(" + tier + ", " + w + ")", () -> real.tier(tier, w), () -> model.tier(tier, w)); break; }
                case 2: check("used(" + i + ")", () -> real.used(i), () -> model.used(i)); break;
                case 3: case 4: { int w = what(7); check("of(" + id + ", " + w + ")", () -> real.of(id, w), () -> model.of(id, w)); break; }
                case 5: check("seam(" + id + ", " + tier + ")", () -> real.seam(id, tier), () -> model.seam(id, tier)); break;
                case 6: check("buckets(" + id + ", " + tier + ")", () -> real.buckets(id, tier), () -> model.buckets(id, tier)); break;
                case 7: case 8: { int w = what(5); check("bucket(" + id + ", " + tier + ", " + i + ", " + w + ")", () -> real.bucket(id, tier, i, w), () -> model.bucket(id, tier, i, w)); break; }
                case 9: { int w = what(2); check("at(" + id + ", " + time + ", " + w + ")", () -> real.at(id, time, w), () -> model.at(id, time, w)); break; }
                case 10: { int w = what(6); int to = random.nextInt(9) == 0 ? time() : time + random.nextInt(spread);
                    check("total(" + id + ", " + time + ", " + to + ", " + w + ")", () -> real.total(id, time, to, w), () -> model.total(id, time, to, w)); break; }
                case 11: { boolean many = random.nextBoolean(); int g = random.nextInt(30) == 0 ? pick(-2, Integer.MIN_VALUE, Integer.MAX_VALUE) : random.nextInt(4) - 1;
                    check("gap(" + id + ", " + tier + ", " + g + ", " + many + ")", () -> real.gap(id, tier, g, many), () -> model.gap(id, tier, g, many)); break; }
                case 12: { int w = what(3); int last = model.spans[model.spans.length - 1];
                    int width = random.nextInt(8) == 0 ? pick(0, -last, last + 1, 1000000, 1000000 / last * last + last, Integer.MAX_VALUE, Integer.MIN_VALUE, last / 2) : last * (1 + random.nextInt(4));
                    check("bar(" + id + ", " + width + ", " + time + ", " + w + ")", () -> real.bar(id, width, time, w), () -> model.bar(id, width, time, w)); break; }
                case 13: { int w = what(3); check("alarms(" + id + ", " + w + ")", () -> real.alarms(id, w), () -> model.alarms(id, w)); break; }
                case 14: { int w = what(2); check("would(" + id + ", " + time + ", " + w + ")", () -> real.would(id, time, w), () -> model.would(id, time, w)); break; }
                case 15: check("until(" + id + ", " + tier + ", " + time + ")", () -> real.until(id, tier, time), () -> model.until(id, tier, time)); break;
                case 16: { int w = what(3); check("trend(" + id + ", " + tier + ", " + w + ")", () -> real.trend(id, tier, w), () -> model.trend(id, tier, w)); break; }
                default: { int w = what(2); int other = id(); check("both(" + id + ", " + other + ", " + w + ")", () -> real.both(id, other, w), () -> model.both(id, other, w)); break; }
            }
        }

        void text(boolean plan) {
            String text = plan ? planText() : batchText();
            if (random.nextInt(4) == 0) {
                text = spoil(text);
            }
            if (text.length() > 600) {
                text = text.substring(0, 600);
            }
            feed(text);
            int n = random.nextInt(30) == 0 ? pick(-1, 601, model.tape.length() + 1, model.tape.length(), Integer.MAX_VALUE, Integer.MIN_VALUE) : text.length();
            if (plan) {
                check("tell(" + n + ")", () -> real.tell(n), () -> model.tell(n));
            } else {
                check("batch(" + n + ")", () -> real.batch(n), () -> model.batch(n));
            }
            check("fault()", () -> real.fault(), () -> model.fault);
            check("count(4)", () -> real.count(4), () -> model.count(4));
            whys();
        }

        void feed(String text) {
            log.append("text: ").append(text).append('\n');
            for (int i = 0; i < text.length(); i += 20) {
                int[] w = new int[5];
                for (int k = 0; k < 20; k++) {
                    int sign = i + k < text.length() ? text.charAt(i + k) & 255 : ' ';
                    w[k / 4] = w[k / 4] << 8 | sign;
                }
                check("feed(..)", () -> real.feed(w[0], w[1], w[2], w[3], w[4]), () -> model.feed(w));
            }
        }

        String planText() {
            StringBuilder text = new StringBuilder();
            int tiers = pick(0, 1, 2, 3, 4, 4, 5);
            int span = wide ? pick(1, 3, 7, 100, 1000, 12500, 25000, 50000) : pick(1, 2, 5, 10, 100);
            boolean alarmFirst = random.nextBoolean();
            if (alarmFirst) {
                alarmText(text);
            }
            for (int i = 0; i < tiers; i++) {
                text.append("tier ").append(span).append(' ').append(random.nextInt(25) == 0 ? pick(0, 20, 21) : 1 + random.nextInt(wide ? 20 : 6)).append(';');
                span = random.nextInt(25) == 0 ? pick(0, span, span + 1, 100000, 100001, 12345678) : span * (wide ? pick(2, 2, 4, 8, 50) : pick(2, 3, 4, 10));
                if (random.nextInt(5) == 0) {
                    text.append("most ").append(1 + random.nextInt(6)).append(" ;\n");
                }
            }
            if (!alarmFirst || random.nextInt(4) == 0) {
                alarmText(text);
            }
            return text.toString();
        }

        void alarmText(StringBuilder text) {
            if (random.nextInt(4) > 0) {
                text.append("alarm ");
                testText(text, 0);
                text.append(";");
            }
        }

        void testText(StringBuilder text, int depth) {
            int alls = pick(1, 1, 2, 3);
            for (int i = 0; i < alls; i++) {
                text.append(i > 0 ? " or " : "");
                int units = pick(1, 1, 2, 3);
                for (int k = 0; k < units; k++) {
                    text.append(k > 0 ? " and " : "");
                    unitText(text, depth);
                }
            }
        }

        void unitText(StringBuilder text, int depth) {
            int dice = depth > 7 ? 9 : random.nextInt(10);
            if (dice < 2) {
                text.append("not ");
                unitText(text, depth + 1);
            } else if (dice < 4 && text.length() < 300) {
                text.append('(');
                testText(text, depth + 1);
                text.append(')');
            } else {
                String[] facts = {"least", "greatest", "sum", "count", "mean", "tier"};
                text.append(facts[random.nextInt(6)]).append("<=>".charAt(random.nextInt(3)));
                text.append(random.nextInt(3) == 0 ? "-" : "").append(random.nextInt(random.nextInt(20) == 0 ? 100000000 : 6));
            }
        }

        String batchText() {
            StringBuilder text = new StringBuilder();
            int lines = random.nextInt(6);
            for (int i = 0; i < lines; i++) {
                int dice = random.nextInt(12);
                text.append(dice < 7 ? "put " : dice < 11 ? "tick " : "drop ");
                text.append(random.nextInt(60) == 0 ? 10 : random.nextInt(7)).append(random.nextBoolean() ? " " : "\n ");
                if (dice < 11) {
                    text.append(time());
                }
                if (dice < 7) {
                    text.append(' ').append(value());
                }
                text.append(';');
            }
            return text.toString();
        }

        String spoil(String text) {
            if (text.isEmpty()) {
                return pick(0, 1) == 0 ? " " : "!";
            }
            int place = random.nextInt(text.length());
            String odd = "; -()<=>\n0 19az@`{/:\t" + (char) 13 + (char) 0 + (char) 233 + (char) 127;
            switch (random.nextInt(4)) {
                case 0: return text.substring(0, place);
                case 1: return text.substring(0, place) + text.substring(place + 1);
                case 2: return text.substring(0, place) + odd.charAt(random.nextInt(odd.length())) + text.substring(place);
                default: return text.substring(0, place) + odd.charAt(random.nextInt(odd.length())) + text.substring(place + 1);
            }
        }
    }

    private static final class Fault extends RuntimeException {
        private static final long serialVersionUID = 1;
        final int kind;
        final int place;

        Fault(int kind, int place) {
            this.kind = kind;
            this.place = place;
        }
    }

    private static final class Refused extends RuntimeException {
        private static final long serialVersionUID = 1;
        final int reason;
        final int much;

        Refused(int reason, int much) {
            this.reason = reason;
            this.much = much;
        }
    }

    private static final class Bucket {
        int tier;
        int start;
        final List<Integer> values = new ArrayList<>();

        int count() {
            return values.size();
        }

        long sum() {
            return values.stream().mapToLong(v -> v).sum();
        }

        int least() {
            return values.stream().mapToInt(v -> v).min().getAsInt();
        }

        int greatest() {
            return values.stream().mapToInt(v -> v).max().getAsInt();
        }

        long mean() {
            return Math.floorDiv(sum(), (long) count());
        }
    }

    private static final class Held {
        int head;
        int late;
        int lost;
        List<int[]> points = new ArrayList<>();

        Held copy() {
            Held c = new Held();
            c.head = head;
            c.late = late;
            c.lost = lost;
            c.points = new ArrayList<>(points);
            return c;
        }
    }

    private static final class Model {
        int[] spans = {10, 60, 300};
        int[] keeps = {6, 5, 4};
        int most = 4;
        Predicate<Bucket> alarm = null;
        /** The one that was used last stands last. */
        LinkedHashMap<Integer, Held> series = new LinkedHashMap<>();
        String tape = "";
        int fault = -1;
        int[] why = {0, 0, -1, -1};
        int pushed = 0;
        int late = 0;
        int lost = 0;

        static int down(int number, int base) {
            return Math.floorDiv(number, base) * base;
        }

        int[] seams(int head) {
            int n = spans.length;
            int[] seams = new int[n];
            for (int i = 0; i < n; i++) {
                int top = i == 0 ? (Math.floorDiv(head, spans[0]) + 1) * spans[0] : seams[i - 1];
                int raw = top - keeps[i] * spans[i];
                seams[i] = i == n - 1 ? raw : down(raw, spans[i + 1]);
            }
            return seams;
        }

        int tierOf(int head, int time) {
            int[] seams = seams(head);
            for (int i = 0; i < seams.length; i++) {
                if (time >= seams[i]) {
                    return i;
                }
            }
            return -1;
        }

        List<Bucket> bucketsOf(Held h) {
            TreeMap<Integer, Bucket> made = new TreeMap<>();
            for (int[] p : h.points) {
                int tier = tierOf(h.head, p[0]);
                int start = down(p[0], spans[tier]);
                Bucket b = made.computeIfAbsent(start, s -> new Bucket());
                b.tier = tier;
                b.start = start;
                b.values.add(p[1]);
            }
            return new ArrayList<>(made.values());
        }

        List<Bucket> bucketsOf(Held h, int tier) {
            if (tier < 0 || tier >= spans.length) {
                throw new NoSuchElementException();
            }
            List<Bucket> some = new ArrayList<>();
            for (Bucket b : bucketsOf(h)) {
                if (b.tier == tier) {
                    some.add(b);
                }
            }
            return some;
        }

        Held held(int id) {
            if (!series.containsKey(id)) {
                throw new NoSuchElementException();
            }
            return series.get(id);
        }

        static void what(int what, int most) {
            if (what < 0 || what > most) {
                throw new NoSuchElementException();
            }
        }

        static boolean time(long t) {
            return Math.abs(t) <= 1000000;
        }

        void needTime(int t) {
            if (!time(t)) {
                throw new IllegalArgumentException();
            }
        }

        int raise(Held h, int time) {
            h.head = Math.max(h.head, time);
            int before = h.points.size();
            h.points.removeIf(p -> tierOf(h.head, p[0]) == -1);
            h.lost += before - h.points.size();
            return before - h.points.size();
        }

        Held use(int id, int time) {
            Held h = series.remove(id);
            if (h == null) {
                if (series.size() >= most) {
                    series.remove(series.keySet().iterator().next());
                    pushed++;
                }
                h = new Held();
                h.head = time;
            }
            series.put(id, h);
            lost += raise(h, time);
            return h;
        }

        int doPut(int id, long time, long value) {
            if (id < 0 || id > 9 || !time(time) || Math.abs(value) > 10000) {
                throw new Refused(1, -1);
            }
            Held h = series.get(id);
            if (h != null && tierOf(h.head, (int) time) == -1) {
                throw new Refused(2, seams(h.head)[spans.length - 1] - (int) time);
            }
            h = use(id, (int) time);
            h.points.add(new int[] {(int) time, (int) value});
            return tierOf(h.head, (int) time);
        }

        int doTick(int id, int time) {
            if (id < 0 || id > 9 || !time(time)) {
                throw new Refused(1, -1);
            }
            return bucketsOf(use(id, time)).size();
        }

        int doDrop(int id) {
            if (id < 0 || id > 9) {
                throw new Refused(1, -1);
            }
            if (!series.containsKey(id)) {
                throw new Refused(3, -1);
            }
            return series.remove(id).points.size();
        }

        void noteLate(int id) {
            late++;
            series.get(id).late++;
        }

        long put(int id, int time, int value) {
            why = new int[] {0, 0, -1, -1};
            try {
                return doPut(id, time, value);
            } catch (Refused r) {
                if (r.reason == 2) {
                    noteLate(id);
                }
                why = new int[] {r.reason, 0, r.much, -1};
                return -1;
            }
        }

        long tick(int id, int time) {
            why = new int[] {0, 0, -1, -1};
            try {
                return doTick(id, time);
            } catch (Refused r) {
                why = new int[] {r.reason, 0, -1, -1};
                return -1;
            }
        }

        long drop(int id) {
            why = new int[] {0, 0, -1, -1};
            try {
                return doDrop(id);
            } catch (Refused r) {
                why = new int[] {r.reason, 0, -1, -1};
                return -1;
            }
        }

        long sheet(int id, int n, int time, int step, int value, int rise) {
            why = new int[] {0, 0, -1, -1};
            if (id < 0 || id > 9 || n < 0 || n > 60) {
                why[0] = 1;
                return -1;
            }
            int done = 0;
            long t = time;
            long v = value;
            for (int i = 0; i < n; i++) {
                try {
                    doPut(id, t, v);
                    done++;
                } catch (Refused r) {
                    if (r.reason == 2) {
                        noteLate(id);
                    }
                }
                t += step;
                v += rise;
            }
            return done;
        }

        long feed(int[] w) {
            if (tape.length() + 20 > 600) {
                return -1;
            }
            StringBuilder more = new StringBuilder(tape);
            for (int k = 0; k < 20; k++) {
                more.append((char) (w[k / 4] >> (24 - 8 * (k % 4)) & 255));
            }
            tape = more.toString();
            return tape.length();
        }

        String takeTape(int n) {
            if (n < 0 || n > tape.length()) {
                throw new IllegalArgumentException();
            }
            String text = tape.substring(0, n);
            tape = "";
            fault = -1;
            return text;
        }

        long tell(int n) {
            Parser p = new Parser(takeTape(n));
            try {
                p.plan();
            } catch (Fault f) {
                fault = f.place;
                return f.kind;
            }
            spans = p.spans.isEmpty() ? new int[] {10, 60, 300} : p.spans.stream().mapToInt(x -> x).toArray();
            keeps = p.spans.isEmpty() ? new int[] {6, 5, 4} : p.keeps.stream().mapToInt(x -> x).toArray();
            most = p.most;
            alarm = p.alarm;
            series.clear();
            return 0;
        }

        long batch(int n) {
            Parser p = new Parser(takeTape(n));
            why = new int[] {0, 0, -1, -1};
            try {
                p.batch();
            } catch (Fault f) {
                fault = f.place;
                why[0] = 1;
                return -2 - f.kind;
            }
            LinkedHashMap<Integer, Held> saved = new LinkedHashMap<>();
            for (Map.Entry<Integer, Held> e : series.entrySet()) {
                saved.put(e.getKey(), e.getValue().copy());
            }
            int savedPushed = pushed;
            int savedLost = lost;
            for (int i = 0; i < p.lines.size(); i++) {
                int[] l = p.lines.get(i);
                try {
                    if (l[0] == 0) {
                        doPut(l[1], l[2], l[3]);
                    } else if (l[0] == 1) {
                        doTick(l[1], l[2]);
                    } else {
                        doDrop(l[1]);
                    }
                } catch (Refused r) {
                    series = saved;
                    pushed = savedPushed;
                    lost = savedLost;
                    why = new int[] {4, r.reason, r.much, i};
                    return -1;
                }
            }
            return p.lines.size();
        }

        long count(int what) {
            what(what, 7);
            return new int[] {spans.length, most, alarm == null ? 0 : 1, series.size(), tape.length(), pushed, late, lost}[what];
        }

        long tier(int tier, int what) {
            what(what, 1);
            what(tier, spans.length - 1);
            return what == 0 ? spans[tier] : keeps[tier];
        }

        long used(int i) {
            what(i, series.size() - 1);
            return new ArrayList<>(series.keySet()).get(series.size() - 1 - i);
        }

        long of(int id, int what) {
            Held h = held(id);
            what(what, 7);
            switch (what) {
                case 0: return h.head;
                case 1: return bucketsOf(h).size();
                case 2: return h.points.size();
                case 3: return h.late;
                case 4: return h.lost;
                case 5: return h.points.stream().mapToInt(p -> p[1]).min().orElse(-20000);
                case 6: return h.points.stream().mapToInt(p -> p[1]).max().orElse(-20000);
                default: return h.points.stream().mapToLong(p -> p[1]).sum();
            }
        }

        long seam(int id, int tier) {
            Held h = held(id);
            what(tier, spans.length - 1);
            return seams(h.head)[tier];
        }

        long buckets(int id, int tier) {
            return bucketsOf(held(id), tier).size();
        }

        long bucket(int id, int tier, int i, int what) {
            List<Bucket> some = bucketsOf(held(id), tier);
            what(i, some.size() - 1);
            what(what, 5);
            Bucket b = some.get(i);
            return new long[] {b.start, b.count(), b.sum(), b.least(), b.greatest(), b.mean()}[what];
        }

        long at(int id, int time, int what) {
            Held h = held(id);
            what(what, 2);
            if (!time(time)) {
                throw new NoSuchElementException();
            }
            int tier = tierOf(h.head, time);
            if (tier == -1) {
                return new int[] {-1, -20000, 0}[what];
            }
            int start = down(time, spans[tier]);
            int count = 0;
            for (Bucket b : bucketsOf(h)) {
                count += b.tier == tier && b.start == start ? b.count() : 0;
            }
            return new int[] {tier, start, count}[what];
        }

        static long gathered(List<Bucket> some, int what) {
            switch (what) {
                case 0: return some.stream().mapToInt(Bucket::count).sum();
                case 1: return some.stream().mapToLong(Bucket::sum).sum();
                case 2: return some.stream().mapToInt(Bucket::least).min().orElse(-20000);
                default: return some.stream().mapToInt(Bucket::greatest).max().orElse(-20000);
            }
        }

        long total(int id, int from, int to, int what) {
            Held h = held(id);
            what(what, 6);
            needTime(from);
            needTime(to);
            if (to < from) {
                throw new IllegalArgumentException();
            }
            List<Bucket> inside = new ArrayList<>();
            List<Bucket> partly = new ArrayList<>();
            for (Bucket b : bucketsOf(h)) {
                int in = Math.max(0, Math.min(to, b.start + spans[b.tier]) - Math.max(from, b.start));
                if (in == spans[b.tier]) {
                    inside.add(b);
                } else if (in > 0) {
                    partly.add(b);
                }
            }
            switch (what) {
                case 4: return gathered(partly, 0);
                case 5: return inside.size();
                case 6: return partly.size();
                default: return gathered(inside, what);
            }
        }

        long gap(int id, int tier, int i, boolean many) {
            List<Bucket> some = bucketsOf(held(id), tier);
            List<int[]> gaps = new ArrayList<>();
            Set<Integer> starts = new HashSet<>();
            some.forEach(b -> starts.add(b.start));
            boolean open = false;
            for (int s = some.isEmpty() ? 0 : some.get(0).start; !some.isEmpty() && s <= some.get(some.size() - 1).start; s += spans[tier]) {
                if (starts.contains(s)) {
                    open = false;
                } else if (open) {
                    gaps.get(gaps.size() - 1)[1]++;
                } else {
                    gaps.add(new int[] {s, 1});
                    open = true;
                }
            }
            if (i == -1) {
                return gaps.size();
            }
            what(i, gaps.size() - 1);
            return gaps.get(i)[many ? 1 : 0];
        }

        long bar(int id, int w, int time, int what) {
            Held h = held(id);
            what(what, 3);
            needTime(time);
            if (w < 1 || w > 1000000) {
                throw new IllegalArgumentException();
            }
            for (int span : spans) {
                if (w % span != 0) {
                    throw new IllegalArgumentException();
                }
            }
            List<Bucket> some = new ArrayList<>();
            for (Bucket b : bucketsOf(h)) {
                if (down(b.start, w) == down(time, w)) {
                    some.add(b);
                }
            }
            return gathered(some, what);
        }

        long alarms(int id, int what) {
            Held h = held(id);
            what(what, 3);
            List<Bucket> loud = new ArrayList<>();
            for (Bucket b : bucketsOf(h)) {
                if (alarm != null && alarm.test(b)) {
                    loud.add(b);
                }
            }
            int longest = 0;
            int first = -20000;
            for (int i = 0; i < loud.size(); i++) {
                int k = i;
                while (k + 1 < loud.size() && loud.get(k + 1).tier == loud.get(i).tier
                        && loud.get(k + 1).start == loud.get(k).start + spans[loud.get(k).tier]) {
                    k++;
                }
                if (k - i + 1 > longest) {
                    longest = k - i + 1;
                    first = loud.get(i).start;
                }
            }
            return new int[] {loud.size(), loud.isEmpty() ? -20000 : loud.get(0).start, longest, first}[what];
        }

        static Set<String> names(List<Bucket> some) {
            Set<String> names = new HashSet<>();
            some.forEach(b -> names.add(b.tier + "/" + b.start));
            return names;
        }

        long would(int id, int time, int what) {
            Held h = held(id);
            what(what, 2);
            needTime(time);
            Held then = h.copy();
            int gone = raise(then, time);
            Set<String> now = names(bucketsOf(h));
            now.removeAll(names(bucketsOf(then)));
            return new int[] {bucketsOf(then).size(), gone, now.size()}[what];
        }

        long until(int id, int tier, int time) {
            Held h = held(id);
            what(tier, spans.length - 1);
            needTime(time);
            if (seams(1000000)[tier] <= time) {
                return -1;
            }
            int low = h.head;
            int high = 1000000;
            while (low < high) {
                int middle = Math.floorDiv(low + high, 2);
                if (seams(middle)[tier] > time) {
                    high = middle;
                } else {
                    low = middle + 1;
                }
            }
            return low;
        }

        long trend(int id, int tier, int what) {
            List<Bucket> some = bucketsOf(held(id), tier);
            what(what, 3);
            long[] answers = {0, 0, 0, -20000};
            for (int i = 1; i < some.size(); i++) {
                long more = some.get(i).mean() - some.get(i - 1).mean();
                if (more > 0) {
                    answers[0]++;
                }
                if (more < 0) {
                    answers[1]++;
                }
                answers[2] = Math.max(answers[2], more);
            }
            for (int i = some.size() - 1; i > 0; i--) {
                if (answers[2] > 0 && some.get(i).mean() - some.get(i - 1).mean() == answers[2]) {
                    answers[3] = some.get(i).start;
                }
            }
            return answers[what];
        }

        long both(int id, int other, int what) {
            Held one = held(id);
            Held two = held(other);
            what(what, 2);
            long[] answers = {0, 0, -20000};
            for (Bucket a : bucketsOf(one)) {
                for (Bucket b : bucketsOf(two)) {
                    if (a.tier == b.tier && a.start == b.start) {
                        answers[0]++;
                        answers[1] += a.mean() > b.mean() ? 1 : 0;
                        answers[2] = Math.max(answers[2], Math.abs(a.mean() - b.mean()));
                    }
                }
            }
            return answers[what];
        }
    }

    private static final class Parser {
        private static final Pattern TOKEN = Pattern.compile("[a-z]+|[0-9]+|[^ \\n]", Pattern.DOTALL);
        final List<String> tokens = new ArrayList<>();
        final List<Integer> places = new ArrayList<>();
        final List<Integer> spans = new ArrayList<>();
        final List<Integer> keeps = new ArrayList<>();
        final List<int[]> lines = new ArrayList<>();
        int most = 4;
        Predicate<Bucket> alarm = null;
        int at = 0;

        Parser(String text) {
            Matcher m = TOKEN.matcher(text);
            while (m.find()) {
                tokens.add(m.group());
                places.add(m.start());
            }
            tokens.add("");
            places.add(text.length());
        }

        String peek() {
            return tokens.get(at);
        }

        Fault fault(int kind) {
            return new Fault(kind, places.get(at));
        }

        boolean skip(String token) {
            if (peek().equals(token)) {
                at++;
                return true;
            }
            return false;
        }

        void need(String token) {
            if (!skip(token)) {
                throw fault(1);
            }
        }

        int number(int least, int most) {
            if (!peek().matches("[0-9]+")) {
                throw fault(1);
            }
            if (peek().length() > 7 || Integer.parseInt(peek()) < least || Integer.parseInt(peek()) > most) {
                throw fault(2);
            }
            return Integer.parseInt(tokens.get(at++));
        }

        int signed(int limit) {
            return skip("-") ? -number(0, limit) : number(0, limit);
        }

        void plan() {
            while (!peek().isEmpty()) {
                if (peek().equals("tier")) {
                    if (spans.size() == 4) {
                        throw fault(2);
                    }
                    at++;
                    int span = number(1, 100000);
                    int last = spans.isEmpty() ? 0 : spans.get(spans.size() - 1);
                    if (last > 0 && (span % last != 0 || span / last < 2)) {
                        at--;
                        throw fault(3);
                    }
                    spans.add(span);
                    keeps.add(number(1, 20));
                } else if (skip("most")) {
                    most = number(1, 6);
                } else if (skip("alarm")) {
                    alarm = test(0);
                } else {
                    throw fault(1);
                }
                need(";");
            }
        }

        Predicate<Bucket> test(int depth) {
            Predicate<Bucket> all = all(depth);
            while (skip("or")) {
                all = all.or(all(depth));
            }
            return all;
        }

        Predicate<Bucket> all(int depth) {
            Predicate<Bucket> unit = unit(depth);
            while (skip("and")) {
                unit = unit.and(unit(depth));
            }
            return unit;
        }

        Predicate<Bucket> unit(int depth) {
            String token = peek();
            if (token.equals("not") || token.equals("(")) {
                if (depth == 6) {
                    throw fault(2);
                }
                at++;
                if (token.equals("not")) {
                    return unit(depth + 1).negate();
                }
                Predicate<Bucket> inner = test(depth + 1);
                need(")");
                return inner;
            }
            if (!List.of("least", "greatest", "sum", "count", "mean", "tier").contains(token)) {
                throw fault(1);
            }
            at++;
            String relation = peek();
            if (!List.of("<", "=", ">").contains(relation)) {
                throw fault(1);
            }
            at++;
            long with = signed(9999999);
            return b -> {
                long got = token.equals("least") ? b.least() : token.equals("greatest") ? b.greatest() : token.equals("sum") ? b.sum()
                        : token.equals("count") ? b.count() : token.equals("mean") ? b.mean() : b.tier;
                return relation.equals("<") ? got < with : relation.equals("=") ? got == with : got > with;
            };
        }

        void batch() {
            while (!peek().isEmpty()) {
                int kind = List.of("put", "tick", "drop").indexOf(peek());
                if (kind == -1) {
                    throw fault(1);
                }
                at++;
                int id = number(0, 9);
                int time = kind < 2 ? signed(1000000) : 0;
                int value = kind < 1 ? signed(10000) : 0;
                need(";");
                lines.add(new int[] {kind, id, time, value});
            }
        }
    }
}
