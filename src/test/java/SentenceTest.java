import java.io.IOException;
import java.lang.reflect.InvocationTargetException;
import java.lang.reflect.Method;
import java.nio.charset.StandardCharsets;
import java.nio.file.DirectoryStream;
import java.nio.file.Files;
import java.nio.file.Path;
import java.nio.file.Paths;
import java.util.ArrayList;
import java.util.LinkedHashMap;
import java.util.List;
import java.util.Map;
import java.util.TreeSet;
import java.util.regex.Matcher;
import java.util.regex.Pattern;

/**
 * The document sentence by sentence. The files under src/test/sentences hold its words ('>' lines,
 * under the heading of the '#' line) and, behind each sentence, runs of calls that fail if it is
 * broken ('-' lines: each begins with a new object). README.md tells how a call is written.
 *
 * Each quoted sentence must stand in ../shared/DOC.md, and nothing of 'What it is', of its terms
 * with the constants and of its promises may be left unquoted, so that a sentence without a test
 * is found, too.
 */
public final class SentenceTest {
    private static final Path SENTENCES = Paths.get("src/test/sentences");
    private static final Path DOCUMENT = Paths.get("../shared/DOC.md");
    private static final int CALL_LIMIT = 512;
    private static final Pattern CALL = Pattern.compile("(?:(\\d+) times )?([a-z]+)\\((.*)\\)(?: = (.*))?");
    private static final Pattern TEXT = Pattern.compile("\"((?:[^\"\\\\]|\\\\.)*)\"(?: \\* (\\d+))?");

    private static final Map<String, Method> METHODS = new LinkedHashMap<>();
    private static int wrong = 0;
    private static int runs = 0;
    private static int asked = 0;

    private String place = "";
    private String heading = "";
    private String sentence = "";
    private String run = "";
    private int runsOfSentence = 1;
    private int callsOfRun = 1;
    private int calls = 0;
    private ThinSeries object = null;

    public static void main(String[] args) throws IOException {
        for (Method m : ThinSeries.class.getDeclaredMethods()) {
            METHODS.put(m.getName(), m);
        }
        Document document = new Document(new String(Files.readAllBytes(DOCUMENT), StandardCharsets.UTF_8));
        TreeSet<Path> files = new TreeSet<>();
        try (DirectoryStream<Path> found = Files.newDirectoryStream(SENTENCES, "*.txt")) {
            found.forEach(files::add);
        }
        for (Path file : files) {
            new SentenceTest().read(file, document);
        }
        for (String left : document.unquoted()) {
            fail("no test quotes these words of the document: " + left);
        }
        System.out.println(wrong == 0 ? "all sentences hold: " + runs + " runs, " + asked + " answers" : wrong + " answers are not as due");
        if (wrong != 0 || runs == 0) {
            System.exit(1);
        }
    }

    private static void fail(String how) {
        wrong++;
        System.out.println(how);
    }

    private void failHere(String how) {
        fail(place + ": " + heading + " > " + sentence + " - " + run + ": " + how);
    }

    private void read(Path file, Document document) throws IOException {
        int number = 0;
        for (String line : Files.readAllLines(file, StandardCharsets.ISO_8859_1)) {
            number++;
            place = file.getFileName() + ":" + number;
            int comment = line.indexOf("//");
            String told = (comment < 0 ? line : line.substring(0, comment)).trim();
            if (told.startsWith("# ")) {
                heading = told.substring(2);
            } else if (told.startsWith("> ")) {
                endSentence();
                sentence = told.substring(2);
                runsOfSentence = 0;
                if (!document.quote(heading, sentence)) {
                    failHere("the document has no such words under this heading");
                }
            } else if (told.startsWith("- ")) {
                endRun();
                run = told.substring(2);
                runs++;
                runsOfSentence++;
                callsOfRun = 0;
                calls = 0;
                object = new ThinSeries();
            } else if (!told.isEmpty()) {
                callsOfRun++;
                line(told);
            }
        }
        endSentence();
    }

    private void endSentence() {
        endRun();
        if (runsOfSentence == 0) {
            failHere("this sentence has no run");
        }
    }

    private void endRun() {
        if (callsOfRun == 0) {
            failHere("this run has no call");
        }
        callsOfRun = 1;
    }

    private void line(String told) {
        Matcher m = CALL.matcher(told);
        Method method = m.matches() ? METHODS.get(m.group(2)) : null;
        if (method == null || object == null) {
            failHere("this is no call: " + told);
            return;
        }
        int times = m.group(1) == null ? 1 : Integer.parseInt(m.group(1));
        String[] due = m.group(4) == null ? null : m.group(4).split(" ");
        List<String> got = new ArrayList<>();
        for (int i = 0; i < times; i++) {
            callAll(method, m.group(3), got);
        }
        if (due != null && due.length != 1 && due.length != got.size()) {
            failHere(got.size() + " calls, but " + due.length + " answers: " + told);
            return;
        }
        for (int i = 0; i < got.size(); i++) {
            String want = due == null ? null : due[due.length == 1 ? 0 : i];
            boolean held = want == null ? got.get(i).matches("-?\\d+") : got.get(i).equals(want);
            asked++;
            if (!held) {
                failHere(told + ": answer " + (i + 1) + " is " + got.get(i) + (want == null ? "" : ", due is " + want));
            }
        }
    }

    /** Calls with each choice of arguments, the last one changing the fastest. */
    private void callAll(Method method, String arguments, List<String> got) {
        List<Object[]> choices = new ArrayList<>();
        choices.add(new Object[0]);
        if (arguments.startsWith("\"")) {
            choices.set(0, new Object[] {type(text(arguments))});
        } else {
            for (String argument : pieces(arguments)) {
                List<Object[]> longer = new ArrayList<>();
                for (Object[] before : choices) {
                    for (Object value : values(argument)) {
                        Object[] with = java.util.Arrays.copyOf(before, before.length + 1);
                        with[before.length] = value;
                        longer.add(with);
                    }
                }
                choices = longer;
            }
        }
        for (Object[] choice : choices) {
            got.add(method.getName().equals("feed") && choice.length == 1 ? "" + object.count(4) : call(method, choice));
        }
    }

    private String call(Method method, Object[] arguments) {
        calls++;
        if (calls == CALL_LIMIT + 1) {
            failHere("nothing is promised beyond " + CALL_LIMIT + " calls");
        }
        try {
            return "" + method.invoke(object, arguments);
        } catch (InvocationTargetException e) {
            return e.getCause().getClass().getSimpleName().replace("Exception", "");
        } catch (IllegalAccessException | IllegalArgumentException e) {
            failHere("it can't be called so: " + e);
            return "";
        }
    }

    /** Puts a text on the tape, blanks behind it up to the next twenty; answers its length. */
    private int type(String text) {
        for (int i = 0; i < text.length(); i += 20) {
            Object[] numbers = new Object[5];
            for (int k = 0; k < 5; k++) {
                int number = 0;
                for (int b = i + 4 * k; b < i + 4 * k + 4; b++) {
                    number = number << 8 | (b < text.length() ? text.charAt(b) : ' ');
                }
                numbers[k] = number;
            }
            call(METHODS.get("feed"), numbers);
        }
        return text.length();
    }

    private static String text(String told) {
        StringBuilder text = new StringBuilder();
        Matcher m = TEXT.matcher(told);
        while (m.find()) {
            int times = m.group(2) == null ? 1 : Integer.parseInt(m.group(2));
            for (int i = 0; i < times; i++) {
                text.append(unescaped(m.group(1)));
            }
        }
        return text.toString();
    }

    private static String unescaped(String told) {
        StringBuilder plain = new StringBuilder();
        for (int i = 0; i < told.length(); i++) {
            if (told.charAt(i) != '\\') {
                plain.append(told.charAt(i));
            } else if (told.charAt(i + 1) == 'x') {
                plain.append((char) Integer.parseInt(told.substring(i + 2, i + 4), 16));
                i += 3;
            } else {
                i++;
                plain.append(told.charAt(i) == 'n' ? '\n' : told.charAt(i));
            }
        }
        return plain.toString();
    }

    private static List<String> pieces(String arguments) {
        List<String> pieces = new ArrayList<>();
        Matcher m = Pattern.compile("\\{[^}]*\\}|[^,{} ]+").matcher(arguments);
        while (m.find()) {
            pieces.add(m.group());
        }
        return pieces;
    }

    private static List<Object> values(String argument) {
        List<Object> values = new ArrayList<>();
        for (String one : argument.replace("{", "").replace("}", "").split(", *")) {
            int range = one.indexOf("..");
            if (one.equals("true") || one.equals("false")) {
                values.add(one.equals("true"));
            } else if (range < 0) {
                values.add(number(one));
            } else {
                for (int i = Integer.parseInt(one.substring(0, range)); i <= Integer.parseInt(one.substring(range + 2)); i++) {
                    values.add(i);
                }
            }
        }
        return values;
    }

    private static int number(String told) {
        if (told.startsWith("0x")) {
            return Integer.parseUnsignedInt(told.substring(2), 16);
        }
        return told.equals("MAX") ? Integer.MAX_VALUE : told.equals("MIN") ? Integer.MIN_VALUE : Integer.parseInt(told);
    }

    /** The words of the document by heading, and which of them were quoted. */
    private static final class Document {
        private final Map<String, String> words = new LinkedHashMap<>();
        private final Map<String, boolean[]> quoted = new LinkedHashMap<>();

        Document(String text) {
            for (String part : text.split("(?m)^## ")) {
                String heading = part.split("\n", 2)[0].trim();
                String body = part.substring(part.indexOf('\n') + 1);
                if (heading.equals("What it is")) {
                    keep(heading, body);
                } else if (heading.equals("Terms")) {
                    String[] both = body.split("The constants:");
                    keep("Constants", both.length > 1 ? both[1] : "");
                    String[] terms = both[0].split("==== \\d\\.");
                    for (int i = 0; i < terms.length; i++) {
                        keep(i == 0 ? heading : heading + " " + i, terms[i]);
                    }
                } else if (heading.startsWith("Promise ")) {
                    keep(heading, body.replaceFirst("(?s)^\\s*`[^`]*`: ", ""));
                }
            }
        }

        private void keep(String heading, String body) {
            String plain = body.replace("```text", " ").replace("```", " ").replaceAll("\\s+", " ");
            words.put(heading, plain);
            quoted.put(heading, new boolean[plain.length()]);
        }

        boolean quote(String heading, String sentence) {
            String body = words.get(heading);
            if (body == null || !body.contains(sentence)) {
                return false;
            }
            for (int at = body.indexOf(sentence); at >= 0; at = body.indexOf(sentence, at + 1)) {
                java.util.Arrays.fill(quoted.get(heading), at, at + sentence.length(), true);
            }
            return true;
        }

        List<String> unquoted() {
            List<String> left = new ArrayList<>();
            for (Map.Entry<String, String> e : words.entrySet()) {
                StringBuilder rest = new StringBuilder();
                for (int i = 0; i < e.getValue().length(); i++) {
                    rest.append(quoted.get(e.getKey())[i] ? '\n' : e.getValue().charAt(i));
                }
                for (String piece : rest.toString().split("\n+")) {
                    if (piece.matches(".*[A-Za-z0-9].*")) {
                        left.add(e.getKey() + ": " + piece.trim());
                    }
                }
            }
            return left;
        }
    }
}
