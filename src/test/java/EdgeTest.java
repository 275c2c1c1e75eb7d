import java.io.IOException;
import java.lang.reflect.InvocationTargetException;
import java.lang.reflect.Method;
import java.nio.file.Files;
import java.nio.file.Path;
import java.util.ArrayList;
import java.util.Arrays;
import java.util.HashMap;
import java.util.List;
import java.util.Map;
import java.util.TreeSet;
import java.util.regex.Matcher;
import java.util.regex.Pattern;
import java.util.stream.Stream;

/**
 * Each sentence of the document that names a boundary case, by a run of calls of its own on a new object. The runs are
 * told in src/test/edges; README.md tells how they are written, by rows that are run as well.
 */
public final class EdgeTest {
    private static final int MOST_CALLS = 512, PROMISES = 37;
    private static final Path EDGES = Path.of("src/test/edges"), DOCUMENT = Path.of("../shared/DOC.md");
    private static final Path README = Path.of("README.md");
    private static final Pattern CALL = Pattern.compile("(\\w+)\\((.*?)\\)(?: = (.*))?");
    private static final Pattern SAID = Pattern.compile("(tape|text|law) (.*?\"(?: \\* \\d+)?)(?: = (.*))?");
    private static final Pattern PIECE = Pattern.compile("\"([^\"]*)\"(?: \\* (\\d+))?");
    private static final Pattern SHEET = Pattern.compile("(bytes|shorts|ints) (\\d):(.*)");
    private static final Pattern EACH = Pattern.compile("each (\\d+) \\.\\. (\\d+) behind (\".*?\") = (.*)");

    private final Map<String, Method> calls = new HashMap<>();
    private final List<Done> done = new ArrayList<>();
    private final TreeSet<String> places = new TreeSet<>();
    private final String document;
    private OpensAtNine x;
    private int sentences, rows, wrong;
    private String place = "", sentence = "", row = "";

    private EdgeTest() throws IOException {
        for (Method m : OpensAtNine.class.getDeclaredMethods()) calls.put(m.getName(), m);
        document = Files.exists(DOCUMENT) ? Files.readString(DOCUMENT).replaceAll("\\s+", " ") : null;
        if (document == null) System.out.println("no " + DOCUMENT + ": what the sentences say is not looked up");
    }

    public static void main(String[] args) throws IOException {
        EdgeTest test = new EdgeTest();
        List<Path> files = new ArrayList<>();
        try (Stream<Path> found = Files.list(EDGES)) {
            found.sorted().forEach(files::add);
        }
        for (Path file : files) test.readFile(file);
        test.lookForAllPromises();
        test.readReadme();
        System.out.println(test.sentences + " sentences, " + test.rows + " answers asked, " + test.wrong + " not as due");
        if (test.wrong != 0) System.exit(1);
    }

    private static final class Done {
        final Method call;
        final Object[] numbers;

        Done(Method call, Object[] numbers) {
            this.call = call;
            this.numbers = numbers;
        }
    }

    // ---- the files

    private void readFile(Path file) throws IOException {
        int line = 0;
        for (String told : Files.readAllLines(file)) {
            line++;
            if (told.isBlank() || told.startsWith("#")) continue;
            if (told.startsWith("== ")) beginPlace(told.substring(3));
            else if (told.startsWith("> ")) beginSentence(told.substring(2));
            else doLine(file.getFileName() + ":" + line, told);
        }
    }

    /** The rows by which README.md tells how rows are written hold, too, each on a new object. */
    private void readReadme() throws IOException {
        place = README.toString();
        boolean there = false;
        int read = 0;
        for (String line : Files.readAllLines(README)) {
            if (line.startsWith("#")) there = line.startsWith("### How rows are written");
            if (!there || !line.startsWith("| `")) continue;
            read++;
            beginObject();
            doLine(place, line.substring(3, line.indexOf('`', 3)));
        }
        if (read == 0) fail("tells no rows");
    }

    private void beginPlace(String name) {
        place = name;
        sentence = "";
        places.add(name);
        if (document != null && !document.contains("## " + name)) fail("the document has no such place");
    }

    private void beginSentence(String words) {
        sentence = words;
        sentences++;
        if (document != null && !isSaid(words)) fail("the document does not say so there");
        beginObject();
    }

    private boolean isSaid(String words) {
        int from = document.indexOf("## " + place), to = from < 0 ? -1 : document.indexOf("## ", from + 3);
        return to >= 0 && document.substring(from, to).contains(words);
    }

    private void beginObject() {
        x = new OpensAtNine();
        done.clear();
    }

    private void lookForAllPromises() {
        for (int k = 1; k <= PROMISES; k++) {
            String promise = "Promise " + k + ":";
            if (places.stream().noneMatch(p -> p.startsWith(promise))) fail("no sentence of " + promise);
        }
        if (!places.contains("Terms")) fail("no sentence of the terms");
    }

    private void fail(String what) {
        wrong++;
        System.out.println(place + ", \"" + sentence + "\": " + row + " " + what);
    }

    // ---- the rows

    private void doLine(String where, String line) {
        for (String one : line.split(" \\| ")) {
            row = where + " " + one.strip();
            try {
                doRow(one.strip());
            } catch (InvocationTargetException e) {
                fail("threw " + e.getCause());
            } catch (IllegalAccessException | IllegalArgumentException e) {
                fail("can't be read: " + e);
            }
        }
    }

    private void doRow(String one) throws InvocationTargetException, IllegalAccessException {
        Matcher call = CALL.matcher(one), said = SAID.matcher(one), sheet = SHEET.matcher(one), each = EACH.matcher(one);
        if (one.equals("new")) beginObject();
        else if (one.startsWith("still ")) leavesNoTrace(one.substring(6));
        else if (each.matches()) each(numberOf(each.group(1)), numberOf(each.group(2)), each.group(3), each.group(4));
        else if (one.startsWith("people ")) for (int k = numberOf(one.substring(7)); k > 0; k--) due(answer("come"), null);
        else if (sheet.matches()) fill(sheet.group(1), numberOf(sheet.group(2)), sheet.group(3).strip());
        else if (said.matches()) say(said.group(1), bytesOf(said.group(2)), said.group(3));
        else if (call.matches()) due(answer(call.group(1), numbersOf(call.group(2), ",")), call.group(3));
        else throw new IllegalArgumentException(one);
    }

    private long answer(String name, int... numbers) throws InvocationTargetException, IllegalAccessException {
        Method call = calls.get(name);
        if (call == null || call.getParameterCount() != numbers.length) throw new IllegalArgumentException(name);
        Object[] boxed = new Object[numbers.length];
        for (int i = 0; i < numbers.length; i++) boxed[i] = numbers[i];
        done.add(new Done(call, boxed));
        if (done.size() > MOST_CALLS) fail("is a call too many");
        return ((Number) call.invoke(x, boxed)).longValue();
    }

    /** A row that tells no answer makes things ready: it may not be refused. */
    private void due(long got, String want) {
        rows++;
        if (want == null) {
            if (got < 0) fail("was refused: " + got);
        } else if (got != wanted(want)) {
            fail("answered " + got);
        }
    }

    private void fill(String sort, int s, String numbers) throws InvocationTargetException, IllegalAccessException {
        int[] cells = numbersOf(numbers, " ");
        due(answer("sheet", s, List.of("bytes", "shorts", "ints").indexOf(sort), cells.length), null);
        for (int i = 0; i < cells.length; i++) due(answer("cell", s, i, cells[i]), null);
    }

    private void say(String how, String bytes, String want) throws InvocationTargetException, IllegalAccessException {
        for (int i = 0; i < bytes.length(); i += 5) {
            int[] five = {Math.min(5, bytes.length() - i), 0, 0, 0, 0, 0};
            for (int k = 0; k < five[0]; k++) five[k + 1] = bytes.charAt(i + k);
            due(answer("feed", five), null);
        }
        if (how.equals("tape")) return;
        long t = answer("text");
        due(t, want);
        if (how.equals("law")) due(answer("force", (int) t), null);
    }

    /** Each byte of some, behind a text, on a new object. */
    private void each(int least, int most, String text, String want) throws InvocationTargetException, IllegalAccessException {
        for (int b = least; b <= most; b++) {
            beginObject();
            say("tape", bytesOf(text) + (char) b, null);
            due(answer("text"), want);
        }
    }

    // ---- what may leave no trace

    /** Of two objects on which the same was done, one is called once more: both must then tell the same of themselves. */
    private void leavesNoTrace(String call) throws InvocationTargetException, IllegalAccessException {
        List<Done> ahead = new ArrayList<>(done);
        doAgain(ahead);
        List<String> without = look();
        doAgain(ahead);
        doRow(call);
        List<String> with = look();
        rows++;
        for (int i = 0; i < with.size(); i++) {
            if (with.get(i).equals(without.get(i))) continue;
            fail("left a trace: " + with.get(i) + ", without it " + without.get(i));
            break;
        }
        doAgain(ahead);
    }

    private void doAgain(List<Done> ahead) throws InvocationTargetException, IllegalAccessException {
        beginObject();
        done.addAll(ahead);
        for (Done one : ahead) one.call.invoke(x, one.numbers);
    }

    /** All that can be told of the object; what that changes comes last. */
    private List<String> look() throws InvocationTargetException, IllegalAccessException {
        List<String> seen = new ArrayList<>();
        lookAtGate(seen);
        for (int p = 0; p < 4; p++) see(seen, "rest", p, 3);
        for (int set = 1; set < 16; set++) see(seen, "gang", set, 2);
        for (int s = 0; s < 4; s++) lookAtSheet(seen, s);
        see(seen, "text");
        int last = (int) answer("count", 6) - 1;
        see(seen, "force", last);
        see(seen, "asks", 1, 0, 0, 0, 0);
        see(seen, "back");
        lookAtGate(seen);
        return seen;
    }

    private void lookAtGate(List<String> seen) throws InvocationTargetException, IllegalAccessException {
        for (int what = 0; what < 9; what++) see(seen, "count", what);
        for (int p = 0; p < 4; p++) see(seen, "worth", p);
        for (int c = 0; c < 7; c++) {
            for (int what = 0; what < 6; what++) see(seen, "told", c, what);
        }
    }

    private void lookAtSheet(List<String> seen, int s) throws InvocationTargetException, IllegalAccessException {
        for (int sort = 0; sort < 3; sort++) see(seen, "coinsBy", s, sort, 0, 0);
        for (int i = 1; i < 10; i++) see(seen, "copy", s, i, s, i, 0);
        for (int start = 0; start < 4; start++) see(seen, "which", s, start);
        for (int start = 0; start < 4; start++) see(seen, "next", s, start, 0);
        see(seen, "judge", s);
        see(seen, "laws", s);
    }

    private void see(List<String> seen, String name, int... numbers) throws InvocationTargetException, IllegalAccessException {
        seen.add(name + Arrays.toString(numbers) + " answers " + answer(name, numbers));
    }

    // ---- what rows are written of

    private static String bytesOf(String told) {
        StringBuilder bytes = new StringBuilder();
        Matcher piece = PIECE.matcher(told);
        while (piece.find()) {
            bytes.append(plain(piece.group(1)).repeat(piece.group(2) == null ? 1 : Integer.parseInt(piece.group(2))));
        }
        return bytes.toString();
    }

    private static String plain(String told) {
        StringBuilder bytes = new StringBuilder();
        for (int i = 0; i < told.length(); i++) {
            if (told.charAt(i) == '\\') {
                bytes.append((char) Integer.parseInt(told.substring(i + 1, i + 4)));
                i += 3;
            } else {
                bytes.append(told.charAt(i));
            }
        }
        return bytes.toString();
    }

    private static int[] numbersOf(String told, String by) {
        if (told.isBlank()) return new int[0];
        String[] each = told.split(by + " *");
        int[] numbers = new int[each.length];
        for (int i = 0; i < each.length; i++) numbers[i] = numberOf(each[i].strip());
        return numbers;
    }

    private static int numberOf(String told) {
        if (told.equals("MIN")) return Integer.MIN_VALUE;
        if (told.equals("MAX")) return Integer.MAX_VALUE;
        if (told.length() == 3 && told.charAt(0) == '\'') return told.charAt(1);
        return Integer.parseInt(told);
    }

    /** {2 3} are bits. The constants are told by number here, as the document tells them. */
    private static long wanted(String told) {
        if (told.startsWith("{")) {
            long bits = 0;
            for (int bit : numbersOf(told.substring(1, told.length() - 1), " ")) bits |= 1L << bit;
            return bits;
        }
        switch (told) {
            case "NONE": return -1;
            case "BAD": return -2;
            case "STATE": return -3;
            case "FULL": return -4;
            case "NO": return -4611686018427387904L;
            default: return Long.parseLong(told);
        }
    }
}
