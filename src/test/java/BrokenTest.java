import java.io.File;
import java.io.IOException;
import java.nio.file.Files;
import java.nio.file.Path;
import java.util.ArrayList;
import java.util.Comparator;
import java.util.List;
import java.util.concurrent.ExecutorService;
import java.util.concurrent.Executors;
import java.util.concurrent.Future;
import java.util.regex.Pattern;
import java.util.stream.Stream;
import javax.tools.JavaCompiler;
import javax.tools.StandardJavaFileManager;
import javax.tools.ToolProvider;

/**
 * Each promise is broken once, by a single change of the class, and the project's own test of that promise has to see it.
 * Where the class is written anew, the change has to be told anew too: it must be found just once.
 */
public final class BrokenTest {
    private static final Path MAIN = Path.of("src/main/java/ReasonsSupplied.java");
    private static final Path TESTS = Path.of("src/test/java");

    /** The test that has to see it, what stands in the class, what stands there then: from promise 1 on. */
    private static final String[][] BREAKS = {
        {"TextsTest", "private int wantSize;", "private int wantSize = 1;"},
        {"TextsTest", "four >>> shift & 255", "four >>> 24 - shift & 255"},
        {"TextsTest", "if (!within(n, 0, size)) {", "if (!within(n, 0, MOST_SIGNS)) {"},
        {"TextsTest", "new LineForm(GROUND_SIGNS, 2, 55)", "new LineForm(GROUND_SIGNS, 1, 55)"},
        {"TextsTest", "new LineForm(PERSON_SIGNS, PERSON_SIGNS, 35)", "new LineForm(PERSON_SIGNS, PERSON_SIGNS, 36)"},
        {"TextsTest", "terms <= MOST_TERMS && within", "within"},
        {"TextsTest", "if (isIn(open, compared)) {", "if (open > MOST_OPEN) {"},
        {"BureauTest", "what == 6 ? now.holdersOf(ground)", "what == 6 ? now.stockOf(ground)"},
        {"BureauTest", "return now.groundsOf(person);", "return Integer.bitCount(now.groundsOf(person));"},
        {"BureauTest", "now.daysHeld(person, ground) : WITHOUT", "now.daysHeld(person, ground) : NONE"},
        {"BureauTest", "return (byte) entry;", "return entry & 255;"},
        {"BureauTest", "if (stockOf(g) < 1) {", "if (stockOf(g) < 0) {"},
        {"BureauTest", "Math.min(MOST_STOCK, stockOf(g) + 1)", "stockOf(g) + 1"},
        {"BureauTest", "Math.min(MOST_STOCK, stockOf(g) + n)", "stockOf(g) + n"},
        {"BureauTest", "Integer.bitCount(has & ~had)", "Integer.bitCount(has)"},
        {"BureauTest", "can = act(at) >= 0;", "can = act(at) > MISSING;"},
        {"BureauTest", "private static final int MOST = 12;", "private static final int MOST = 11;"},
        {"LaterTest", "told.add(then.wantsOf(person));", "told.add(now.wantsOf(person));"},
        {"LaterTest", "if (then.humoursTogether(person) == before) {", "if (then.humoursTogether(person) <= before) {"},
        {"LaterTest", "told.add(Integer.bitCount(had));\n                return n;", "told.add(had);\n                return n;"},
        {"LaterTest", "off += more;", "off += more > 0 ? 1 : 0;"},
        {"LaterTest", "if (Integer.bitCount(had) > most) {", "if (Integer.bitCount(had) >= most) {"},
        {"LaterTest", "sum += Math.abs(less);", "sum += less;"},
        {"GroundsTest", "more == 0 && gradesOf(some) < gradesOf(found)", "more == 0 && some < found"},
        {"GroundsTest", "told.add(wantsWith(p, 0, n));", "told.add(wantsWith(p, 0, 0));"},
        {"GroundsTest", "then.strip(p, less);", ""},
        {"GroundsTest", "Math.abs(first - second) > k", "Math.abs(first - second) >= k"},
        {"GroundsTest", "Integer.bitCount(some) > Integer.bitCount(best)", "Integer.bitCount(some) >= Integer.bitCount(best)"},
        {"GroundsTest", "return many > 0 ? sum / many : NO_PULL;", "return many > 0 ? sum : NO_PULL;"},
        {"SeenTest", "private static final int MOST_NOTES = 12;", "private static final int MOST_NOTES = 13;"},
        {"SeenTest", "notes = 0;", ""},
        {"SeenTest", "bits |= wouldFit(p) ? 1 << g : 0;", "bits |= now.stockOf(g) > 0 && wouldFit(p) ? 1 << g : 0;"},
        {"SeenTest", "mostLeft(h) < mostLeft(found)", "mostLeft(h) <= mostLeft(found)"},
        {"SeenTest", "servedBy[g] |= now.holds(p, g) ?", "servedBy[g] |= now.holds(p, g) || now.stockOf(g) == 0 ?"},
        {"SeenTest", "if (gain > 0 && left[g] > 0) {", "if (gain > 0) {"},
        {"CounterTest", "lesser > 0 && greater < 2 * lesser", "lesser > 0 && greater <= 2 * lesser"},
        {"CounterTest", "(i % 2 == 0 ? 1 : -1)", "1"},
        {"CounterTest", "Math.max(0, many - i)", "Math.max(0, many)"},
        {"CounterTest", "return y == 0 || x == y;", "return x == y;"},
        {"CounterTest", "return byOther - byPresent;", "return Math.max(0, byOther - byPresent);"},
        {"CounterTest", "if (what < 2) {", "if (what < 1) {"},
        {"BureauTest", "if (!within(i, 0, KEPT - 1)) {", "if (!within(i, 0, KEPT)) {"},
        {"BureauTest", "KEPT - 1) || !isIn(i, kept)", "KEPT - 1)"},
        {"BureauTest", "return text.size();\n            default:", "return told.size();\n            default:"},
        {"BureauTest", "within(i, 0, told.size() - 1)", "within(i, 0, told.size())"},
    };

    private static final JavaCompiler COMPILER = ToolProvider.getSystemJavaCompiler();

    public static void main(String[] args) throws Exception {
        Check check = new Check("broken");
        check.due("as many as promises", BREAKS.length, 45);
        Path place = Files.createTempDirectory("broken");
        try {
            tryAll(check, place);
        } finally {
            remove(place);
        }
        check.end();
    }

    private static void tryAll(Check check, Path place) throws Exception {
        String whole = Files.readString(MAIN);
        Path tests = place.resolve("tests");
        check.due("the tests compile", compile(tests, testFiles()), true);
        ExecutorService hands = Executors.newFixedThreadPool(Math.min(8, Runtime.getRuntime().availableProcessors()));
        List<Future<String>> answers = new ArrayList<>();
        for (int i = 0; i < BREAKS.length; i++) {
            String[] told = BREAKS[i];
            check.due("promise " + (i + 1) + ", just one " + told[1], whole.split(Pattern.quote(told[1]), -1).length, 2);
            Path dir = place.resolve("promise" + (i + 1));
            answers.add(hands.submit(() -> toldBy(dir, tests, whole.replace(told[1], told[2]), told[0])));
        }
        hands.shutdown();
        for (int i = 0; i < BREAKS.length; i++) {
            // A test tells each wrong answer by the promise's number.
            boolean isSeen = Pattern.compile("(?m)^\\w+: " + (i + 1) + " .* answered ").matcher(answers.get(i).get()).find();
            check.due("promise " + (i + 1) + " broken by " + BREAKS[i][2] + ": seen by " + BREAKS[i][0], isSeen, true);
        }
    }

    private static List<File> testFiles() throws IOException {
        List<File> files = new ArrayList<>();
        files.add(MAIN.toFile());
        for (String[] told : BREAKS) {
            File test = TESTS.resolve(told[0] + ".java").toFile();
            if (!files.contains(test)) {
                files.add(test);
            }
        }
        files.add(TESTS.resolve("Check.java").toFile());
        files.add(TESTS.resolve("PlainBureau.java").toFile());
        return files;
    }

    /** What a test tells of the class so written; nothing, if it does not compile. */
    private static String toldBy(Path dir, Path tests, String source, String test) throws Exception {
        Files.createDirectories(dir);
        Path file = dir.resolve("ReasonsSupplied.java");
        Files.writeString(file, source);
        if (!compile(dir, List.of(file.toFile()))) {
            return "";
        }
        String java = Path.of(System.getProperty("java.home"), "bin", "java").toString();
        Path told = dir.resolve("told");
        new ProcessBuilder(java, "-cp", dir + File.pathSeparator + tests, test)
            .redirectErrorStream(true).redirectOutput(told.toFile()).start().waitFor();
        return Files.readString(told);
    }

    private static boolean compile(Path dir, List<File> files) throws IOException {
        Files.createDirectories(dir);
        try (StandardJavaFileManager manager = COMPILER.getStandardFileManager(null, null, null)) {
            return COMPILER.getTask(null, manager, null, List.of("-proc:none", "-encoding", "UTF-8", "-d", dir.toString()), null,
                manager.getJavaFileObjectsFromFiles(files)).call();
        }
    }

    private static void remove(Path place) throws IOException {
        try (Stream<Path> all = Files.walk(place)) {
            for (Path one : all.sorted(Comparator.reverseOrder()).toList()) {
                Files.delete(one);
            }
        }
    }
}
