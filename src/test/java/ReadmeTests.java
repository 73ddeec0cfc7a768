import java.io.ByteArrayOutputStream;
import java.io.File;
import java.io.PrintStream;
import java.lang.reflect.InvocationTargetException;
import java.lang.reflect.Method;
import java.lang.reflect.Modifier;
import java.net.URL;
import java.net.URLClassLoader;
import java.nio.charset.StandardCharsets;
import java.nio.file.Files;
import java.nio.file.Path;
import java.util.ArrayList;
import java.util.Comparator;
import java.util.List;
import java.util.Set;
import java.util.TreeSet;
import java.util.regex.Matcher;
import java.util.regex.Pattern;
import java.util.stream.Stream;
import javax.tools.ToolProvider;

/** What README.md says is so: its example, its calls, its limits and refusals, the names of files and tests. */
public final class ReadmeTests {
    private static final Checks checks = new Checks();

    public static void main(String[] args) throws Exception {
        String page = Files.readString(Path.of("README.md"));
        example(page);
        calls(page);
        names(page);
        numbers();
        refusals();
        limits(page);
        checks.close();
    }

    private static void due(String call, long got, long want) {
        checks.due(call, got, want);
    }

    /** The text between ```sort and ```, the first of that sort. */
    private static String block(String page, String sort) {
        Matcher m = Pattern.compile("(?s)```" + sort + "\n(.*?)```").matcher(page);
        return m.find() ? m.group(1) : "";
    }

    private static void example(String page) throws Exception {
        checks.about("the example");
        Path folder = Files.createTempDirectory("example");
        try {
            Path source = folder.resolve("Example.java");
            Files.writeString(source, block(page, "java"));
            int ended = ToolProvider.getSystemJavaCompiler().run(null, null, null,
                "-cp", System.getProperty("java.class.path"), "-d", folder.toString(), source.toString());
            due("it compiles", ended, 0);
            if (ended == 0) {
                String printed = printed(folder);
                checks.holds("it prints what the page says, but printed\n" + printed, printed.equals(block(page, "text")));
            }
        } finally {
            delete(folder);
        }
    }

    private static String printed(Path folder) throws Exception {
        PrintStream before = System.out;
        ByteArrayOutputStream bytes = new ByteArrayOutputStream();
        URL[] urls = {folder.toUri().toURL()};
        try (URLClassLoader loader = new URLClassLoader(urls); PrintStream out = new PrintStream(bytes, true, StandardCharsets.UTF_8)) {
            System.setOut(out);
            loader.loadClass("Example").getMethod("main", String[].class).invoke(null, (Object) new String[0]);
        } catch (InvocationTargetException e) {
            return "it threw " + e.getCause();
        } finally {
            System.setOut(before);
        }
        return bytes.toString(StandardCharsets.UTF_8).replace(System.lineSeparator(), "\n");
    }

    private static void delete(Path folder) throws Exception {
        List<Path> all = new ArrayList<>();
        try (Stream<Path> files = Files.walk(folder)) {
            files.sorted(Comparator.reverseOrder()).forEach(all::add);
        }
        for (Path p : all) {
            Files.delete(p);
        }
    }

    /** Each call of the table is one of the class with as many numbers, and none of the class is left out. */
    private static void calls(String page) {
        checks.about("the calls");
        Set<String> told = new TreeSet<>();
        int from = page.indexOf("### The calls"), to = page.indexOf("### The numbers");
        Matcher m = Pattern.compile("`(\\w+)\\(([^)]*)\\)`").matcher(page.substring(Math.max(from, 0), Math.max(to, 0)));
        while (m.find()) {
            int many = m.group(2).isEmpty() ? 0 : m.group(2).split(",").length;
            checks.holds(m.group() + " stands there once", told.add(m.group(1) + " " + many));
        }
        Set<String> due = new TreeSet<>();
        for (Method method : DogVotes.class.getDeclaredMethods()) {
            if (Modifier.isPublic(method.getModifiers())) {
                due.add(method.getName() + " " + method.getParameterCount());
            }
        }
        checks.holds("they are the class's, but the page tells " + told, told.equals(due));
    }

    /** Names of tests, classes and files. */
    private static void names(String page) {
        checks.about("names");
        Set<String> told = new TreeSet<>();
        Matcher m = Pattern.compile("`(\\w+Tests)`").matcher(page);
        while (m.find()) {
            told.add(m.group(1));
        }
        Set<String> due = new TreeSet<>();
        String[] files = new File("src/test/java").list();
        for (String file : files == null ? new String[0] : files) {
            if (file.endsWith("Tests.java")) {
                due.add(file.substring(0, file.length() - 5));
            }
        }
        checks.holds("the tests are those in src/test/java, but the page tells " + told, told.equals(due));
        for (Class<?> c : DogVotes.class.getDeclaredClasses()) {
            checks.holds(c.getSimpleName() + " is told", page.contains("`" + c.getSimpleName() + "`"));
        }
        Matcher paths = Pattern.compile("(?:\\.\\./shared|src|\\.ci)/[\\w/.]*\\w").matcher(page);
        while (paths.find()) {
            checks.holds(paths.group() + " is there", new File(paths.group()).exists());
        }
    }

    private static DogVotes eight() {
        DogVotes x = new DogVotes();
        for (int one = 0; one < 8; one++) {
            x.sheep(one % 6, one, 0, 0);
        }
        return x;
    }

    private static void numbers() {
        checks.about("the numbers");
        DogVotes x = new DogVotes();
        String[] kinds = {"ewe", "hogg", "wether", "gimmer", "bellwether", "tup"};
        HillTests.feed(x, String.join(";", kinds) + ";river 1;whistle 2;food 3;wrong 4;");
        due("hill()", x.hill(), 6);
        for (int kind = 0; kind < 6; kind++) {
            due("kind of the " + kinds[kind], x.of(kind, 0), kind);
        }
        for (int law = 0; law < 4; law++) {
            due("law " + law, x.lawOf(law), law + 1);
        }
        int[] greatest = {127, 32767, Integer.MAX_VALUE, -1};
        for (int sort = 0; sort < 4; sort++) {
            x.sheet(0, sort, 1);
            x.put(0, 0, sort == 3 ? -1 : greatest[sort]);
            due("item of sort " + sort, x.item(0, sort, 0), greatest[sort]);
        }
        x.sheet(0, -1, 0);
        due("missing", x.item(0, 0, 0), -11);
        int[] begun = {10, 11, 12, 13};
        x.mind(0, 0, 1);
        x.shelf(0, 0, 0);
        for (int act = 0; act < 4; act++) {
            x.act(0, act, 1);
            due("first body of act " + act, x.trace(0), begun[act]);
        }
        due("tames of a gimmer", x.tames(3), 999);
        due("hope above", x.hope(50, 0), 2);
        due("hope below", x.hope(50, 1), 1);
    }

    private static void refusals() {
        checks.about("refusals");
        DogVotes x = eight();
        due("no such one", x.of(8, 0), DogVotes.BAD);
        due("a ninth", x.sheep(0, 0, 0, 0), DogVotes.FULL);
        due("nothing kept", x.again(), DogVotes.NONE);
        due("no such row", x.row(0, 0), -9);
        due("nothing there", x.put(0, 0, 0), -11);
        due("a size below 0", x.sheet(0, 0, -1), -14);
        x.sheet(0, 0, 1);
        due("a place outside", x.put(0, 1, 0), -12);
        due("another sort", x.item(0, 1, 0), -13);
        x.shelf(0, 0, 0);
        due("parted by 0", x.act(0, 2, 1), -15);
        x.feed('?', 1);
        due("a fault", x.hill(), -100);
        due("the tape is used up", x.many(5), 0);
        checks.about("answers below 0 that are none");
        x.seed(-7);
        due("seed", x.seed(0), -7);
        x.put(0, 0, -7);
        due("item", x.item(0, 0, 0), -7);
        due("act", x.act(0, 0, -4), -8);
        x.prove(0, 1);
        x.alterRow(0, 0, -7);
        due("row", x.row(0, 0), -7);
        due("alterRow", x.alterRow(0, 0, 0), -7);
    }

    /** The numbers that stand in a part of the page, in their order. */
    private static int[] numbersOf(String page, String from, String to) {
        int start = Math.max(0, page.indexOf(from)), end = Math.max(start, page.indexOf(to, start));
        return Pattern.compile("\\d+").matcher(page.substring(start, end)).results()
            .mapToInt(m -> Integer.parseInt(m.group())).toArray();
    }

    private static void limits(String page) {
        checks.about("limits");
        int[] told = numbersOf(page, "### Limits", "\n## ");
        due("numbers told", told.length, 11);
        if (told.length != 11) {
            return;
        }
        DogVotes x = eight();
        due("sheep", x.many(0), told[0]);
        fillTape(x);
        due("bytes", x.many(5), told[1]);
        checks.holds("rows", x.prove(0, told[2]) == told[2] && x.prove(0, told[2] + 1) == DogVotes.BAD);
        checks.holds("sheets", x.sheet(told[3] - 1, 0, 1) == 1 && x.sheet(told[3], 0, 1) == DogVotes.BAD);
        checks.holds("items", x.sheet(0, 0, told[4]) == 1 && x.sheet(0, 0, told[4] + 1) == DogVotes.BAD);
        checks.holds("shelves", x.shelf(told[5] - 1, 2, 0) == 1 && x.shelf(told[5], 2, 0) == DogVotes.BAD);
        due("bodies, which no act() reaches", told[6], 30);
        days(told[7], told[8], told[9]);
        due("calls", told[10], 512);
        keptOnes();
    }

    private static void fillTape(DogVotes x) {
        for (int i = 0; i < 512 && x.feed(0, 1) > 0; i++) {
            due("bytes", x.many(5), i + 1);
        }
    }

    private static void days(int most, int mostAsked, int mostStrays) {
        DogVotes x = eight();
        checks.holds("days", x.days(most) >= 0 && x.days(most + 1) == DogVotes.BAD);
        checks.holds("where", x.where(most) >= 0 && x.where(most + 1) == DogVotes.BAD);
        checks.holds("callFor", x.callFor(0, mostAsked) >= 0 && x.callFor(0, mostAsked + 1) == DogVotes.BAD);
        checks.holds("kindFor", x.kindFor(0, 0, mostAsked) >= 0 && x.kindFor(0, 0, mostAsked + 1) == DogVotes.BAD);
        checks.holds("earFor", x.earFor(0, 0, mostAsked) != DogVotes.BAD && x.earFor(0, 0, mostAsked + 1) == DogVotes.BAD);
        checks.holds("strays", x.strays(mostStrays) >= 0 && x.strays(mostStrays + 1) == DogVotes.BAD);
    }

    private static void keptOnes() {
        DogVotes x = new DogVotes();
        x.flock(1);
        x.keep();
        x.flock(2);
        x.keep();
        x.flock(3);
        x.again();
        due("the latest is kept", x.state(1), 2);
    }
}
