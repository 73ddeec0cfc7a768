import java.lang.management.ManagementFactory;
import java.lang.reflect.Field;
import java.lang.reflect.Method;
import java.lang.reflect.Modifier;
import java.nio.file.DirectoryStream;
import java.nio.file.Files;
import java.nio.file.Path;
import java.util.Arrays;
import java.util.List;
import java.util.TreeSet;
import java.util.regex.Matcher;
import java.util.regex.Pattern;

/** The face of the class, the rules of LANGUAGE.md that can be looked up, what the dearest calls make. */
public final class RuleTests {
    private static final String FACE = "act(int,int,int):int again():int agenda(int,int):int alterRow(int,int,int):int "
        + "asked(int):int beats(int,int):int call(int):int callFor(int,int):int calm():int comes(int):int day():int "
        + "days(int):int deafFor(int):int earFor(int,int,int):int fear(int,int):int feed(long,int):int "
        + "fits(int,int,int):int flock(int):int grow(int,int,int):int hill():int hope(int,int):long item(int,int,int):int "
        + "judge(int):int keep():int kindFor(int,int,int):int lawOf(int):int look(int,int):int looksFor(int):int "
        + "many(int):int mind(int,int,int):int minds(int,int,int,int):int odds(int,int,int):long of(int,int):int "
        + "place(int,int):int power(int,int):long prove(int,int):int put(int,int,int):int ring():int row(int,int):int "
        + "scared(int):int seed(int):int set(int,int):int sham(int):int sheep(int,int,int,int):int sheet(int,int,int):int "
        + "shelf(int,int,int):int state(int):int strays(int):int taken(int,int):int tames(int):int trace(int):int "
        + "where(int):int winner():int worth(int,int):int";

    private static final Checks checks = new Checks();

    public static void main(String[] args) throws Exception {
        face();
        nestedClasses();
        source();
        plainSigns();
        room();
        roomOfMakers();
        checks.close();
    }

    private static void face() {
        checks.about("rule 1");
        TreeSet<String> methods = new TreeSet<>();
        TreeSet<String> names = new TreeSet<>();
        for (Method m : DogVotes.class.getDeclaredMethods()) {
            if (Modifier.isPublic(m.getModifiers())) {
                String types = Arrays.toString(m.getParameterTypes()).replaceAll("[\\[\\] ]", "");
                methods.add(m.getName() + "(" + types + "):" + m.getReturnType());
                names.add(m.getName());
            }
        }
        checks.holds("the face is the document's: " + methods, methods.equals(new TreeSet<>(List.of(FACE.split(" ")))));
        for (Class<?> c : all()) {
            for (Method m : c.getDeclaredMethods()) {
                boolean ofTheFace = c == DogVotes.class && Modifier.isPublic(m.getModifiers());
                checks.holds(m + " bears no public one's name", ofTheFace || !names.contains(m.getName()));
                checks.holds(m + " is private in the face's class",
                    ofTheFace || c != DogVotes.class || Modifier.isPrivate(m.getModifiers()));
                checks.holds(m + " takes seven at most", m.getParameterCount() <= 7);
            }
        }
        checks.due("constructors", DogVotes.class.getDeclaredConstructors().length, 1);
        checks.holds("final", Modifier.isFinal(DogVotes.class.getModifiers()));
        for (Field f : DogVotes.class.getDeclaredFields()) {
            boolean constant = List.of("BAD", "FULL", "NONE").contains(f.getName());
            checks.holds(f + " is private but for three", constant == Modifier.isPublic(f.getModifiers())
                && constant != Modifier.isPrivate(f.getModifiers()));
        }
    }

    private static List<Class<?>> all() {
        List<Class<?>> list = new java.util.ArrayList<>(List.of(DogVotes.class.getDeclaredClasses()));
        list.add(DogVotes.class);
        return list;
    }

    private static void nestedClasses() {
        checks.about("rules 2, 5, 11");
        checks.holds("some twelve classes", all().size() <= 12);
        for (Class<?> c : all()) {
            checks.holds(c + " is static", c == DogVotes.class || Modifier.isStatic(c.getModifiers()));
            int fields = 0;
            for (Field f : c.getDeclaredFields()) {
                if (Modifier.isStatic(f.getModifiers())) {
                    checks.holds(f + " is a constant", Modifier.isFinal(f.getModifiers())
                        && List.of("int", "long", "boolean", "char", "class java.lang.String").contains(f.getType().toString()));
                } else {
                    fields++;
                }
            }
            checks.holds(c + " has some twenty fields", fields <= 20);
        }
    }

    private static void source() throws Exception {
        checks.about("rules 3 to 11");
        String source = Files.readString(Path.of(System.getProperty("dogvotes.source", "src/main/java/DogVotes.java")));
        String code = source.replaceAll("(?s)/\\*.*?\\*/|//[^\n]*", "").replaceAll("\"[^\"\n]*\"", "\"\"");
        for (String word : List.of("throw", "throws", "try", "catch", "finally", "synchronized", "assert", "import", "package",
                "protected", "equals", "hashCode", "toString", "double", "float", "record", "instanceof", "enum", "Object",
                "System.out", "Thread", "Random", "var", "native", "transient", "volatile", "strictfp")) {
            checks.holds("no " + word, !Pattern.compile("\\b" + Pattern.quote(word) + "\\b").matcher(code).find());
        }
        checks.holds("no lambda or arrow", !code.contains("->"));
        checks.holds("no method reference", !code.contains("::"));
        checks.holds("no method ending in Exact", !Pattern.compile("Exact\\(").matcher(code).find());
        Matcher library = Pattern.compile("\\b(Math|Integer|Long|System|Arrays|String|StringBuilder)\\.(\\w+)").matcher(code);
        while (library.find()) {
            checks.holds(library.group() + " is in the list",
                List.of("Math.abs", "Math.max", "Math.min", "Integer.bitCount", "System.arraycopy").contains(library.group()));
        }
        checks.holds("ASCII alone", source.chars().allMatch(c -> c < 128));
        int start = -1;
        String[] lines = source.split("\n");
        for (int i = 0; i < lines.length; i++) {
            if (lines[i].matches(" {4}( {4})?[^ *}/].*\\) \\{")) {
                start = i;
            }
            if (lines[i].matches(" {4}( {4})?\\}") && start >= 0) {
                checks.holds("the method at line " + (start + 1) + " is short", i - start < 60);
                start = -1;
            }
        }
    }

    /** So that javac reads them alike whatever the machine's locale is. */
    private static void plainSigns() throws Exception {
        checks.about("every source is ASCII");
        try (DirectoryStream<Path> files = Files.newDirectoryStream(Path.of("src/test/java"), "*.java")) {
            for (Path file : files) {
                boolean isPlain = true;
                for (byte b : Files.readAllBytes(file)) {
                    isPlain &= b >= 0;
                }
                checks.holds(file + " has ASCII alone", isPlain);
            }
        }
    }

    private static long bytesMade() {
        com.sun.management.ThreadMXBean threads = (com.sun.management.ThreadMXBean) ManagementFactory.getThreadMXBean();
        return threads.getThreadAllocatedBytes(Thread.currentThread().getId());
    }

    /** No call but sheet() makes anything: 500 of the dearest make less than a hundred bytes each. */
    private static void room() {
        checks.about("room");
        dear(new DogVotes(), 1);
        DogVotes x = new DogVotes();
        long before = bytesMade();
        dear(x, 12);
        long made = bytesMade() - before;
        checks.holds("dear calls make nothing, made " + made, made < 500 * 100);
    }

    /** A new object makes 44 objects and arrays, a sheet two: its row and the row's items. */
    private static void roomOfMakers() {
        checks.about("room");
        DogVotes x = new DogVotes();
        x.sheet(0, 3, 40);
        long before = bytesMade();
        for (int i = 0; i < 100; i++) {
            x = new DogVotes();
        }
        long made = bytesMade() - before;
        checks.holds("a new object is small, made " + made / 100, made < 100 * 4000);
        before = bytesMade();
        for (int i = 0; i < 512; i++) {
            x.sheet(i % 4, 3, 40);
        }
        made = bytesMade() - before;
        checks.holds("a sheet is small, made " + made / 512, made < 512 * 300);
    }

    private static void dear(DogVotes x, int times) {
        for (int i = 0; i < 8; i++) {
            x.sheep(i % 6, 9, i, i % 6);
        }
        x.sheet(0, 2, 40);
        for (int i = 0; i < 40; i++) {
            x.put(0, i, -1);
        }
        x.shelf(0, 0, 4);
        for (int i = 0; i < times; i++) {
            for (int place = 0; place < 6; place++) {
                x.agenda(place, 1);
                x.looksFor(place);
                x.callFor(place, 20);
            }
            x.strays(30);
            x.fits(0, 0, 0);
            x.kindFor(0, 3, 20);
            x.earFor(0, 3, 20);
            x.comes(5);
            x.calm();
            x.scared(7);
            x.power(0, 0);
            x.act(0, 3, 7);
            x.prove(0, 10);
            x.judge(0);
            x.odds(8, 4, 1);
            x.keep();
            x.again();
            x.feed(32, 1);
            x.days(60);
        }
        x.hill();
    }
}
