/** Promises 1 to 22, each sentence that names an edge: the last number allowed, the first refused, what stays. */
public final class EdgeHillTests {
    private static final int EWE = 0, HOGG = 1, WETHER = 2, GIMMER = 3, BELLWETHER = 4, TUP = 5;
    private static final int MIN = Integer.MIN_VALUE, MAX = Integer.MAX_VALUE;
    private static final Checks checks = new Checks();

    public static void main(String[] args) {
        promise01NothingThere();
        promise02BytesAtOnce();
        promise02TwoHundred();
        promise02BadBeforeFull();
        promise02LowestFirst();
        promise03EmptyTape();
        promise03FullTape();
        promise03EightSheep();
        promise03Numbers();
        promise03Names();
        promise03Options();
        promise03Blanks();
        promise03EveryByte();
        promise03FirstFault();
        promise03AsAtFirst();
        promise03RowsAndTape();
        promise04To05Laws();
        promise06Sheep();
        promise07To09Ranges();
        promise07Counts();
        promise07Vote();
        promise08Worth();
        promise08HalfAndThird();
        promise09Tames();
        promise10To12Ranges();
        promise13To16Ranges();
        promise13Votes();
        promise17Winner();
        promise18Days();
        promise18Steps();
        promise18Grass();
        promise18Fear();
        promise19Seed();
        promise20Draws();
        promise20Steps();
        promise21Strays();
        promise22State();
        checks.close();
    }

    private static void due(String call, long got, long want) {
        checks.due(call, got, want);
    }

    private static void ranges(String name, Twins.CallOf call, int[]... ranges) {
        Twins.ranges(checks, name, Twins::rich, call, -1, ranges);
    }

    private static void refused(String name, Twins.Making making, Twins.Call call, long want) {
        Twins.refused(checks, name, making, call, want);
    }

    private static int[] range(int least, int most) {
        return Twins.range(least, most);
    }

    private static void promise01NothingThere() {
        checks.about("promise 1: no SHEEP; nothing is kept");
        Twins.Making fresh = DogVotes::new;
        int[] ones = {0, 1, 7, -1, MIN, MAX};
        for (int i : ones) {
            refused("of " + i, fresh, x -> x.of(i, 0), -1);
            refused("worth " + i, fresh, x -> x.worth(i, 0), -1);
            refused("tames " + i, fresh, x -> x.tames(i), -1);
            refused("mind " + i, fresh, x -> x.mind(i, 0, 0), -1);
            refused("fear " + i, fresh, x -> x.fear(i, 0), -1);
            refused("look " + i, fresh, x -> x.look(i, 0), -1);
            refused("scared " + i, fresh, x -> x.scared(i), -1);
            refused("kindFor " + i, fresh, x -> x.kindFor(i, 0, 1), -1);
            refused("earFor " + i, fresh, x -> x.earFor(i, 0, 1), -1);
            refused("sham " + i, fresh, x -> x.sham(i), -1);
            refused("power " + i, fresh, x -> x.power(i, 0), -1);
            refused("fits " + i, fresh, x -> x.fits(0, i, 0), -1);
            refused("prove " + i, fresh, x -> x.prove(i, 1), -1);
            refused("judge " + i, fresh, x -> x.judge(i), -1);
            refused("minds " + i, fresh, x -> x.minds(0, 0, i, 0), -1);
            refused("shelf " + i, fresh, x -> x.shelf(0, 0, i), -1);
            refused("row " + i, fresh, x -> x.row(i, 0), -9);
            refused("alterRow " + i, fresh, x -> x.alterRow(i, 0, 1), -9);
            refused("trace " + i, fresh, x -> x.trace(i), -3);
        }
        checks.about("terms: SHELVES hold nothing, SHEETS are missing (at first)");
        DogVotes eight = new DogVotes();
        for (int one = 0; one < 8; one++) {
            eight.sheep(EWE, 0, 0, 0);
        }
        for (int i = 0; i < 4; i++) {
            due("taken with sheep there", eight.taken(i, EWE), -11);
            due("fits with sheep there", eight.fits(i, 0, 0), -11);
            due("minds with sheep there", eight.minds(i, 0, 0, 0), -11);
        }
        checks.about("promise 1: no SHEEP; nothing is kept");
        refused("again", fresh, DogVotes::again, -3);
        refused("ring", fresh, DogVotes::ring, -3);
        for (int i = 0; i < 4; i++) {
            int n = i;
            refused("item " + i, fresh, x -> x.item(n, n, 0), -11);
            refused("put " + i, fresh, x -> x.put(n, 0, 1), -11);
            refused("taken " + i, fresh, x -> x.taken(n, 0), -11);
            refused("act " + i, fresh, x -> x.act(n, 0, 5), 0);
        }
    }

    private static void promise02BytesAtOnce() {
        checks.about("promise 2: n bytes (1 to 8)");
        ranges("feed", (x, a) -> x.feed(0x2020202020202020L, a[0]), range(1, 8));
        for (int n = 1; n <= 8; n++) {
            due("feed of " + n, Twins.rich().feed(0x2020202020202020L, n), 10 + n);
            due("first feed of " + n, new DogVotes().feed(0x2020202020202020L, n), n);
        }
    }

    private static DogVotes taped(int bytes) {
        DogVotes x = Twins.untaped();
        HillTests.feed(x, "tup;" + " ".repeat(bytes - 4));
        return x;
    }

    private static void promise02TwoHundred() {
        checks.about("promise 2: more than 200");
        for (int n = 1; n <= 8; n++) {
            int k = n;
            due("up to 200 by " + n, taped(200 - n).feed(0x2020202020202020L, n), 200);
            refused("up to 201 by " + n, () -> taped(201 - k), x -> x.feed(0x2020202020202020L, k), -2);
            refused("200 and " + n, () -> taped(200), x -> x.feed(0x2020202020202020L, k), -2);
        }
        DogVotes x = taped(200);
        x.feed(32, 1);
        due("many(5) when full", x.many(5), 200);
        due("hill of 200", x.hill(), 1);
        due("as many again", x.feed(32, 8), 8);
    }

    private static void promise02BadBeforeFull() {
        checks.about("promise 2: of several the first named");
        for (int n : new int[] {0, 9, -1, MIN, MAX}) {
            refused("feed of " + n + " at 200", () -> taped(200), x -> x.feed(0, n), -1);
        }
    }

    private static void promise02LowestFirst() {
        checks.about("promise 2: the lowest of eight first");
        DogVotes x = new DogVotes();
        due("feed", x.feed(0x3B_70_75_74L, 4), 4);
        due("tup;", x.hill(), 1);
        x.feed(0x74_75_70_3BL, 4);
        due("the other way round", x.hill(), -100);
        x.feed(0xFFFF_FFFF_3B70_7574L, 4);
        due("what is above n bytes", x.hill(), 1);
        x.feed(0xFF20_2020_2020_2020L, 8);
        due("the eighth byte is the highest, 255", x.hill(), -107);
        x.feed(Long.MIN_VALUE, 8);
        due("byte 0", x.hill(), -100);
    }

    private static int hillOf(String text) {
        DogVotes x = new DogVotes();
        HillTests.feed(x, text);
        return x.hill();
    }

    private static void dueFault(String text, int fault) {
        DogVotes x = Twins.untaped();
        HillTests.feed(x, text);
        due("hill of <" + text + ">", x.hill(), -100 - fault);
        Twins.alike(checks, "hill of <" + text + ">", x, Twins.untaped());
    }

    private static void promise03EmptyTape() {
        checks.about("promise 3: an empty tape");
        DogVotes x = Twins.untaped();
        due("many(5)", x.many(5), 0);
        due("hill", x.hill(), 0);
        dueAsAtFirst(x);
    }

    private static void promise03FullTape() {
        checks.about("promise 3: FAULT at the end of 200 bytes");
        due("the last byte is used", hillOf(" ".repeat(196) + "tup;"), 1);
        due("blanks alone", hillOf(" ".repeat(200)), 0);
        dueFault(" ".repeat(197) + "tup", 200);
        dueFault("tup" + " ".repeat(197), 200);
        dueFault(" ".repeat(199) + "x", 199);
        dueFault(" ".repeat(199) + "7", 199);
        dueFault(" ".repeat(191) + "tup ear 3", 200);
        dueFault(" ".repeat(193) + "tup ear", 200);
        dueFault("tup;".repeat(8) + " ".repeat(165) + "tup", 197);
        due("as many statements as there can be", hillOf("tup;".repeat(8) + "food 0;".repeat(24)), 8);
    }

    private static void promise03EightSheep() {
        checks.about("promise 3: the NAME of a ninth one");
        due("eight", hillOf("ewe;".repeat(8)), 8);
        dueFault("ewe;".repeat(9), 32);
        dueFault("ewe;".repeat(8) + "  bellwether ear 3;", 34);
        dueFault("ewe;".repeat(8) + "food 1; tup ear 10", 40);
        due("other statements behind the eighth", hillOf("ewe;".repeat(8) + "food 1;"), 8);
    }

    private static String digits(int v) {
        return "" + v / 100 + v / 10 % 10 + v % 10;
    }

    /** A NUMBER's place in a text: from 0 to most, of one to three digits. */
    private static void dueNumber(String before, String behind, int most, Twins.Call reading) {
        String[] allowed = {"0", "" + most, digits(0), digits(most), "1", "01", "001"};
        for (String number : allowed) {
            DogVotes x = Twins.untaped();
            HillTests.feed(x, before + number + behind);
            checks.holds(before + number + behind + " stands", x.hill() >= 0);
            due("what " + before + number + behind + " tells", reading.on(x), Integer.parseInt(number));
        }
        int at = before.length();
        String[] wrong = {"" + (most + 1), digits(most + 1), "999", "0000", "0001", "0" + digits(most), "99999999999", "4294967296", "-1", "+1", "x", "ear"};
        for (String number : wrong) {
            dueFault(before + number + behind, at);
            dueFault(before + number, at);
        }
        dueFault(before + behind, at + (behind.startsWith(" ") ? 1 : 0));
        dueFault(before, at);
        dueFault(before + most, at + ("" + most).length());
        dueFault(before + most + "  ", at + ("" + most).length() + 2);
        dueFault(before + "0 0" + behind, at + 2);
    }

    private static void promise03Numbers() {
        checks.about("promise 3: a NUMBER out of range, of more digits");
        dueNumber("ewe ear ", ";", 9, x -> x.of(0, 1));
        dueNumber("ewe fear ", ";", 9, x -> x.of(0, 2));
        dueNumber("ewe look ", ";", 5, x -> x.of(0, 3));
        dueNumber("tup ear 9 fear 9 look ", ";", 5, x -> x.of(0, 3));
        dueNumber("grass 5 is ", ";", 9, x -> x.place(5, 0));
        dueNumber("risk 0 is ", ";", 9, x -> x.place(0, 1));
        dueNumber("flock ", ";", 5, x -> x.state(1));
        dueNumber("call ", ";", 5, x -> x.call(0) - 1);
        dueNumber("river ", ";", 9, x -> x.lawOf(0));
        dueNumber("whistle ", ";", 9, x -> x.lawOf(1));
        dueNumber("food ", ";", 9, x -> x.lawOf(2));
        dueNumber("wrong ", ";", 99, x -> x.lawOf(3));
        dueNumber("grass ", " is 7;", 5, x -> placeWith(x, 0, 7));
        dueNumber("risk ", " is 7;", 5, x -> placeWith(x, 1, 7));
    }

    private static int placeWith(DogVotes x, int what, int v) {
        for (int place = 0; place < 6; place++) {
            if (x.place(place, what) == v) {
                return place;
            }
        }
        return -1;
    }

    /** A NAME's place in a text: less of it, more of it, other letters, and what stands behind it instead. */
    private static void dueName(String before, String name, String behind) {
        checks.holds(before + name + behind + " stands", hillOf(before + name + behind) >= 0);
        int at = before.length();
        String capital = name.substring(0, 1).toUpperCase() + name.substring(1);
        String last = name.substring(0, name.length() - 1);
        String[] wrong = {last, last + "z", name + "s", name + "a", "s" + name, name + name, capital,
            last + " " + name.substring(name.length() - 1)};
        for (String other : wrong) {
            dueFault(before + other + behind, at);
        }
        dueFault(before + last, at);
        if (!behind.equals(";")) {
            dueFault(before + name + ";", at + name.length());
        }
        dueFault(before + name, at + name.length());
        dueFault(before + name + " ", at + name.length() + 1);
    }

    private static void promise03Names() {
        checks.about("promise 3: NAMES");
        for (String kind : new String[] {"ewe", "hogg", "wether", "gimmer", "bellwether", "tup"}) {
            dueName("", kind, ";");
            dueName("food 1; ", kind, ";");
        }
        dueName("ewe ", "ear", " 9;");
        dueName("ewe ", "fear", " 9;");
        dueName("ewe ", "look", " 5;");
        dueName("", "grass", " 5 is 9;");
        dueName("grass 5 ", "is", " 9;");
        dueName("", "risk", " 5 is 9;");
        dueName("risk 5 ", "is", " 9;");
        dueName("", "flock", " 5;");
        dueName("", "call", " 5;");
        dueName("", "river", " 9;");
        dueName("", "whistle", " 9;");
        dueName("", "food", " 9;");
        dueName("", "wrong", " 99;");
        int[] kinds = {EWE, HOGG, WETHER, GIMMER, BELLWETHER, TUP};
        DogVotes x = new DogVotes();
        HillTests.feed(x, "ewe;hogg;wether;gimmer;bellwether;tup;");
        due("one of each", x.hill(), 6);
        for (int kind : kinds) {
            due("kind", x.of(kind, 0), kind);
        }
    }

    private static void dueOne(String text, int ear, int fear, int look) {
        DogVotes x = Twins.untaped();
        HillTests.feed(x, text);
        due("hill of " + text, x.hill(), 1);
        due("ear of " + text, x.of(0, 1), ear);
        due("fear of " + text, x.of(0, 2), fear);
        due("look of " + text, x.of(0, 3), look);
    }

    private static void promise03Options() {
        checks.about("promise 3: KIND [ ear N ] [ fear N ] [ look N ] ;");
        dueOne("hogg;", 0, 0, 0);
        dueOne("hogg ear 3;", 3, 0, 0);
        dueOne("hogg fear 3;", 0, 3, 0);
        dueOne("hogg look 3;", 0, 0, 3);
        dueOne("hogg ear 3 fear 4;", 3, 4, 0);
        dueOne("hogg ear 3 look 4;", 3, 0, 4);
        dueOne("hogg fear 3 look 4;", 0, 3, 4);
        dueOne("hogg ear 3 fear 4 look 5;", 3, 4, 5);
        dueFault("hogg ear 3 ear 4;", 11);
        dueFault("hogg fear 3 ear 4;", 12);
        dueFault("hogg fear 3 fear 4;", 12);
        dueFault("hogg look 3 ear 4;", 12);
        dueFault("hogg look 3 fear 4;", 12);
        dueFault("hogg look 3 look 4;", 12);
        dueFault("hogg 3;", 5);
        dueFault("hogg is 3;", 5);
        dueFault("hogg hogg;", 5);
        dueFault("ear 3;", 0);
        dueFault("is 3;", 0);
        dueFault("grass is 3;", 6);
        dueFault("grass 1;", 7);
        dueFault("grass 1 is;", 10);
        dueFault("grass 1 is 2 is 3;", 13);
        dueFault("grass 1 2;", 8);
        dueFault("food is 2;", 5);
        dueFault("food 2 3;", 7);
        dueFault("food;", 4);
        dueFault(";", 0);
        dueFault("ewe;;", 4);
    }

    private static void promise03Blanks() {
        checks.about("promise 3: blanks part them, and stand elsewhere as one likes");
        dueOne("   tup   ear   3   fear   4   look   5   ;   ", 3, 4, 5);
        // A NAME and a NUMBER end where the other begins, as both go as long as they can.
        dueOne("tup ear3fear4look5;", 3, 4, 5);
        dueOne("grass1is2;tup;grass 1 is 2;", 0, 0, 0);
        dueFault("tupear 3;", 0);
        dueFault("t up;", 0);
        dueFault("tup e ar 3;", 4);
        dueFault("food 0 1;", 7);
        for (int other : new int[] {0, 9, 10, 11, 12, 13, 31, 33, 127, 128, 160, 255}) {
            dueFault((char) other + "tup;", 0);
            dueFault("tup" + (char) other + "ear 3;", 3);
            dueFault("tup ear" + (char) other + "3;", 7);
            dueFault("tup ear 3" + (char) other + ";", 9);
            dueFault("tup ear 3;" + (char) other, 10);
        }
    }

    private static void promise03EveryByte() {
        checks.about("promise 3: the first byte that can't stand there");
        for (int b = 0; b < 256; b++) {
            boolean letter = b >= 'a' && b <= 'z', digit = b >= '0' && b <= '9';
            String s = "" + (char) b;
            if (b == ' ') {
                due("a blank", hillOf(s), 0);
                dueFault("ewe" + s, 4);
                dueFault("ewe ear 3" + s, 10);
                dueFault("ewe ear" + s, 8);
                continue;
            }
            dueFault(s, 0);
            if (b == ';') {
                due("ewe" + s, hillOf("ewe" + s), 1);
                due("ewe ear 3" + s, hillOf("ewe ear 3" + s), 1);
            } else {
                dueFault("ewe" + s, letter ? 0 : 3);
                dueFault("ewe ear 3" + s, digit ? 8 : 9);
            }
            dueFault("ewe ear" + s, letter ? 4 : digit ? 8 : 7);
        }
    }

    private static void promise03FirstFault() {
        checks.about("promise 3: the first NAME, NUMBER or other byte");
        dueFault("ewe ear 10 fear 10;", 8);
        dueFault("ewe ear 3 fear 10; tup look 6;", 15);
        dueFault("grass 6 is 10;", 6);
        dueFault("grass 6 as 1;", 6);
        dueFault("grass 5 as 10;", 8);
        dueFault("food 1; foo 1; food 10;", 8);
        dueFault("wrong 100", 6);
        dueFault("wrong 99 #", 9);
        dueFault("tup;".repeat(8) + "ewe ear 10;", 32);
        dueFault("tup;".repeat(7) + "ewe ear 10;ewe;ewe;", 36);
    }

    private static void dueAsAtFirst(DogVotes x) {
        int[] laws = {3, 2, 1, 20};
        for (int law = 0; law < 4; law++) {
            due("lawOf(" + law + ")", x.lawOf(law), laws[law]);
        }
        for (int place = 0; place < 6; place++) {
            due("grass of " + place, x.place(place, 0), 5);
            due("risk of " + place, x.place(place, 1), 0);
        }
        due("day", x.state(0), 0);
        due("at", x.state(1), 0);
        due("call", x.call(0), 0);
        due("sheep", x.many(0), 0);
        due("rows", x.many(4), 0);
    }

    private static void promise03AsAtFirst() {
        checks.about("promise 3: what it doesn't tell is as at first; z stays");
        DogVotes x = Twins.untaped();
        int z = x.seed(0);
        x.seed(z);
        HillTests.feed(x, "   ");
        due("hill", x.hill(), 0);
        dueAsAtFirst(x);
        due("z", x.seed(MIN), z);
        x.hill();
        due("z", x.seed(MAX), MIN);
        x = Twins.untaped();
        HillTests.feed(x, "food 7;food 8;grass 2 is 0;grass 2 is 1;tup;flock 4;flock 5;call 4;call 3;");
        due("hill", x.hill(), 1);
        due("the later one of two", x.lawOf(2), 8);
        due("the later one of two", x.place(2, 0), 1);
        due("the later one of two", x.state(1), 5);
        due("the later one of two", x.call(0), 4);
        due("the other places", x.state(4), 26);
        due("the other laws", x.lawOf(1), 2);
    }

    private static void promise03RowsAndTape() {
        checks.about("promise 3: there are no ROWS then; THE TAPE is used up");
        DogVotes x = Twins.rich();
        due("rows", x.many(4), 4);
        due("hill", x.hill(), 1);
        due("no rows", x.many(4), 0);
        due("row", x.row(0, 0), -9);
        due("the tape", x.many(5), 0);
        due("feed", x.feed(32, 1), 1);
        x = Twins.untaped();
        HillTests.feed(x, "tup");
        due("faulty", x.hill(), -103);
        due("the tape is used up all the same", x.many(5), 0);
        due("rows stay", x.many(4), 4);
        due("nothing of the former text", x.feed(';', 1), 1);
        due("hill", x.hill(), -100);
        due("rows stay", x.row(2, 0), -40);
        due("sheets stay", x.item(0, 0, 0), 3);
        String[] texts = {"tup ear 555;", "tup ear 5", "tup ears 5;", "tup ear", "tup ear 5;;", "tup ear 5;"};
        int[] answers = {-108, -109, -104, -107, -110, 1};
        for (int i = 0; i < texts.length; i++) {
            HillTests.feed(x, texts[i]);
            due("nothing of the former text: <" + texts[i] + ">", x.hill(), answers[i]);
        }
    }

    private static void promise04To05Laws() {
        checks.about("promises 4, 5: LAWS");
        ranges("set", (x, a) -> x.set(a[0], 9), range(0, 3));
        ranges("set of law 3", (x, a) -> x.set(3, a[0]), range(0, 99));
        for (int law = 0; law < 3; law++) {
            int l = law;
            ranges("set of law " + l, (x, a) -> x.set(l, a[0]), range(0, 9));
        }
        ranges("lawOf", (x, a) -> x.lawOf(a[0]), range(0, 3));
        DogVotes x = new DogVotes();
        int[] was = {3, 2, 1, 20};
        for (int law = 0; law < 4; law++) {
            int most = law == 3 ? 99 : 9;
            due("set to the most", x.set(law, most), was[law]);
            due("lawOf", x.lawOf(law), most);
            due("set to the least", x.set(law, 0), most);
            due("lawOf", x.lawOf(law), 0);
            due("set to 1", x.set(law, 1), 0);
        }
    }

    private static void promise06Sheep() {
        checks.about("promise 6: SHEEP, 8 at most, numbered as they come");
        ranges("sheep", (x, a) -> x.sheep(a[0], a[1], a[2], a[3]), range(0, 5), range(0, 9), range(0, 9), range(0, 5));
        DogVotes x = new DogVotes();
        for (int one = 0; one < 8; one++) {
            due("sheep", x.sheep(one % 6, 9 - one, one + 2, one % 6), one);
            due("many(0)", x.many(0), one + 1);
        }
        for (int one = 0; one < 8; one++) {
            due("kind", x.of(one, 0), one % 6);
            due("ear", x.of(one, 1), 9 - one);
            due("fear", x.of(one, 2), one + 2);
            due("look", x.of(one, 3), one % 6);
        }
        refused("the ninth", Twins::full, y -> y.sheep(0, 0, 0, 0), -2);
        refused("the ninth", Twins::full, y -> y.sheep(5, 9, 9, 5), -2);
        checks.about("promise 6: of several the first named");
        refused("a bad ninth", Twins::full, y -> y.sheep(6, 0, 0, 0), -1);
        refused("a bad ninth", Twins::full, y -> y.sheep(0, 10, 0, 0), -1);
        refused("a bad ninth", Twins::full, y -> y.sheep(0, 0, -1, 0), -1);
        refused("a bad ninth", Twins::full, y -> y.sheep(0, 0, 0, 6), -1);
    }

    private static void promise07To09Ranges() {
        checks.about("promises 7 to 9: BAD");
        ranges("of", (x, a) -> x.of(a[0], a[1]), range(0, 6), range(0, 5));
        ranges("worth", (x, a) -> x.worth(a[0], a[1]), range(0, 6), range(0, 5));
        ranges("tames", (x, a) -> x.tames(a[0]), range(0, 6));
        refused("of the ninth", Twins::full, x -> x.of(8, 0), -1);
        due("of the eighth", Twins.full().of(7, 0), WETHER);
    }

    private static void dueCounts(int kind, int look, int at, int grassThere, int want) {
        DogVotes x = Twins.one(kind, 9, 9, look);
        x.flock(at);
        x.grow(at, 0, grassThere);
        due("kind " + kind + " counts at " + at + " with look " + look + ", grass " + grassThere, x.of(0, 4), want);
        due("all count", x.state(2), want);
        due("those that count anything", x.many(2), want > 0 ? 1 : 0);
    }

    private static void promise07Counts() {
        checks.about("terms: COUNTS");
        for (int at = 0; at < 6; at++) {
            for (int look = 0; look < 6; look++) {
                dueCounts(EWE, look, at, 0, 1);
                dueCounts(HOGG, look, at, 0, at == look ? 2 : 1);
                dueCounts(GIMMER, look, at, 0, at == look ? 4 : 2);
                dueCounts(WETHER, look, at, 0, 0);
                dueCounts(BELLWETHER, look, at, 0, 2);
            }
            for (int grass = 0; grass < 10; grass++) {
                dueCounts(TUP, 0, at, grass, grass < 3 ? 3 : 1);
            }
        }
        DogVotes x = Twins.one(TUP, 0, 0, 0);
        x.grow(1, 0, 0);
        due("only the grass where the flock is", x.of(0, 4), 1);
    }

    private static void promise07Vote() {
        checks.about("terms: VOTE, of several the least");
        DogVotes x = Twins.one(EWE, 0, 0, 0);
        due("all alike", x.of(0, 5), 0);
        x.grow(5, 0, 6);
        due("the last place", x.of(0, 5), 5);
        x.grow(4, 0, 6);
        due("4 and 5 alike", x.of(0, 5), 4);
        x.grow(0, 0, 6);
        due("0, 4 and 5 alike", x.of(0, 5), 0);
        for (int place = 0; place < 6; place++) {
            x.grow(place, 0, 0);
            x.grow(place, 1, 9);
        }
        due("all worth less than 0", x.of(0, 5), 0);
        x.grow(3, 1, 8);
        due("the least bad", x.of(0, 5), 3);
    }

    private static void dueWorth(DogVotes x, int kind, int place, int want) {
        x.mind(0, kind, 9);
        due("worth of " + place + " to kind " + kind, x.worth(0, place), 1000 + want);
    }

    private static void promise08Worth() {
        checks.about("terms: WORTH, the least and the greatest");
        DogVotes x = Twins.one(EWE, 9, 9, 4);
        x.grow(5, 0, 0);
        x.grow(5, 1, 9);
        int[] least = {-24, -24, -12, -24 - 9, -12, -15};
        x.set(0, 9);
        for (int kind = 0; kind < 6; kind++) {
            dueWorth(x, kind, 5, least[kind]);
        }
        x.flock(5);
        x.call(6);
        x.look(0, 5);
        x.grow(5, 0, 9);
        x.grow(5, 1, 0);
        int[] greatest = {18, 27, 9, 27 - 9, 18, 27};
        for (int kind = 0; kind < 6; kind++) {
            dueWorth(x, kind, 5, greatest[kind]);
        }
        checks.about("terms: WORTH, less RIVER, if it is THE LOCH");
        x.grow(4, 0, 9);
        x.fear(0, 0);
        for (int place = 0; place < 6; place++) {
            x.look(0, place);
            x.grow(place, 0, 9);
            dueWorth(x, GIMMER, place, place == 5 ? 18 : 27);
            x.set(0, 0);
            dueWorth(x, GIMMER, place, 27);
            x.set(0, 9);
            dueWorth(x, HOGG, place, 27);
        }
        checks.about("terms: WORTH, EAR, if it is the CALL");
        for (int call = 0; call < 7; call++) {
            x.call(call);
            for (int place = 0; place < 6; place++) {
                dueWorth(x, BELLWETHER, place, call == place + 1 ? 18 : 9);
                dueWorth(x, WETHER, place, 9);
            }
        }
        checks.about("terms: WORTH, EAR, if it is its LOOK");
        for (int look = 0; look < 6; look++) {
            x.look(0, look);
            for (int place = 0; place < 6; place++) {
                dueWorth(x, HOGG, place, look == place ? 27 : 18);
                dueWorth(x, EWE, place, 18);
            }
        }
    }

    private static void promise08HalfAndThird() {
        checks.about("terms: half, cut towards 0");
        DogVotes x = Twins.one(WETHER, 0, 0, 0);
        x.grow(2, 1, 9);
        int[] halves = {-4, -3, -2, -1, 0, 0, 1, 2, 3, 4};
        for (int grass = 0; grass < 10; grass++) {
            x.grow(2, 0, grass);
            dueWorth(x, WETHER, 2, halves[grass]);
            dueWorth(x, BELLWETHER, 2, halves[grass]);
        }
        x.call(3);
        x.grow(2, 0, 3);
        dueWorth(x, BELLWETHER, 2, 8);
        checks.about("terms: a third of FEAR (cut) for each PLACE that it is off");
        x = Twins.one(EWE, 0, 0, 0);
        int[] thirds = {0, 0, 0, 1, 1, 1, 2, 2, 2, 3};
        for (int at = 0; at < 6; at++) {
            x.flock(at);
            for (int fear = 0; fear < 10; fear++) {
                x.fear(0, fear);
                for (int place = 0; place < 6; place++) {
                    due("worth of " + place + " at " + at + ", fear " + fear, x.worth(0, place),
                        1010 - thirds[fear] * (place > at ? place - at : at - place));
                }
            }
        }
    }

    private static void promise09Tames() {
        checks.about("terms: TAMES");
        int[] want = {1, 2, 3, -1, 3, 0};
        for (int kind = 0; kind < 6; kind++) {
            for (int v : new int[] {0, 9}) {
                due("tames of kind " + kind, Twins.one(kind, v, v, v % 6).tames(0), 1000 + want[kind]);
            }
        }
    }

    private static void promise10To12Ranges() {
        checks.about("promises 10 to 12: BAD");
        ranges("mind", (x, a) -> x.mind(a[0], a[1], a[2]), range(0, 6), range(0, 5), range(0, 9));
        ranges("fear", (x, a) -> x.fear(a[0], a[1]), range(0, 6), range(0, 9));
        ranges("look", (x, a) -> x.look(a[0], a[1]), range(0, 6), range(0, 5));
        checks.about("promises 10 to 12: what it was");
        DogVotes x = Twins.full();
        due("mind", x.mind(7, TUP, 9), WETHER);
        due("mind", x.mind(7, EWE, 0), TUP);
        due("fear", x.fear(7, 9), 4);
        due("fear", x.fear(7, 0), 9);
        due("look", x.look(7, 5), 4);
        due("look", x.look(7, 0), 5);
        int[] want = {EWE, 0, 0, 0};
        for (int what = 0; what < 4; what++) {
            due("of(7, " + what + ")", x.of(7, what), want[what]);
            due("the one beside it", x.of(6, what), Twins.full().of(6, what));
        }
    }

    private static void promise13To16Ranges() {
        checks.about("promises 13 to 16: BAD");
        ranges("place", (x, a) -> x.place(a[0], a[1]), range(0, 5), range(0, 3));
        ranges("grow", (x, a) -> x.grow(a[0], a[1], a[2]), range(0, 5), range(0, 1), range(0, 9));
        ranges("flock", (x, a) -> x.flock(a[0]), range(0, 5));
        ranges("call", (x, a) -> x.call(a[0]), range(0, 6));
        checks.about("promises 14 to 16: what it was");
        DogVotes x = new DogVotes();
        for (int place = 0; place < 6; place++) {
            due("grass to 9", x.grow(place, 0, 9), 5);
            due("grass to 0", x.grow(place, 0, 0), 9);
            due("grass", x.place(place, 0), 0);
            due("risk to 9", x.grow(place, 1, 9), 0);
            due("risk to 0", x.grow(place, 1, 0), 9);
            due("risk", x.place(place, 1), 0);
            due("flock", x.flock(place), Math.max(0, place - 1));
            due("at", x.state(1), place);
        }
        for (int v = 0; v < 7; v++) {
            due("call", x.call(v), Math.max(0, v - 1));
        }
    }

    private static void promise13Votes() {
        checks.about("promise 13: whose VOTE, its VOTES");
        DogVotes x = new DogVotes();
        due("nobody's", x.place(0, 2), 0);
        for (int one = 0; one < 8; one++) {
            x.sheep(GIMMER, 0, 0, 0);
        }
        due("everybody's", x.place(0, 2), 255);
        due("four each", x.place(0, 3), 32);
        x.call(1);
        x.set(1, 9);
        due("and the whistle", x.place(0, 3), 41);
        due("nobody's", x.place(5, 2), 0);
        due("none", x.place(5, 3), 0);
        x.call(6);
        due("the whistle alone", x.place(5, 3), 9);
        due("nobody's", x.place(5, 2), 0);
        due("places with votes", x.many(1), 2);
        x.call(0);
        due("no call", x.place(0, 3) + x.place(5, 3), 32);
    }

    private static void promise17Winner() {
        checks.about("terms: WINNER, of several the nearest, of these the least");
        DogVotes x = new DogVotes();
        for (int at = 0; at < 6; at++) {
            x.flock(at);
            due("no votes, at " + at, x.winner(), at);
        }
        x.sheep(EWE, 0, 0, 0);
        x.sheep(HOGG, 1, 0, 4);
        int[] nearest = {0, 0, 0, 4, 4, 4};
        for (int at = 0; at < 6; at++) {
            x.flock(at);
            due("0 and 4, at " + at, x.winner(), nearest[at]);
        }
        x.call(6);
        x.set(1, 1);
        x.flock(5);
        x.look(1, 3);
        x.flock(4);
        due("one each for 0, 3 and 5: of as near ones the least", x.winner(), 3);
        x.set(1, 2);
        due("the most", x.winner(), 5);
    }

    private static void promise18Days() {
        checks.about("promise 18: n DAYS (1 to 60)");
        ranges("days", (x, a) -> x.days(a[0]), range(1, 60));
        DogVotes x = new DogVotes();
        x.days(1);
        due("day", x.state(0), 1);
        x.days(60);
        due("day", x.state(0), 61);
    }

    private static void promise18Steps() {
        checks.about("terms: THE FLOCK goes one PLACE towards the WINNER (it stays, if it is AT it)");
        for (int at = 0; at < 6; at++) {
            for (int call = 0; call < 6; call++) {
                DogVotes x = new DogVotes();
                x.flock(at);
                x.call(call + 1);
                due("from " + at + " to " + call, x.days(1), at + Integer.signum(call - at));
            }
        }
    }

    private static void promise18Grass() {
        checks.about("terms: GRASS where it is then is FOOD less (0 at least)");
        for (int food = 0; food < 10; food++) {
            for (int grass = 0; grass < 10; grass++) {
                DogVotes x = new DogVotes();
                x.set(2, food);
                x.grow(0, 0, grass);
                x.days(1);
                due("grass " + grass + ", food " + food, x.place(0, 0), Math.max(0, grass - food));
            }
        }
        checks.about("terms: that of each other PLACE is 1 more (9 at most)");
        for (int grass = 0; grass < 10; grass++) {
            for (int place = 1; place < 6; place++) {
                DogVotes x = new DogVotes();
                x.grow(place, 0, grass);
                x.days(1);
                due("grass " + grass, x.place(place, 0), Math.min(9, grass + 1));
            }
        }
        checks.about("terms: where it is then");
        DogVotes x = new DogVotes();
        x.call(2);
        x.days(1);
        due("where it came from", x.place(0, 0), 6);
        due("where it came to", x.place(1, 0), 4);
    }

    private static void promise18Fear() {
        checks.about("terms: if RISK is above its FEAR 1 more, else what it TAMES less (held to 0 to 9)");
        int[] tames = {1, 2, 3, -1, 3, 0};
        for (int kind = 0; kind < 6; kind++) {
            for (int fear = 0; fear < 10; fear++) {
                for (int risk = 0; risk < 10; risk++) {
                    DogVotes x = Twins.one(kind, 0, fear, 5);
                    x.call(1);
                    x.set(1, 9);
                    x.grow(0, 1, risk);
                    x.days(1);
                    int want = risk > fear ? fear + 1 : Math.max(0, Math.min(9, fear - tames[kind]));
                    due("kind " + kind + ", fear " + fear + ", risk " + risk, x.of(0, 2), want);
                }
            }
        }
        checks.about("terms: RISK where THE FLOCK is then");
        DogVotes x = Twins.one(TUP, 0, 3, 0);
        x.call(2);
        x.set(1, 9);
        x.grow(1, 1, 4);
        x.days(1);
        due("of where it came to", x.of(0, 2), 4);
        x = Twins.one(TUP, 0, 3, 0);
        x.call(2);
        x.set(1, 9);
        x.grow(0, 1, 4);
        x.days(1);
        due("not of where it came from", x.of(0, 2), 3);
    }

    private static void promise19Seed() {
        checks.about("promise 19: z (an int; 1 at first)");
        DogVotes x = new DogVotes();
        int was = 1;
        for (int v : new int[] {0, -1, MAX, MIN, 1}) {
            due("seed " + v, x.seed(v), was);
            was = v;
        }
    }

    /** A day by draws of eight ewes that look at place 2, WRONG being as told: z then, who looks elsewhere, where. */
    private static void dueDraws(int seed, int wrong, int z, int one, int look) {
        DogVotes x = new DogVotes();
        for (int i = 0; i < 8; i++) {
            x.sheep(EWE, 0, 0, 2);
        }
        x.set(3, wrong);
        x.seed(seed);
        x.day();
        due("z behind " + seed, x.seed(0), z);
        for (int i = 0; i < 8; i++) {
            due("look of " + i + " behind " + seed, x.of(i, 3), i == one ? look : 2);
        }
    }

    private static void promise20Draws() {
        checks.about("terms: DRAWS, z wraps, z >>> 16 is drawn");
        // z 1: 1103527590, -1770082073 (38526), 662824084 (10113).
        dueDraws(1, 26, -1770082073, -1, 0);
        dueDraws(1, 27, 662824084, 6, 3);
        // z of 2147483647: 1043980748 (15929), -1858503659 (37177), -1501140182 (42630).
        dueDraws(MAX, 77, -1858503659, -1, 0);
        dueDraws(MAX, 78, -1501140182, 1, 0);
        // z of -2147483648: -2147471303 (32768), 1406932606 (21468), 654583775 (9988).
        dueDraws(MIN, 68, 1406932606, -1, 0);
        dueDraws(MIN, 69, 654583775, 0, 4);
        // z of -1: -1103502900 (48697), 288979989 (4409), 646343466 (9862).
        dueDraws(-1, 9, 288979989, -1, 0);
        dueDraws(-1, 10, 646343466, 1, 4);
        checks.about("terms: below WRONG, 0 and 99");
        // 1618: -1218716381 (46939), -74448352 (64400), -1044981799 (49590).
        dueDraws(1618, 0, -74448352, -1, 0);
        dueDraws(1618, 1, -1044981799, 3, 0);
        // 4743: 41239, 58998, 16535; 7959: 60496, 298, 27690.
        dueDraws(4743, 98, -428415523, -1, 0);
        dueDraws(4743, 99, 1083663698, 7, 5);
        dueDraws(7959, 99, 1814693666, 0, 0);
        // 23: 59601, 20599, 12880.
        dueDraws(23, 99, 1350039021, -1, 0);
    }

    private static void promise20Steps() {
        checks.about("promise 20: if there are SHEEP, a draw");
        DogVotes x = new DogVotes();
        x.call(6);
        for (int n = 1; n < 7; n++) {
            due("day", x.day(), Math.min(5, n));
            due("day counts", x.state(0), n);
        }
        due("z without sheep", x.seed(0), 1);
        checks.about("terms: the one that it leaves by how many there are");
        // 16838 leaves 0 by 1, 0 by 2, 2 by 3, 2 by 4, 3 by 5, 2 by 6, 3 by 7, 6 by 8.
        int[] left = {0, 0, 2, 2, 3, 2, 3, 6};
        for (int heads = 1; heads <= 8; heads++) {
            x = new DogVotes();
            for (int i = 0; i < heads; i++) {
                x.sheep(EWE, 0, 0, 0);
            }
            x.set(3, 27);
            x.day();
            for (int i = 0; i < heads; i++) {
                due("look of " + i + " of " + heads, x.of(i, 3), i == left[heads - 1] ? 3 : 0);
            }
        }
    }

    private static void promise21Strays() {
        checks.about("promise 21: STRAYS (n 1 to 30)");
        ranges("strays", (x, a) -> x.strays(a[0]), range(1, 30));
        Twins.Making hogg = () -> {
            DogVotes x = Twins.one(HOGG, 9, 0, 0);
            x.set(3, 99);
            return x;
        };
        for (int n = 1; n <= 30; n++) {
            due("strays " + n, hogg.made().strays(n), looksAt(n, 99, 62));
            DogVotes x = hogg.made();
            x.strays(n);
            Twins.alike(checks, "strays", x, hogg.made());
        }
        checks.about("terms: STRAYS, not where a DAY takes it, each tried from how all is now");
        for (int look = 0; look < 6; look++) {
            for (int at = 0; at < 6; at++) {
                DogVotes x = Twins.one(HOGG, 9, 0, look);
                x.set(3, 60);
                x.flock(at);
                int usual = Integer.signum(look - at), stray = 0;
                for (int other = 0; other < 6; other++) {
                    stray |= Integer.signum(other - at) != usual ? 1 << other : 0;
                }
                due("strays at " + at + " with look " + look, x.strays(30), looksAt(30, 60, stray));
            }
        }
        DogVotes x = Twins.one(HOGG, 9, 0, 0);
        x.set(3, 0);
        due("none looks wrongly", x.strays(30), 0);
        due("no sheep", new DogVotes().strays(30), 0);
    }

    /** How many of n days by draws of one, from z 1 on, make it look at a PLACE of a set. */
    private static int looksAt(int n, int wrong, int places) {
        int z = 1, looks = 0;
        for (int i = 0; i < n; i++) {
            z = z * 1103515245 + 12345;
            z = z * 1103515245 + 12345;
            if ((z >>> 16) % 100 < wrong) {
                z = z * 1103515245 + 12345;
                looks += places >> (z >>> 16) % 6 & 1;
            }
        }
        return looks;
    }

    private static void promise22State() {
        checks.about("promise 22: state");
        ranges("state", (x, a) -> x.state(a[0]), range(0, 5));
        DogVotes x = new DogVotes();
        int[] none = {0, 0, 0, 0, 30, 0};
        for (int what = 0; what < 6; what++) {
            due("state(" + what + ") of none", x.state(what), none[what]);
        }
        for (int one = 0; one < 8; one++) {
            x.sheep(GIMMER, 9, 9, 5);
        }
        x.flock(5);
        for (int place = 0; place < 6; place++) {
            x.grow(place, 0, 9);
        }
        int[] all = {0, 5, 32, 72, 54, 255};
        for (int what = 0; what < 6; what++) {
            due("state(" + what + ") of all", x.state(what), all[what]);
        }
        due("many(3)", x.many(3), 8);
        x.fear(3, 8);
        due("a FEAR of 8 is not 9", x.state(5), 247);
        due("many(3)", x.many(3), 7);
        for (int place = 0; place < 6; place++) {
            x.grow(place, 0, 0);
        }
        due("no grass", x.state(4), 0);
    }
}
