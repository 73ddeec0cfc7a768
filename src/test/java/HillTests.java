/** Promises 1 to 22: the hill, its text, its sheep, its days. */
public final class HillTests {
    private static final int EWE = 0, HOGG = 1, WETHER = 2, GIMMER = 3, BELLWETHER = 4, TUP = 5;
    private static final Checks checks = new Checks();

    public static void main(String[] args) {
        promise01New();
        promise02Feed();
        promise03Hill();
        promise03Faults();
        promise03FaultsChangeNothing();
        promise04To05Laws();
        promise06Sheep();
        promise07Of();
        promise08Worth();
        promise09Tames();
        promise10To12Mind();
        promise13Place();
        promise14To16Grow();
        promise17Winner();
        promise18Days();
        promise19To20Draws();
        promise21Strays();
        promise22State();
        checks.close();
    }

    private static void due(String call, long got, long want) {
        checks.due(call, got, want);
    }

    /** Feeds a text, eight bytes a call. */
    static void feed(DogVotes x, String text) {
        for (int i = 0; i < text.length(); i += 8) {
            int n = Math.min(8, text.length() - i);
            long eight = 0;
            for (int k = 0; k < n; k++) {
                eight |= (long) text.charAt(i + k) << 8 * k;
            }
            x.feed(eight, n);
        }
    }

    private static int hill(String text) {
        DogVotes x = new DogVotes();
        feed(x, text);
        return x.hill();
    }

    private static void dueHill(String text, int want) {
        due("hill of <" + text + ">", hill(text), want);
    }

    private static void dueState(DogVotes x, int... want) {
        for (int what = 0; what < want.length; what++) {
            due("state(" + what + ")", x.state(what), want[what]);
        }
    }

    private static void promise01New() {
        checks.about("promise 1");
        DogVotes x = new DogVotes();
        for (int what = 0; what < 7; what++) {
            due("many(" + what + ")", x.many(what), 0);
        }
        dueState(x, 0, 0, 0, 0, 30, 0);
        int[] laws = {3, 2, 1, 20};
        for (int law = 0; law < 4; law++) {
            due("lawOf(" + law + ")", x.lawOf(law), laws[law]);
        }
        for (int place = 0; place < 6; place++) {
            due("grass", x.place(place, 0), 5);
            due("risk", x.place(place, 1), 0);
        }
        due("again()", x.again(), -3);
        due("call(0)", x.call(0), 0);
        due("seed(5)", x.seed(5), 1);
        for (int i = 0; i < 4; i++) {
            due("item of a missing sheet", x.item(i, 0, 0), -11);
            due("taken of an empty shelf", x.taken(i, 0), -11);
        }
        due("trace(0)", x.trace(0), -3);
        due("row(0, 0)", x.row(0, 0), -9);
        due("BAD", DogVotes.BAD, -1);
        due("FULL", DogVotes.FULL, -2);
        due("NONE", DogVotes.NONE, -3);
    }

    private static void promise02Feed() {
        checks.about("promise 2");
        DogVotes x = new DogVotes();
        due("feed 1", x.feed(32, 1), 1);
        due("feed 8", x.feed(0x2020202020202020L, 8), 9);
        due("feed 0", x.feed(32, 0), -1);
        due("feed 9", x.feed(32, 9), -1);
        due("feed -1", x.feed(32, -1), -1);
        due("many(5)", x.many(5), 9);
        due("hill of blanks", x.hill(), 0);
        due("used up", x.many(5), 0);
        for (int i = 1; i <= 24; i++) {
            due("feed 8", x.feed(0x2020202020202020L, 8), 8 * i);
        }
        due("feed 4", x.feed(0x20202020, 4), 196);
        due("feed 5 is too much", x.feed(0x2020202020L, 5), -2);
        due("many(5)", x.many(5), 196);
        due("BAD before FULL", x.feed(0, 9), -1);
        due("feed 4", x.feed(0x20202020, 4), 200);
        due("feed 1 is too much", x.feed(32, 1), -2);
        due("hill", x.hill(), 0);
        long tup = 't' | 'u' << 8 | 'p' << 16 | (long) ';' << 24;
        due("what is above n bytes counts nothing", x.feed(tup | 0x2323L << 32, 4), 4);
        due("lowest first", x.hill(), 1);
        due("kind", x.of(0, 0), TUP);
        due("a negative one", x.feed(-1, 8), 8);
        due("hill", x.hill(), -100);
    }

    private static void promise03Hill() {
        checks.about("promise 3");
        DogVotes x = new DogVotes();
        x.sheep(EWE, 1, 1, 1);
        x.sheep(EWE, 1, 1, 1);
        x.set(0, 9);
        x.set(3, 99);
        x.grow(2, 0, 9);
        x.grow(2, 1, 9);
        x.flock(4);
        x.call(3);
        x.days(2);
        x.seed(77);
        x.prove(0, 3);
        x.sheet(0, 2, 3);
        x.put(0, 1, 5);
        due("nothing told", x.hill(), 0);
        dueState(x, 0, 0, 0, 0, 30, 0);
        due("river", x.lawOf(0), 3);
        due("wrong", x.lawOf(3), 20);
        due("risk", x.place(2, 1), 0);
        due("call", x.call(0), 0);
        due("no rows", x.many(4), 0);
        due("z stays", x.seed(1), 77);
        due("sheets are not told by a text", x.item(0, 2, 1), 5);
        feed(x, "gimmer ear 3 fear 4 look 2;grass 1 is 7;risk 5 is 9;flock 4;call 5;river 1;whistle 7;food 8;wrong 77;");
        due("all told", x.hill(), 1);
        int[] gimmer = {GIMMER, 3, 4, 2};
        for (int what = 0; what < 4; what++) {
            due("of(0, " + what + ")", x.of(0, what), gimmer[what]);
        }
        int[] laws = {1, 7, 8, 77};
        for (int law = 0; law < 4; law++) {
            due("lawOf(" + law + ")", x.lawOf(law), laws[law]);
        }
        due("grass 1", x.place(1, 0), 7);
        due("risk 5", x.place(5, 1), 9);
        due("at 4", x.state(1), 4);
        due("call 5 is the loch", x.call(0), 6);
        feed(x, "ewe;hogg;wether ear 9;bellwether look 5;tup fear 9;");
        due("five", x.hill(), 5);
        int[] kinds = {EWE, HOGG, WETHER, BELLWETHER, TUP};
        for (int one = 0; one < 5; one++) {
            due("kind of " + one, x.of(one, 0), kinds[one]);
        }
        due("ear without", x.of(0, 1), 0);
        due("fear without", x.of(0, 2), 0);
        due("look without", x.of(0, 3), 0);
        due("ear of 2", x.of(2, 1), 9);
        due("look of 3", x.of(3, 3), 5);
        due("fear of 4", x.of(4, 2), 9);
        dueHill("", 0);
        dueHill("   ", 0);
        dueHill(" ewe ; tup  ear   3 ;  ", 2);
        dueHill("flock 2;flock 3;grass 1 is 2;grass 1 is 3;", 0);
        dueHill("tup;tup;tup;tup;tup;tup;tup;tup;", 8);
        dueHill("wrong 099;", 0);
        dueHill("ewe ear 009;", 1);
        dueHill("call 0;", 0);
    }

    private static void promise03Faults() {
        checks.about("promise 3, faults");
        dueHill("sheep;", -100);
        dueHill("ewes;", -100);
        dueHill("Ewe;", -100);
        dueHill("ewez;", -100);
        dueHill("ewea;", -100);
        dueHill("ewe{", -103);
        dueHill("ewe`", -103);
        dueHill("ewe ear 3:", -109);
        dueHill("ewe ear 3/", -109);
        dueHill("ewe ear 3ear", -109);
        dueHill(";", -100);
        dueHill("7;", -100);
        dueHill("ear 7;", -100);
        dueHill("\u00ff", -100);
        dueHill("\n", -100);
        dueHill("ewe", -103);
        dueHill("ewe   ", -106);
        dueHill("ewe;;", -104);
        dueHill("ewe#", -103);
        dueHill("ewe tup;", -104);
        dueHill("ewe; ew", -105);
        dueHill("ewe ear", -107);
        dueHill("ewe ear ;", -108);
        dueHill("ewe ear x;", -108);
        dueHill("ewe ear 10;", -108);
        dueHill("ewe ear 0009;", -108);
        dueHill("ewe ear 99999999999;", -108);
        dueHill("ewe ear 1 2;", -110);
        dueHill("ewe fear 10;", -109);
        dueHill("ewe look 6;", -109);
        dueHill("ewe fear 1 ear 2;", -111);
        dueHill("ewe look 1 look 2;", -111);
        dueHill("ewe ear 1 ear 2;", -110);
        dueHill("ewe fear 1 look 2", -117);
        dueHill("grass", -105);
        dueHill("grass 6 is 1;", -106);
        dueHill("grass 1 is 10;", -111);
        dueHill("grass 1 1;", -108);
        dueHill("grass 1 as 1;", -108);
        dueHill("grass 1 is", -110);
        dueHill("risk 6 is 1;", -105);
        dueHill("risk 5 is 10;", -110);
        dueHill("flock 6;", -106);
        dueHill("flock 1 is 2;", -108);
        dueHill("call 6;", -105);
        dueHill("river 10;", -106);
        dueHill("whistle 10;", -108);
        dueHill("food 10;", -105);
        dueHill("wrong 100;", -106);
        dueHill("wrong 99 ", -109);
        dueHill("tup;tup;tup;tup;tup;tup;tup;tup;ewe;", -132);
        dueHill("tup;tup;tup;tup;tup;tup;tup;tup; ewe", -133);
    }

    private static void promise03FaultsChangeNothing() {
        checks.about("promise 3, a faulty text");
        DogVotes x = new DogVotes();
        x.sheep(HOGG, 9, 2, 3);
        x.days(2);
        x.prove(0, 2);
        feed(x, "ewe;ewe;flock 5;river 9;grass 0 is 0;call 3;ewe");
        due("hill", x.hill(), -147);
        due("sheep", x.many(0), 1);
        due("kind", x.of(0, 0), HOGG);
        due("day", x.state(0), 2);
        due("at", x.state(1), 2);
        due("river", x.lawOf(0), 3);
        due("call", x.call(0), 0);
        due("rows", x.many(4), 2);
        due("the tape is used up", x.many(5), 0);
    }

    private static void promise04To05Laws() {
        checks.about("promises 4, 5");
        DogVotes x = new DogVotes();
        due("set(0, 9)", x.set(0, 9), 3);
        due("set(0, 0)", x.set(0, 0), 9);
        due("set(1, 7)", x.set(1, 7), 2);
        due("set(2, 0)", x.set(2, 0), 1);
        due("set(3, 99)", x.set(3, 99), 20);
        int[][] bad = {{-1, 0}, {4, 0}, {0, -1}, {0, 10}, {1, 10}, {2, 10}, {3, 100}, {3, -1}};
        for (int[] b : bad) {
            due("set " + b[0] + " " + b[1], x.set(b[0], b[1]), -1);
        }
        int[] laws = {0, 7, 0, 99};
        for (int law = 0; law < 4; law++) {
            due("lawOf(" + law + ")", x.lawOf(law), laws[law]);
        }
        due("lawOf(-1)", x.lawOf(-1), -1);
        due("lawOf(4)", x.lawOf(4), -1);
    }

    private static void promise06Sheep() {
        checks.about("promise 6");
        DogVotes x = new DogVotes();
        int[][] bad = {{-1, 0, 0, 0}, {6, 0, 0, 0}, {0, -1, 0, 0}, {0, 10, 0, 0}, {0, 0, -1, 0}, {0, 0, 10, 0}, {0, 0, 0, -1}, {0, 0, 0, 6}};
        for (int[] b : bad) {
            due("a bad one", x.sheep(b[0], b[1], b[2], b[3]), -1);
        }
        due("none came", x.many(0), 0);
        for (int one = 0; one < 8; one++) {
            due("sheep", x.sheep(one % 6, 9, 9, 5), one);
        }
        due("the ninth", x.sheep(0, 0, 0, 0), -2);
        due("BAD before FULL", x.sheep(6, 0, 0, 0), -1);
        due("many(0)", x.many(0), 8);
    }

    private static void promise07Of() {
        checks.about("promise 7");
        DogVotes x = new DogVotes();
        x.sheep(GIMMER, 8, 7, 4);
        int[] want = {GIMMER, 8, 7, 4, 2};
        for (int what = 0; what < 5; what++) {
            due("of(0, " + what + ")", x.of(0, what), want[what]);
        }
        // 10 - 2 * 4 + 8 at place 4; 10 where the flock is.
        due("vote: of several the least", x.of(0, 5), 0);
        x.fear(0, 5);
        due("vote", x.of(0, 5), 4);
        x.flock(4);
        due("counts", x.of(0, 4), 4);
        x.mind(0, HOGG, 8);
        due("a hogg counts", x.of(0, 4), 2);
        x.mind(0, WETHER, 8);
        due("a wether counts", x.of(0, 4), 0);
        x.mind(0, BELLWETHER, 8);
        due("a bellwether counts", x.of(0, 4), 2);
        x.mind(0, EWE, 8);
        due("a ewe counts", x.of(0, 4), 1);
        x.mind(0, TUP, 8);
        due("a tup counts", x.of(0, 4), 1);
        x.grow(4, 0, 3);
        due("grass 3", x.of(0, 4), 1);
        x.grow(4, 0, 2);
        due("grass 2", x.of(0, 4), 3);
        due("no such one", x.of(1, 0), -1);
        due("no such one", x.of(-1, 0), -1);
        due("no such what", x.of(0, 6), -1);
        due("no such what", x.of(0, -1), -1);
    }

    private static void promise08Worth() {
        checks.about("promise 8");
        DogVotes x = new DogVotes();
        x.sheep(EWE, 6, 7, 5);
        x.flock(2);
        x.grow(0, 0, 9);
        x.grow(0, 1, 2);
        x.grow(4, 0, 1);
        x.grow(4, 1, 9);
        x.call(6);
        // Two for each place off. By place: 18-2-4, 10-2, 10, 10-2, 2-9-4, 10-6.
        dueWorths(x, EWE, 1012, 1008, 1010, 1008, 989, 1004);
        dueWorths(x, HOGG, 1012, 1008, 1010, 1008, 989, 1010);
        dueWorths(x, GIMMER, 1012, 1008, 1010, 1008, 989, 1007);
        dueWorths(x, WETHER, 1006, 1004, 1005, 1004, 995, 1002);
        dueWorths(x, BELLWETHER, 1006, 1004, 1005, 1004, 995, 1008);
        dueWorths(x, TUP, 1023, 1013, 1015, 1013, 999, 1009);
        x.fear(0, 8);
        due("a third is cut before it is taken for each place", x.worth(0, 5), 1009);
        x.fear(0, 9);
        due("three for each", x.worth(0, 5), 1006);
        due("no such one", x.worth(1, 0), -1);
        due("no such place", x.worth(0, 6), -1);
        due("no such place", x.worth(0, -1), -1);
    }

    private static void dueWorths(DogVotes x, int kind, int... want) {
        x.mind(0, kind, 6);
        for (int place = 0; place < 6; place++) {
            due("worth(0, " + place + ") of kind " + kind, x.worth(0, place), want[place]);
        }
    }

    private static void promise09Tames() {
        checks.about("promise 9");
        DogVotes x = new DogVotes();
        int[] want = {1001, 1002, 1003, 999, 1003, 1000};
        for (int kind = 0; kind < 6; kind++) {
            x.sheep(kind, 0, 0, 0);
            due("tames(" + kind + ")", x.tames(kind), want[kind]);
        }
        due("no such one", x.tames(6), -1);
        due("no such one", x.tames(-1), -1);
    }

    private static void promise10To12Mind() {
        checks.about("promises 10 to 12");
        DogVotes x = new DogVotes();
        x.sheep(EWE, 1, 2, 3);
        due("mind", x.mind(0, TUP, 9), EWE);
        due("kind", x.of(0, 0), TUP);
        due("ear", x.of(0, 1), 9);
        due("mind with the same", x.mind(0, TUP, 9), TUP);
        due("fear(0, 9)", x.fear(0, 9), 2);
        due("fear(0, 0)", x.fear(0, 0), 9);
        due("look(0, 5)", x.look(0, 5), 3);
        due("look(0, 0)", x.look(0, 0), 5);
        int[][] bad = {{1, 0, 0}, {-1, 0, 0}, {0, 6, 0}, {0, -1, 0}, {0, 0, 10}, {0, 0, -1}};
        for (int[] b : bad) {
            due("bad mind", x.mind(b[0], b[1], b[2]), -1);
        }
        int[][] badFear = {{1, 0}, {-1, 0}, {0, 10}, {0, -1}};
        for (int[] b : badFear) {
            due("bad fear", x.fear(b[0], b[1]), -1);
        }
        int[][] badLook = {{1, 0}, {-1, 0}, {0, 6}, {0, -1}};
        for (int[] b : badLook) {
            due("bad look", x.look(b[0], b[1]), -1);
        }
        int[] want = {TUP, 9, 0, 0};
        for (int what = 0; what < 4; what++) {
            due("of(0, " + what + ")", x.of(0, what), want[what]);
        }
    }

    private static void promise13Place() {
        checks.about("promise 13");
        DogVotes x = new DogVotes();
        x.sheep(EWE, 0, 0, 0);
        x.sheep(HOGG, 9, 0, 3);
        x.sheep(WETHER, 9, 0, 3);
        x.sheep(GIMMER, 9, 0, 3);
        x.grow(3, 1, 4);
        due("grass", x.place(3, 0), 5);
        due("risk", x.place(3, 1), 4);
        due("who votes for 3", x.place(3, 2), 10);
        due("who votes for 0", x.place(0, 2), 5);
        due("votes of 3", x.place(3, 3), 3);
        due("votes of 0: a wether counts nothing", x.place(0, 3), 1);
        due("votes of 4", x.place(4, 3), 0);
        x.call(4);
        due("the call adds WHISTLE", x.place(3, 3), 5);
        x.set(1, 9);
        due("the call adds WHISTLE", x.place(3, 3), 12);
        due("but is nobody's vote", x.place(3, 2), 10);
        int[][] bad = {{-1, 0}, {6, 0}, {0, -1}, {0, 4}};
        for (int[] b : bad) {
            due("bad place", x.place(b[0], b[1]), -1);
        }
    }

    private static void promise14To16Grow() {
        checks.about("promises 14 to 16");
        DogVotes x = new DogVotes();
        due("grow(5, 0, 9)", x.grow(5, 0, 9), 5);
        due("grow(5, 0, 0)", x.grow(5, 0, 0), 9);
        due("grow(5, 1, 9)", x.grow(5, 1, 9), 0);
        due("grow(5, 1, 0)", x.grow(5, 1, 0), 9);
        int[][] bad = {{-1, 0, 0}, {6, 0, 0}, {0, -1, 0}, {0, 2, 0}, {0, 0, -1}, {0, 0, 10}, {0, 1, 10}};
        for (int[] b : bad) {
            due("bad grow", x.grow(b[0], b[1], b[2]), -1);
        }
        due("grass", x.state(4), 25);
        due("flock(5)", x.flock(5), 0);
        due("flock(2)", x.flock(2), 5);
        due("flock(6)", x.flock(6), -1);
        due("flock(-1)", x.flock(-1), -1);
        due("at", x.state(1), 2);
        due("call(6)", x.call(6), 0);
        due("call(1)", x.call(1), 6);
        due("call(7)", x.call(7), -1);
        due("call(-1)", x.call(-1), -1);
        due("call(0)", x.call(0), 1);
    }

    private static void promise17Winner() {
        checks.about("promise 17");
        DogVotes x = new DogVotes();
        x.flock(4);
        due("no votes: nearest", x.winner(), 4);
        x.sheep(HOGG, 9, 0, 1);
        x.sheep(HOGG, 9, 0, 5);
        due("one each: nearest", x.winner(), 5);
        x.flock(3);
        due("as near: least", x.winner(), 1);
        x.flock(2);
        due("nearest", x.winner(), 1);
        x.call(6);
        due("by the whistle", x.winner(), 5);
        x.set(1, 0);
        due("whistle of nothing", x.winner(), 1);
        x.sheep(GIMMER, 9, 0, 4);
        due("most", x.winner(), 4);
    }

    private static void promise18Days() {
        checks.about("promise 18");
        DogVotes x = new DogVotes();
        due("days(0)", x.days(0), -1);
        due("days(61)", x.days(61), -1);
        due("days(-1)", x.days(-1), -1);
        due("days(3)", x.days(3), 0);
        dueState(x, 3, 0, 0, 0, 42);
        due("eaten", x.place(0, 0), 2);
        due("grown", x.place(1, 0), 8);
        due("days(60)", x.days(60), 0);
        dueState(x, 63, 0, 0, 0, 45);
        x.grow(0, 0, 7);
        x.set(2, 9);
        x.days(1);
        due("grass is 0 at least", x.place(0, 0), 0);

        x = new DogVotes();
        x.sheep(HOGG, 9, 0, 3);
        due("one place a day", x.days(1), 1);
        due("two more", x.days(2), 3);
        due("stays", x.days(2), 3);
        x.look(0, 0);
        due("back", x.days(1), 2);

        x = new DogVotes();
        for (int kind = 0; kind < 6; kind++) {
            x.sheep(kind, 0, 4, 0);
        }
        x.call(1);
        x.set(1, 9);
        x.set(2, 0);
        x.grow(0, 0, 9);
        x.grow(0, 1, 5);
        x.days(1);
        for (int kind = 0; kind < 6; kind++) {
            due("risk above fear: one more", x.of(kind, 2), 5);
        }
        x.days(1);
        int[] tamed = {4, 3, 2, 6, 2, 5};
        for (int kind = 0; kind < 6; kind++) {
            due("risk as great as fear: tamed", x.of(kind, 2), tamed[kind]);
        }
        x.grow(0, 1, 0);
        x.days(5);
        int[] held = {0, 0, 0, 9, 0, 5};
        for (int kind = 0; kind < 6; kind++) {
            due("held to 0 to 9", x.of(kind, 2), held[kind]);
        }
    }

    private static void promise19To20Draws() {
        checks.about("promises 19, 20");
        DogVotes x = new DogVotes();
        due("seed(1)", x.seed(1), 1);
        due("day without sheep", x.day(), 0);
        due("draws nothing", x.seed(1), 1);
        due("day", x.state(0), 1);

        x = new DogVotes();
        x.sheep(EWE, 0, 0, 1);
        x.day();
        due("not wrong: two draws", x.seed(1), -1770082073);
        due("look", x.of(0, 3), 1);
        x.set(3, 26);
        x.day();
        due("26 is not below 26", x.seed(1), -1770082073);
        x.set(3, 27);
        x.day();
        due("26 is below 27: three draws", x.seed(1), 662824084);
        due("look by a third draw", x.of(0, 3), 3);
        due("days", x.state(0), 3);

        x = new DogVotes();
        for (int one = 0; one < 3; one++) {
            x.sheep(EWE, 0, 0, 0);
        }
        x.set(3, 27);
        x.day();
        due("16838 by 3 leaves 2", x.of(2, 3), 3);
        due("the others look as they did", x.of(0, 3) + x.of(1, 3), 0);

        x = new DogVotes();
        x.sheep(HOGG, 9, 0, 0);
        x.set(3, 27);
        due("the day comes after the look", x.day(), 1);
        due("seed(-5)", x.seed(-5), 662824084);
        due("seed(1)", x.seed(1), -5);
    }

    private static void promise21Strays() {
        checks.about("promise 21");
        DogVotes x = new DogVotes();
        x.sheep(HOGG, 9, 0, 0);
        due("strays(6)", x.strays(6), 0);
        x.set(3, 50);
        due("strays(1)", x.strays(1), 1);
        due("strays(2)", x.strays(2), 2);
        due("strays(5)", x.strays(5), 2);
        due("nothing changes", x.of(0, 3), 0);
        due("nothing changes", x.state(0), 0);
        due("z neither", x.seed(1), 1);
        due("strays(0)", x.strays(0), -1);
        due("strays(31)", x.strays(31), -1);
        due("none strays without sheep", new DogVotes().strays(30), 0);
    }

    private static void promise22State() {
        checks.about("promise 22");
        DogVotes x = new DogVotes();
        x.sheep(HOGG, 0, 9, 2);
        x.sheep(BELLWETHER, 0, 4, 0);
        x.sheep(WETHER, 0, 9, 0);
        x.flock(2);
        x.grow(1, 0, 0);
        dueState(x, 0, 2, 4, 22, 25, 5);
        x.days(1);
        due("day", x.state(0), 1);
        due("state(6)", x.state(6), -1);
        due("state(-1)", x.state(-1), -1);
    }
}
