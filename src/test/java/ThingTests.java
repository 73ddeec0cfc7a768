/** Promises 45 to 55: sheets, shelves, acts, how many, what is kept. */
public final class ThingTests {
    private static final int EWE = 0, HOGG = 1, WETHER = 2, GIMMER = 3, BELLWETHER = 4, TUP = 5;
    private static final Checks checks = new Checks();

    public static void main(String[] args) {
        promise45Minds();
        promise46To48Sheets();
        promise49To50Shelves();
        promise50RowsOnShelves();
        promise51To52Acts();
        promise51Parted();
        promise51Nothing();
        promise53Many();
        promise54To55Keep();
        checks.close();
    }

    private static void due(String call, long got, long want) {
        checks.due(call, got, want);
    }

    private static void promise45Minds() {
        checks.about("promise 45");
        DogVotes x = new DogVotes();
        for (int one = 0; one < 4; one++) {
            x.sheep(EWE, 0, 5, 0);
        }
        x.sheet(0, 0, 5);
        int[] items = {3, 200, 12, 9, 1};
        for (int i = 0; i < 5; i++) {
            x.put(0, i, items[i]);
        }
        x.sheet(1, 1, 5);
        due("minds(0, 0, 1, 3)", x.minds(0, 0, 1, 3), 3);
        int[] fears = {5, 3, 0, 9};
        for (int one = 0; one < 4; one++) {
            due("fear of " + one, x.of(one, 2), fears[one]);
        }
        due("from the end", x.minds(0, 4, 3, 1), 1);
        due("fear", x.of(3, 2), 1);
        due("none", x.minds(0, 5, 3, 0), 0);
        due("none, beyond the row", x.minds(0, 6, 3, 0), -12);
        due("none, before the row", x.minds(0, -1, 3, 0), -12);
        due("not so many", x.minds(0, 3, 0, 3), -12);
        due("far beyond", x.minds(0, Integer.MAX_VALUE, 0, 4), -12);
        due("another sort", x.minds(1, 0, 0, 1), -13);
        due("another sort before outside", x.minds(1, 9, 0, 1), -13);
        due("missing", x.minds(2, 0, 0, 1), -11);
        int[][] bad = {{-1, 0, 0, 1}, {4, 0, 0, 1}, {0, 0, 4, 0}, {0, 0, -1, 1}, {0, 0, 0, -1}, {0, 0, 0, 9}, {0, 0, 2, 3}, {2, 0, 0, 5}};
        for (int[] b : bad) {
            due("bad minds", x.minds(b[0], b[1], b[2], b[3]), -1);
        }
        due("fears are as before", x.state(3), 9);
        for (int one = 4; one < 8; one++) {
            x.sheep(EWE, 0, 0, 0);
        }
        x.sheet(0, 0, 40);
        due("all eight", x.minds(0, 32, 0, 8), 8);
        due("fears", x.state(3), 0);
    }

    private static void promise46To48Sheets() {
        checks.about("promises 46 to 48");
        DogVotes x = new DogVotes();
        int v = 0x12345F89;
        int[] narrowed = {(byte) 0x89, 0x5F89, v, v};
        for (int sort = 0; sort < 4; sort++) {
            due("sheet", x.sheet(sort, sort, 40), 1);
            due("all 0", x.item(sort, sort, 39), 0);
            due("put", x.put(sort, 39, v), 1);
            due("item", x.item(sort, sort, 39), narrowed[sort]);
            due("put", x.put(sort, 0, -7), 1);
            due("item", x.item(sort, sort, 0), -7);
            due("another sort", x.item(sort, (sort + 1) % 4, 0), -13);
            due("another sort before outside", x.item(sort, (sort + 1) % 4, 40), -13);
            due("outside", x.item(sort, sort, 40), -12);
            due("outside", x.item(sort, sort, -1), -12);
            due("put outside", x.put(sort, 40, 1), -12);
            due("put outside", x.put(sort, -1, 1), -12);
        }
        x.put(1, 0, 0x8001);
        due("a short below 0", x.item(1, 1, 0), -32767);
        due("n above 40", x.sheet(0, 0, 41), -1);
        due("a size below 0", x.sheet(0, 0, -1), -14);
        due("no such sort", x.sheet(0, 4, -1), -1);
        due("no such sort", x.sheet(0, -2, 1), -1);
        due("no such sheet", x.sheet(4, 0, 1), -1);
        due("no such sheet", x.sheet(-1, 0, 1), -1);
        due("it is as before", x.item(0, 0, 0), -7);
        due("a new row", x.sheet(0, 0, 2), 1);
        due("all 0", x.item(0, 0, 0), 0);
        due("shorter", x.item(0, 0, 2), -12);
        due("without items", x.sheet(0, 3, 0), 1);
        due("outside", x.item(0, 3, 0), -12);
        due("missing, n counts nothing", x.sheet(0, -1, -5), 1);
        due("missing, n counts nothing", x.sheet(1, -1, 99), 1);
        due("missing", x.item(0, 3, 0), -11);
        due("missing", x.put(0, 0, 1), -11);
        due("missing before outside", x.put(1, 99, 1), -11);
        int[][] bad = {{-1, 0, 0}, {4, 0, 0}, {0, -1, 0}, {0, 4, 0}};
        for (int[] b : bad) {
            due("bad item", x.item(b[0], b[1], b[2]), -1);
        }
        due("no such sheet", x.put(4, 0, 0), -1);
        due("no such sheet", x.put(-1, 0, 0), -1);
    }

    /** One of each kind, by its kind's number, with an ear of its own. */
    private static DogVotes oneOfEach() {
        DogVotes x = new DogVotes();
        x.sheep(EWE, 3, 0, 0);
        x.sheep(HOGG, 4, 0, 0);
        x.sheep(WETHER, 5, 0, 0);
        x.sheep(GIMMER, 9, 0, 0);
        x.sheep(BELLWETHER, 9, 0, 0);
        x.sheep(TUP, 7, 0, 0);
        return x;
    }

    private static void promise49To50Shelves() {
        checks.about("promises 49, 50");
        DogVotes x = oneOfEach();
        int[] takenAs = {1 << EWE, 1 << EWE | 1 << HOGG, 1 << EWE | 1 << WETHER, 1 << EWE | 1 << HOGG | 1 << GIMMER,
            1 << EWE | 1 << WETHER | 1 << BELLWETHER, 1 << EWE | 1 << TUP};
        for (int one = 0; one < 6; one++) {
            due("shelf", x.shelf(3, 0, one), 1);
            for (int as = 0; as < 6; as++) {
                due(one + " taken as " + as, x.taken(3, as), (takenAs[one] >> as & 1) == 1 ? one : -13);
            }
            for (int as = 10; as < 14; as++) {
                due("taken as a row", x.taken(3, as), -13);
            }
        }
        x.mind(5, GIMMER, 0);
        due("it is of the kind that it has now", x.taken(3, HOGG), 5);
        due("it is of the kind that it has now", x.taken(3, TUP), -13);
        due("nothing yet", x.taken(0, 0), -11);
        due("nothing yet", x.taken(0, 10), -11);
        int[][] badShelf = {{-1, 2, 0}, {4, 2, 0}, {0, -1, 0}, {0, 3, 0}, {0, 0, 6}, {0, 0, -1}, {0, 1, 4}, {0, 1, -1}};
        for (int[] b : badShelf) {
            due("bad shelf", x.shelf(b[0], b[1], b[2]), -1);
        }
        int[][] badTaken = {{-1, 0}, {4, 0}, {3, -1}, {3, 6}, {3, 9}, {3, 14}, {0, 6}};
        for (int[] b : badTaken) {
            due("bad taken", x.taken(b[0], b[1]), -1);
        }
        due("nothing, whatever n is", x.shelf(3, 2, 99), 1);
        due("nothing", x.taken(3, 0), -11);
        x.shelf(3, 0, 5);
        HillTests.feed(x, "ewe;hogg;");
        x.hill();
        due("no such one at the time", x.taken(3, 0), -11);
        due("no such one at the time", x.act(3, 0, 1), 0);
        for (int one = 2; one < 6; one++) {
            x.sheep(TUP, 0, 0, 0);
        }
        due("there is one again", x.taken(3, TUP), 5);
    }

    private static void promise50RowsOnShelves() {
        checks.about("promise 50, rows");
        DogVotes x = oneOfEach();
        for (int sort = 0; sort < 4; sort++) {
            x.sheet(1, sort, 7 + sort);
            due("shelf", x.shelf(2, 1, 1), 1);
            for (int as = 10; as < 14; as++) {
                due("taken as " + as, x.taken(2, as), as - 10 == sort ? 7 + sort : -13);
            }
            for (int as = 0; as < 6; as++) {
                due("taken as " + as, x.taken(2, as), -13);
            }
        }
        x.sheet(1, 0, 2);
        due("the shelf holds the row that it got", x.taken(2, 13), 10);
        x.sheet(1, -1, 0);
        due("the shelf holds the row that it got", x.taken(2, 13), 10);
        due("the row of a missing sheet", x.shelf(2, 1, 1), 1);
        due("is nothing", x.taken(2, 13), -11);
        x.sheet(1, 0, 0);
        x.shelf(2, 1, 1);
        due("no items", x.taken(2, 10), 0);
    }

    private static void dueAct(DogVotes x, int one, int act, int with, int want, int... bodies) {
        x.shelf(0, 0, one);
        due("act " + act + " of " + one, x.act(0, act, with), want);
        due("bodies", x.many(6), bodies.length);
        for (int i = 0; i < bodies.length; i++) {
            due("trace(" + i + ") of act " + act + " of " + one, x.trace(i), bodies[i]);
        }
        due("trace ends", x.trace(bodies.length), -3);
        due("trace(-1)", x.trace(-1), -3);
        due("trace(30)", x.trace(30), -3);
    }

    private static void promise51To52Acts() {
        checks.about("promises 51, 52");
        DogVotes x = oneOfEach();
        dueAct(x, EWE, 0, 5, 10, 10);
        dueAct(x, EWE, 1, 5, 13, 11, 10);
        dueAct(x, EWE, 2, -7, -2, 12);
        dueAct(x, EWE, 3, 5, 11, 13, 11, 10);
        dueAct(x, HOGG, 0, 5, 9, 10);
        dueAct(x, HOGG, 1, 5, 9, 20, 11, 10);
        dueAct(x, HOGG, 2, 7, 2, 12);
        dueAct(x, HOGG, 3, 5, 15, 13, 20, 11, 10);
        dueAct(x, WETHER, 0, 5, -8, 30, 10);
        dueAct(x, WETHER, 1, 5, -3, 11, 30, 10);
        dueAct(x, WETHER, 2, 7, 2, 12);
        dueAct(x, WETHER, 3, 5, -5, 31, 13, 11, 30, 10, 12);
        x.mind(2, WETHER, 3);
        dueAct(x, WETHER, 3, 5, -1, 31, 13, 11, 30, 10, 12);
        dueAct(x, GIMMER, 0, 5, 8, 51, 10);
        dueAct(x, GIMMER, 1, 5, 13, 20, 11, 51, 10);
        dueAct(x, GIMMER, 2, 13, 10, 50, 12);
        dueAct(x, GIMMER, 2, 0, 8, 50, 12);
        dueAct(x, GIMMER, 3, 5, 11, 13, 20, 11, 51, 10);
        dueAct(x, BELLWETHER, 0, 5, -18, 40, 30, 10);
        dueAct(x, BELLWETHER, 1, 5, 33, 41, 11, 40, 30, 10, 40, 30, 10);
        dueAct(x, BELLWETHER, 2, 7, 1, 12);
        dueAct(x, BELLWETHER, 3, 5, 39, 31, 13, 41, 11, 40, 30, 10, 40, 30, 10, 12);
        dueAct(x, TUP, 0, 5, 5, 10);
        dueAct(x, TUP, 1, 5, 12, 11, 10);
        dueAct(x, TUP, 2, 8, -1, 61, 12, 10);
        dueAct(x, TUP, 3, 5, 90, 60, 13, 11, 10);
        dueAct(x, EWE, 0, Integer.MIN_VALUE, 0, 10);
        dueAct(x, EWE, 0, Integer.MAX_VALUE, -2, 10);
        x.mind(1, EWE, 0);
        dueAct(x, 1, 2, Integer.MIN_VALUE, Integer.MIN_VALUE, 12);
        dueAct(x, 1, 2, 9, -9, 12);
    }

    private static void promise51Parted() {
        checks.about("promise 51, parted by 0");
        DogVotes x = oneOfEach();
        for (int one = 0; one < 6; one++) {
            x.mind(one, one, one);
        }
        dueAct(x, EWE, 2, 5, -15, 12);
        dueAct(x, HOGG, 2, 5, -15, 12);
        dueAct(x, WETHER, 3, 5, -15, 31, 13, 11, 30, 10, 12);
        dueAct(x, GIMMER, 2, 5, -15, 50, 12);
        dueAct(x, BELLWETHER, 3, 5, -15, 31, 13, 41, 11, 40, 30, 10, 40, 30, 10, 12);
        dueAct(x, TUP, 2, 5, -15, 61, 12);
        dueAct(x, EWE, 3, 5, 12, 13, 11, 10);
    }

    private static void promise51Nothing() {
        checks.about("promise 51, nothing");
        DogVotes x = oneOfEach();
        x.shelf(0, 0, 0);
        x.sheet(0, 0, 3);
        x.shelf(1, 1, 0);
        int[][] nothing = {{-1, 0}, {4, 0}, {0, -1}, {0, 4}, {1, 0}, {2, 0}};
        for (int[] b : nothing) {
            x.act(0, 1, 1);
            due("the trace", x.many(6), 2);
            due("nothing", x.act(b[0], b[1], 5), 0);
            due("no trace", x.many(6), 0);
            due("no trace", x.trace(0), -3);
        }
    }

    private static void promise53Many() {
        checks.about("promise 53");
        DogVotes x = oneOfEach();
        due("sheep", x.many(0), 6);
        due("all vote for 0", x.many(1), 1);
        due("a wether counts nothing", x.many(2), 5);
        x.fear(2, 9);
        x.fear(4, 9);
        due("fear 9", x.many(3), 2);
        x.mind(4, BELLWETHER, 0);
        x.call(4);
        due("the whistle is a vote", x.many(1), 2);
        x.set(1, 0);
        due("a whistle of nothing is none", x.many(1), 1);
        x.look(3, 4);
        due("4 has a gimmer's vote", x.many(1), 2);
        x.prove(0, 7);
        due("rows", x.many(4), 7);
        x.feed(0, 5);
        due("bytes", x.many(5), 5);
        x.shelf(0, 0, 4);
        x.act(0, 3, 1);
        due("bodies", x.many(6), 11);
        due("many(7)", x.many(7), -1);
        due("many(-1)", x.many(-1), -1);
        DogVotes y = new DogVotes();
        y.sheep(WETHER, 0, 0, 0);
        due("a vote that counts nothing", y.many(1), 0);
    }

    private static void promise54To55Keep() {
        checks.about("promises 54, 55");
        DogVotes x = oneOfEach();
        x.call(3);
        x.set(0, 7);
        x.grow(1, 1, 4);
        x.days(2);
        x.seed(42);
        due("keep", x.keep(), 1);
        x.sheep(EWE, 0, 0, 0);
        x.mind(0, TUP, 9);
        x.fear(1, 9);
        x.look(1, 5);
        x.call(0);
        x.set(0, 1);
        x.grow(1, 0, 0);
        x.grow(1, 1, 0);
        x.flock(5);
        x.days(3);
        x.seed(43);
        x.feed(32, 1);
        x.prove(0, 4);
        x.sheet(0, 0, 3);
        x.shelf(0, 0, 6);
        x.act(0, 1, 1);
        due("again", x.again(), 6);
        DogVotes y = oneOfEach();
        y.call(3);
        y.set(0, 7);
        y.grow(1, 1, 4);
        y.days(2);
        for (int one = 0; one < 6; one++) {
            for (int what = 0; what < 6; what++) {
                due("of(" + one + ", " + what + ")", x.of(one, what), y.of(one, what));
            }
        }
        for (int place = 0; place < 6; place++) {
            for (int what = 0; what < 4; what++) {
                due("place(" + place + ", " + what + ")", x.place(place, what), y.place(place, what));
            }
        }
        for (int what = 0; what < 6; what++) {
            due("state(" + what + ")", x.state(what), y.state(what));
        }
        due("river", x.lawOf(0), 7);
        due("z", x.seed(1), 42);
        due("call", x.call(0), 3);
        due("the tape is not kept", x.many(5), 1);
        due("nor rows", x.many(4), 4);
        due("nor the trace", x.many(6), 2);
        due("nor sheets", x.item(0, 0, 2), 0);
        due("nor shelves: it holds number 6, which is gone", x.taken(0, 0), -11);
        x.fear(0, 9);
        due("what was kept stays", x.again(), 6);
        due("fear", x.of(0, 2), y.of(0, 2));
        x.hill();
        due("a text leaves it kept", x.again(), 6);
        x.fear(0, 8);
        x.keep();
        x.fear(0, 0);
        x.again();
        due("the latest", x.of(0, 2), 8);
    }
}
