/** Promises 45 to 55, each sentence that names an edge: the last number allowed, the first refused, what stays. */
public final class EdgeThingTests {
    private static final int EWE = 0, HOGG = 1, WETHER = 2, GIMMER = 3, BELLWETHER = 4, TUP = 5;
    private static final int MIN = Integer.MIN_VALUE, MAX = Integer.MAX_VALUE;
    private static final Checks checks = new Checks();

    public static void main(String[] args) {
        promise45Bad();
        promise45Outside();
        promise45FirstNamed();
        promise45Held();
        promise46Sheet();
        promise46Sizes();
        promise46Missing();
        promise46FirstNamed();
        promise47Put();
        promise47Narrowed();
        promise48Item();
        promise48AsLowAsThese();
        promise49Shelf();
        promise49AtTheTime();
        promise50Taken();
        promise50FirstNamed();
        promise51Nothing();
        promise51Wraps();
        promise51Cut();
        promise51Parted();
        promise52Trace();
        promise53Many();
        promise54To55Keep();
        promise54To55Nothing();
        lastCalls();
        checks.close();
    }

    private static void due(String call, long got, long want) {
        checks.due(call, got, want);
    }

    private static void refused(String name, Twins.Call call, long want) {
        Twins.refused(checks, name, Twins::rich, call, want);
    }

    private static int[] range(int least, int most) {
        return Twins.range(least, most);
    }

    private static void promise45Bad() {
        checks.about("promise 45: BAD: no such SHEET, one, n, or n goes beyond the last one");
        Twins.ranges(checks, "minds", Twins::rich, (x, a) -> x.minds(a[0], 0, a[1], 0), -1, range(0, 3), range(0, 6));
        Twins.Making eight = () -> {
            DogVotes x = Twins.full();
            x.sheet(3, 0, 40);
            return x;
        };
        for (int from = 0; from < 8; from++) {
            int s = from;
            for (int n = 0; n <= 8 - from; n++) {
                due("minds of " + n + " from " + from, eight.made().minds(3, 0, from, n), n);
            }
            for (int n : new int[] {9 - from, 9, 10, MAX, -1, MIN}) {
                Twins.refused(checks, "minds of " + n + " from " + from, eight, x -> x.minds(3, 0, s, n), -1);
            }
        }
        for (int s : new int[] {8, 9, -1, MIN, MAX}) {
            for (int n : new int[] {0, 1, 8, -1, MAX}) {
                Twins.refused(checks, "minds of " + n + " from " + s, eight, x -> x.minds(3, 0, s, n), -1);
            }
        }
    }

    private static void promise45Outside() {
        checks.about("promise 45: -12: i is not 0 to how many items there are (also for n 0), or there are not so many");
        for (int i = 0; i <= 5; i++) {
            int from = i;
            for (int n = 0; n <= 5 - i; n++) {
                due("minds of " + n + " items from " + i, Twins.rich().minds(0, i, 0, n), n);
            }
            for (int n = 6 - i; n <= 7; n++) {
                int k = n;
                refused("minds of " + n + " items from " + i, x -> x.minds(0, from, 0, k), -12);
            }
        }
        for (int i : new int[] {-1, 6, 7, -5, MIN, MAX, MAX - 6}) {
            for (int n = 0; n <= 7; n++) {
                int k = n;
                refused("minds of " + n + " items from " + i, x -> x.minds(0, i, 0, k), -12);
            }
        }
        Twins.Making without = () -> {
            DogVotes x = Twins.rich();
            x.sheet(0, 0, 0);
            return x;
        };
        due("none of none", without.made().minds(0, 0, 6, 0), 0);
        Twins.refused(checks, "one of none", without, x -> x.minds(0, 0, 6, 1), -12);
        Twins.refused(checks, "none behind none", without, x -> x.minds(0, 1, 6, 0), -12);
    }

    private static void promise45FirstNamed() {
        checks.about("promise 45: of several the first named");
        refused("missing", x -> x.minds(3, 0, 0, 1), -11);
        refused("missing, none", x -> x.minds(3, 0, 6, 0), -11);
        refused("missing, outside", x -> x.minds(3, -1, 0, 1), -11);
        refused("missing, bad one", x -> x.minds(3, 0, 7, 0), -1);
        refused("missing, bad n", x -> x.minds(3, 0, 0, 9), -1);
        refused("missing, beyond the last one", x -> x.minds(3, 0, 6, 2), -1);
        for (int sheet = 1; sheet < 3; sheet++) {
            int other = sheet;
            refused("another sort", x -> x.minds(other, 0, 0, 1), -13);
            refused("another sort, none", x -> x.minds(other, 0, 0, 0), -13);
            refused("another sort, outside", x -> x.minds(other, 9, 0, 0), -13);
            refused("another sort, outside", x -> x.minds(other, -1, 0, 1), -13);
            refused("another sort, not so many", x -> x.minds(other, 0, 0, 7), -13);
            refused("another sort, bad n", x -> x.minds(other, 0, 0, -1), -1);
            refused("another sort, bad one", x -> x.minds(other, 0, 7, 0), -1);
        }
        refused("outside, bad one", x -> x.minds(0, 9, 7, 0), -1);
        refused("outside, beyond the last one", x -> x.minds(0, 9, 6, 2), -1);
        refused("bad sheet, bad one", x -> x.minds(4, 9, 7, 9), -1);
        Twins.refused(checks, "longs", () -> {
            DogVotes x = Twins.rich();
            x.sheet(3, 3, 2);
            return x;
        }, x -> x.minds(3, 0, 0, 1), -13);
    }

    private static void promise45Held() {
        checks.about("promise 45: held to 0 to 9");
        for (int item = -128; item <= 127; item++) {
            DogVotes x = Twins.full();
            x.put(0, 4, item);
            due("minds", x.minds(0, 4, 7, 1), 1);
            due("FEAR by " + item, x.of(7, 2), Math.max(0, Math.min(9, item)));
            due("the one before it", x.of(6, 2), Twins.full().of(6, 2));
        }
        DogVotes x = Twins.full();
        x.sheet(3, 0, 8);
        for (int i = 0; i < 8; i++) {
            x.put(3, i, 8 - i);
        }
        due("all eight", x.minds(3, 0, 0, 8), 8);
        for (int i = 0; i < 8; i++) {
            due("one by one", x.of(i, 2), 8 - i);
        }
    }

    private static void promise46Sheet() {
        checks.about("promise 46: a row of n of a sort, all 0");
        Twins.ranges(checks, "sheet", Twins::rich, (x, a) -> x.sheet(a[0], a[1], 7), -1, range(0, 3), range(-1, 3));
        for (int sheet = 0; sheet < 4; sheet++) {
            for (int sort = 0; sort < 4; sort++) {
                DogVotes x = Twins.rich();
                due("sheet", x.sheet(sheet, sort, 40), 1);
                for (int i = 0; i < 40; i++) {
                    due("item", x.item(sheet, sort, i), 0);
                    due("put", x.put(sheet, i, i - 20), 1);
                }
                due("behind it", x.item(sheet, sort, 40), -12);
                for (int i = 0; i < 40; i++) {
                    due("item", x.item(sheet, sort, i), i - 20);
                }
                due("anew", x.sheet(sheet, sort, 40), 1);
                due("all 0 again", x.item(sheet, sort, 0), 0);
                due("all 0 again", x.item(sheet, sort, 39), 0);
                for (int other = 0; other < 3; other++) {
                    due("the other sheets stay", x.item(other, other, 1), other != sheet ? 4 : other == sort ? 0 : -13);
                }
            }
        }
    }

    private static void promise46Sizes() {
        checks.about("promise 46: n above 40; -14");
        for (int i = 0; i < 4; i++) {
            int s = i;
            for (int n : new int[] {41, 42, 128, 1000, MAX}) {
                refused("sheet of " + n, x -> x.sheet(s, s, n), -1);
                refused("sheet of " + n, x -> x.sheet(3 - s, s, n), -1);
            }
            for (int n : new int[] {-1, -2, -40, MIN}) {
                refused("sheet of " + n, x -> x.sheet(s, s, n), -14);
                refused("sheet of " + n, x -> x.sheet(3 - s, s, n), -14);
            }
            for (int n : new int[] {0, 1, 39, 40}) {
                DogVotes x = Twins.rich();
                due("sheet of " + n, x.sheet(s, s, n), 1);
                due("its last item", x.item(s, s, n - 1), n == 0 ? -12 : 0);
                due("behind it", x.item(s, s, n), -12);
            }
        }
    }

    private static void promise46Missing() {
        checks.about("promise 46: missing (sort -1; n counts nothing then)");
        for (int n : new int[] {0, 1, 40, 41, -1, MIN, MAX}) {
            for (int sheet = 0; sheet < 4; sheet++) {
                DogVotes x = Twins.rich();
                due("sheet", x.sheet(sheet, -1, n), 1);
                due("item", x.item(sheet, 0, 0), -11);
                due("put", x.put(sheet, 0, 0), -11);
                due("fits", x.fits(sheet, 0, 0), -11);
                due("minds", x.minds(sheet, 0, 0, 0), -11);
                due("shelf", x.shelf(0, 1, sheet), 1);
                due("taken", x.taken(0, 10), -11);
                due("the shelf that holds the row of sheet 0", x.taken(1, 10), 5);
            }
        }
    }

    private static void promise46FirstNamed() {
        checks.about("promise 46: of several the first named");
        for (int n : new int[] {-1, MIN, 41, MAX}) {
            for (int sheet : new int[] {-1, 4, MIN, MAX}) {
                for (int sort = -2; sort < 5; sort++) {
                    int s = sort;
                    refused("no such sheet, n " + n, x -> x.sheet(sheet, s, n), -1);
                }
            }
            for (int sort : new int[] {-2, 4, 10, MIN, MAX}) {
                refused("no such sort, n " + n, x -> x.sheet(0, sort, n), -1);
            }
        }
    }

    private static void promise47Put() {
        checks.about("promise 47: BAD: no such SHEET; -11; -12");
        int[] lengths = {5, 3, 2};
        for (int i : new int[] {-1, 0, 5, 39, 40, MIN, MAX}) {
            for (int sheet : new int[] {-1, 4, MIN, MAX}) {
                refused("put(" + sheet + ", " + i + ")", x -> x.put(sheet, i, 9), -1);
            }
            refused("put(3, " + i + ")", x -> x.put(3, i, 9), -11);
        }
        for (int sheet = 0; sheet < 3; sheet++) {
            int s = sheet;
            for (int i : new int[] {-1, lengths[sheet], lengths[sheet] + 1, MIN, MAX}) {
                refused("put(" + sheet + ", " + i + ")", x -> x.put(s, i, 9), -12);
            }
            for (int i = 0; i < lengths[sheet]; i++) {
                DogVotes x = Twins.rich();
                due("put(" + sheet + ", " + i + ")", x.put(sheet, i, -9), 1);
                for (int k = 0; k < lengths[sheet]; k++) {
                    due("item(" + sheet + ", " + k + ")", x.item(sheet, sheet, k), k == i ? -9 : 3 + k);
                }
            }
        }
        Twins.refused(checks, "put into none", () -> {
            DogVotes x = Twins.rich();
            x.sheet(0, 0, 0);
            return x;
        }, x -> x.put(0, 0, 1), -12);
    }

    private static void dueNarrowed(int sort, int v, int want) {
        DogVotes x = new DogVotes();
        x.sheet(3, sort, 1);
        due("put of " + v, x.put(3, 0, v), 1);
        due("item of sort " + sort + " by " + v, x.item(3, sort, 0), want);
    }

    private static void promise47Narrowed() {
        checks.about("promise 47: narrowed to its sort");
        int[][] bytes = {{127, 127}, {128, -128}, {255, -1}, {256, 0}, {-128, -128}, {-129, 127}, {-256, 0}, {-1, -1}, {MIN, 0}, {MAX, -1}};
        for (int[] v : bytes) {
            dueNarrowed(0, v[0], v[1]);
        }
        int[][] shorts = {{32767, 32767}, {32768, -32768}, {65535, -1}, {65536, 0}, {-32768, -32768}, {-32769, 32767}, {-1, -1},
            {MIN, 0}, {MAX, -1}, {128, 128}, {-129, -129}};
        for (int[] v : shorts) {
            dueNarrowed(1, v[0], v[1]);
        }
        for (int v : new int[] {0, 1, -1, 127, 128, 255, 256, 32767, 32768, 65535, 65536, MIN, MAX}) {
            dueNarrowed(2, v, v);
            dueNarrowed(3, v, v);
        }
    }

    private static void promise48Item() {
        checks.about("promise 48: BAD: no such SHEET, sort; -11; -13; -12, of several the first named");
        int[] lengths = {5, 3, 2};
        for (int i : new int[] {-1, 0, 5, 40, MIN, MAX}) {
            for (int beside : new int[] {-1, 4, MIN, MAX}) {
                for (int other : new int[] {-1, 0, 3, 4}) {
                    refused("no such sheet", x -> x.item(beside, other, i), -1);
                    refused("no such sort", x -> x.item(other, beside, i), -1);
                }
            }
            for (int sort = 0; sort < 4; sort++) {
                int s = sort;
                refused("missing", x -> x.item(3, s, i), -11);
                for (int sheet = 0; sheet < 3; sheet++) {
                    int h = sheet;
                    if (sheet != sort) {
                        refused("another sort", x -> x.item(h, s, i), -13);
                    }
                }
            }
        }
        for (int sheet = 0; sheet < 3; sheet++) {
            int h = sheet;
            for (int i : new int[] {-1, lengths[sheet], lengths[sheet] + 1, MIN, MAX}) {
                refused("outside", x -> x.item(h, h, i), -12);
            }
            for (int i = 0; i < lengths[sheet]; i++) {
                due("item", Twins.rich().item(sheet, sheet, i), 3 + i);
            }
        }
        for (int sort = 0; sort < 4; sort++) {
            for (int as = 0; as < 4; as++) {
                DogVotes x = new DogVotes();
                x.sheet(2, sort, 1);
                x.put(2, 0, 77);
                due("item of sort " + sort + " taken for " + as, x.item(2, as, 0), sort == as ? 77 : -13);
            }
        }
    }

    private static void promise48AsLowAsThese() {
        checks.about("promise 48: an item may be as low as these, too");
        DogVotes x = new DogVotes();
        for (int sort = 0; sort < 4; sort++) {
            x.sheet(sort, sort, 1);
            for (int v : new int[] {-1, -2, -3, -9, -11, -12, -13, -14, -15, -100}) {
                x.put(sort, 0, v);
                due("item", x.item(sort, sort, 0), v);
            }
        }
    }

    private static void promise49Shelf() {
        checks.about("promise 49: BAD: no such SHELF, what, thing");
        Twins.ranges(checks, "shelf with one", Twins::rich, (x, a) -> x.shelf(a[0], 0, a[1]), -1, range(0, 3), range(0, 6));
        Twins.ranges(checks, "shelf with a row", Twins::rich, (x, a) -> x.shelf(a[0], 1, a[1]), -1, range(0, 3), range(0, 3));
        Twins.ranges(checks, "shelf", Twins::rich, (x, a) -> x.shelf(a[0], a[1], 0), -1, range(0, 3), range(0, 2));
        due("the eighth one", Twins.full().shelf(0, 0, 7), 1);
        Twins.refused(checks, "the ninth one", Twins::full, x -> x.shelf(0, 0, 8), -1);
        for (int n : new int[] {-1, 0, 7, 8, MIN, MAX}) {
            for (int shelf = 0; shelf < 4; shelf++) {
                DogVotes x = Twins.rich();
                due("nothing, whatever n is", x.shelf(shelf, 2, n), 1);
                due("it holds nothing", x.taken(shelf, 0), -11);
                due("it holds nothing", x.act(shelf, 0, 1), 0);
            }
        }
        checks.about("promise 49: the row of SHEET n (nothing, if missing)");
        for (int shelf = 0; shelf < 4; shelf++) {
            DogVotes x = Twins.rich();
            int[] lengths = {5, 3, 2};
            for (int sheet = 0; sheet < 3; sheet++) {
                due("shelf", x.shelf(shelf, 1, sheet), 1);
                due("taken", x.taken(shelf, 10 + sheet), lengths[sheet]);
                due("taken for one", x.taken(shelf, 0), -13);
            }
            due("a missing one", x.shelf(shelf, 1, 3), 1);
            due("nothing", x.taken(shelf, 12), -11);
            due("one of the sheep", x.shelf(shelf, 0, 6), 1);
            due("taken", x.taken(shelf, HOGG), 6);
            due("taken for a row", x.taken(shelf, 12), -13);
            due("a missing one", x.shelf(shelf, 1, 3), 1);
            due("nothing", x.taken(shelf, 0), -11);
        }
    }

    private static void promise49AtTheTime() {
        checks.about("terms: nothing, if there is no such one at the time");
        DogVotes x = Twins.untaped();
        for (int shelf = 0; shelf < 4; shelf++) {
            x.shelf(shelf, 0, 3 + shelf);
        }
        HillTests.feed(x, "ewe;hogg;wether;tup;tup ear 9;");
        due("five", x.hill(), 5);
        int[] taken = {3, 4, -11, -11};
        for (int shelf = 0; shelf < 4; shelf++) {
            due("taken", x.taken(shelf, TUP), taken[shelf]);
            x.act(shelf, 0, 1);
            due("bodies", x.many(6), taken[shelf] < 0 ? 0 : 1);
        }
        due("the sixth", x.sheep(TUP, 0, 0, 0), 5);
        due("there is one again", x.taken(2, TUP), 5);
        due("there is none yet", x.taken(3, TUP), -11);
        due("again", x.again(), 7);
        due("seven again", x.taken(3, HOGG), 6);
        due("of another kind", x.taken(3, TUP), -13);
        x.keep();
        x.hill();
        due("none at all", x.taken(0, 0), -11);
    }

    private static void promise50Taken() {
        checks.about("promise 50: taken for a thing of KIND as (or one under it)");
        boolean[][] under = {
            {true, false, false, false, false, false},
            {true, true, false, false, false, false},
            {true, false, true, false, false, false},
            {true, true, false, true, false, false},
            {true, false, true, false, true, false},
            {true, false, false, false, false, true}};
        for (int kind = 0; kind < 6; kind++) {
            for (int as = 0; as < 6; as++) {
                DogVotes x = Twins.full();
                x.mind(7, kind, 3);
                x.shelf(2, 0, 7);
                due(kind + " taken for " + as, x.taken(2, as), under[kind][as] ? 7 : -13);
            }
        }
        checks.about("promise 50: for a row of sort as - 10: how many items");
        for (int sort = 0; sort < 4; sort++) {
            for (int n : new int[] {0, 1, 40}) {
                DogVotes x = Twins.rich();
                x.sheet(3, sort, n);
                x.shelf(2, 1, 3);
                for (int as = 10; as < 14; as++) {
                    due("sort " + sort + " taken for " + as, x.taken(2, as), as == 10 + sort ? n : -13);
                }
                for (int as = 0; as < 6; as++) {
                    due("a row taken for " + as, x.taken(2, as), -13);
                }
            }
        }
    }

    private static void promise50FirstNamed() {
        checks.about("promise 50: BAD: no such SHELF, as; -11; -13, of several the first named");
        for (int as : new int[] {-1, 6, 7, 8, 9, 14, 15, MIN, MAX}) {
            for (int shelf : new int[] {-1, 0, 1, 2, 3, 4}) {
                refused("taken(" + shelf + ", " + as + ")", x -> x.taken(shelf, as), -1);
            }
        }
        for (int as : new int[] {0, 1, 2, 3, 4, 5, 10, 11, 12, 13}) {
            for (int shelf : new int[] {-1, 4, MIN, MAX}) {
                refused("taken(" + shelf + ", " + as + ")", x -> x.taken(shelf, as), -1);
            }
            refused("nothing there", x -> x.taken(2, as), -11);
            boolean bellwether = as == EWE || as == WETHER || as == BELLWETHER;
            boolean hogg = as == EWE || as == HOGG;
            refused("a bellwether", x -> x.taken(0, as), bellwether ? 4 : -13);
            refused("a row of bytes", x -> x.taken(1, as), as == 10 ? 5 : -13);
            refused("a hogg", x -> x.taken(3, as), hogg ? 1 : -13);
        }
    }

    private static void promise51Nothing() {
        checks.about("promise 51: 0, and no TRACE then: no such SHELF, act, nothing, a row");
        for (int shelf = -1; shelf < 5; shelf++) {
            for (int act = -1; act < 5; act++) {
                for (int x : new int[] {0, 1, -1, MIN, MAX}) {
                    boolean thing = shelf == 0 || shelf == 3;
                    if (thing && act >= 0 && act < 4) {
                        DogVotes o = Twins.rich();
                        o.act(shelf, act, x);
                        checks.holds("act(" + shelf + ", " + act + ") runs", o.many(6) > 0 && o.trace(0) > 0);
                    } else {
                        dueNothing(shelf, act, x);
                    }
                }
            }
        }
        for (int far : new int[] {MIN, MAX}) {
            dueNothing(far, 0, 1);
            dueNothing(0, far, 1);
        }
    }

    private static void dueNothing(int shelf, int act, int x) {
        DogVotes o = Twins.rich();
        due("the trace before", o.many(6), 11);
        due("act(" + shelf + ", " + act + ", " + x + ")", o.act(shelf, act, x), 0);
        due("bodies", o.many(6), 0);
        due("trace(0)", o.trace(0), -3);
        DogVotes other = Twins.rich();
        other.act(2, 0, 0);
        Twins.alike(checks, "act(" + shelf + ", " + act + ", " + x + ")", o, other);
    }

    /** What the one sheep of an object answers, and the bodies that ran. */
    private static void dueAct(DogVotes x, int sheep, int act, int with, int want, int... bodies) {
        x.shelf(0, 0, sheep);
        due("act " + act + " with " + with, x.act(0, act, with), want);
        due("bodies", x.many(6), bodies.length);
        for (int i = 0; i < bodies.length; i++) {
            due("trace(" + i + ")", x.trace(i), bodies[i]);
        }
        due("trace behind them", x.trace(bodies.length), -3);
    }

    private static void promise51Wraps() {
        checks.about("promise 51: ints that wrap");
        DogVotes x = Twins.one(EWE, 0, 0, 0);
        dueAct(x, 0, 0, MAX, -2, 10);
        dueAct(x, 0, 0, MIN, 0, 10);
        dueAct(x, 0, 0, 0x40000000, MIN, 10);
        x.mind(0, EWE, 1);
        dueAct(x, 0, 1, 0x40000000, MIN + 1, 11, 10);
        dueAct(x, 0, 3, 0x40000000, MIN + 7, 13, 11, 10);
        x.sheep(EWE, 0, 0, 0);
        dueAct(x, 1, 0, 0x40000000, MAX, 10);
        dueAct(x, 1, 2, MIN, MIN, 12);
        x.mind(0, HOGG, 0);
        dueAct(x, 0, 1, 0x40000000, MAX - 3, 20, 11, 10);
        x.mind(0, WETHER, 1);
        dueAct(x, 0, 0, 0x40000000, MIN, 30, 10);
        dueAct(x, 0, 3, 0x40000000, MIN + 7, 31, 13, 11, 30, 10, 12);
        x.mind(0, BELLWETHER, 1);
        dueAct(x, 0, 0, 0x40000000, MIN, 40, 30, 10);
        dueAct(x, 0, 0, 0x20000000, 0x40000000, 40, 30, 10);
        x.mind(0, GIMMER, 9);
        dueAct(x, 0, 2, MIN, (MAX - 6) / 9 + 9, 50, 12);
        x.mind(0, GIMMER, 1);
        dueAct(x, 0, 2, MIN + 6, MIN, 50, 12);
        x.mind(0, TUP, 0);
        dueAct(x, 0, 3, 0x40000003, MIN + 100, 60, 13, 11, 10);
        x.mind(1, TUP, 2);
        dueAct(x, 1, 2, MIN, MAX, 61, 12, 10);
    }

    private static void promise51Cut() {
        checks.about("promise 51: x by (a - n), cut");
        for (int n = 0; n < 8; n++) {
            for (int a = 0; a < 10; a++) {
                if (a != n) {
                    dueCut(n, a);
                }
            }
        }
    }

    private static void dueCut(int n, int a) {
        DogVotes x = Twins.full();
        x.mind(n, EWE, a);
        x.shelf(2, 0, n);
        int size = 7 / Math.abs(a - n);
        int sign = a > n ? 1 : -1;
        due("7 by " + (a - n), x.act(2, 2, 7), sign * size);
        due("-7 by " + (a - n), x.act(2, 2, -7), -sign * size);
        due("0 by " + (a - n), x.act(2, 2, 0), 0);
    }

    private static void promise51Parted() {
        checks.about("promise 51: -15 if these are the same; that is all that act() answers then");
        for (int n = 0; n < 8; n++) {
            for (int with : new int[] {0, 1, -1, MIN, MAX}) {
                DogVotes x = Twins.full();
                x.mind(n, EWE, n);
                dueAct(x, n, 2, with, -15, 12);
                x.mind(n, HOGG, n);
                dueAct(x, n, 2, with, -15, 12);
                x.mind(n, WETHER, n);
                dueAct(x, n, 2, with, -15, 12);
                dueAct(x, n, 3, with, -15, 31, 13, 11, 30, 10, 12);
                x.mind(n, GIMMER, n);
                dueAct(x, n, 2, with, -15, 50, 12);
                x.mind(n, BELLWETHER, n);
                dueAct(x, n, 2, with, -15, 12);
                dueAct(x, n, 3, with, -15, 31, 13, 41, 11, 40, 30, 10, 40, 30, 10, 12);
                x.mind(n, TUP, n);
                dueAct(x, n, 2, with, -15, 61, 12);
                dueAct(x, n, 0, with, with * 2 - n, 10);
                dueAct(x, n, 3, with, 100 - (with * 2 ^ 6), 60, 13, 11, 10);
            }
        }
        DogVotes x = Twins.rich();
        x.mind(4, BELLWETHER, 4);
        DogVotes y = Twins.rich();
        y.mind(4, BELLWETHER, 4);
        due("parted", x.act(0, 2, 5), -15);
        x.act(2, 0, 0);
        y.act(2, 0, 0);
        Twins.alike(checks, "-15", x, y);
    }

    private static void promise52Trace() {
        checks.about("promise 52: THE TRACE's i-th body; NONE");
        for (int i : new int[] {-1, 11, 12, 29, 30, 31, MIN, MAX}) {
            refused("trace(" + i + ")", x -> x.trace(i), -3);
        }
        int[] bodies = {31, 13, 41, 11, 40, 30, 10, 40, 30, 10, 12};
        for (int i = 0; i < 11; i++) {
            due("trace(" + i + ")", Twins.rich().trace(i), bodies[i]);
        }
        DogVotes x = Twins.rich();
        x.act(3, 0, 1);
        due("of the latest act", x.trace(0), 10);
        due("of the latest act", x.trace(1), -3);
    }

    private static void promise53Many() {
        checks.about("promise 53: BAD: another what");
        Twins.ranges(checks, "many", Twins::rich, (x, a) -> x.many(a[0]), -1, range(0, 6));
        int[] rich = {7, -1, 6, 1, 4, 10, 11};
        for (int what = 0; what < 7; what++) {
            if (what != 1) {
                due("many(" + what + ")", Twins.rich().many(what), rich[what]);
            }
        }
        due("all eight", Twins.full().many(0), 8);
        due("a full tape", Twins.full().many(5), 200);
        checks.about("promise 53: PLACES with VOTES, those that COUNT anything");
        DogVotes x = new DogVotes();
        for (int one = 0; one < 8; one++) {
            x.sheep(WETHER, 0, 9, 0);
        }
        due("wethers count nothing", x.many(2), 0);
        due("and give no votes", x.many(1), 0);
        due("all scared", x.many(3), 8);
        for (int place = 0; place < 6; place++) {
            x.mind(place, HOGG, 9);
            x.fear(place, 0);
            x.look(place, place);
            due("counting", x.many(2), place + 1);
            due("with votes", x.many(1), place + 1);
            due("scared", x.many(3), 7 - place);
        }
        x.call(1);
        due("not twice", x.many(1), 6);
    }

    private static void promise54To55Keep() {
        checks.about("promises 54, 55: what was kept latest (which stays)");
        DogVotes x = Twins.full();
        due("keep", x.keep(), 1);
        Twins.alike(checks, "keep and again", keptAndBack(), keptThere());
        for (int i = 0; i < 3; i++) {
            x.hill();
            x.days(60);
            due("again", x.again(), 8);
            due("FEAR", x.of(7, 2), 4);
            due("day", x.state(0), 1);
        }
        x.hill();
        due("none kept", x.keep(), 1);
        x.sheep(EWE, 0, 0, 0);
        due("the latest", x.again(), 0);
    }

    private static DogVotes keptThere() {
        DogVotes x = Twins.full();
        x.keep();
        return x;
    }

    /** Whatever changed in between comes back, but for what is not kept and is left alone here. */
    private static DogVotes keptAndBack() {
        DogVotes x = keptThere();
        for (int one = 0; one < 8; one++) {
            x.mind(one, 5 - one % 6, 9);
            x.fear(one, 9);
            x.look(one, 5 - one % 6);
        }
        for (int place = 0; place < 6; place++) {
            x.grow(place, 0, 9);
            x.grow(place, 1, 9);
        }
        for (int law = 0; law < 4; law++) {
            x.set(law, 9);
        }
        x.seed(MIN);
        x.days(60);
        x.flock(0);
        x.call(0);
        due("again", x.again(), 8);
        return x;
    }

    private static void promise54To55Nothing() {
        checks.about("promise 55: NONE: nothing is kept");
        Twins.Making unkept = () -> {
            DogVotes x = Twins.one(HOGG, 3, 4, 5);
            x.days(7);
            x.prove(0, 3);
            x.feed(32, 1);
            return x;
        };
        Twins.refused(checks, "again", unkept, DogVotes::again, -3);
        DogVotes x = unkept.made();
        x.again();
        due("keep", x.keep(), 1);
        due("again", x.again(), 1);
        due("all but the tape, rows, sheets, shelves, the trace", x.many(4) + 10 * x.many(5), 13);
        x = Twins.untaped();
        DogVotes y = Twins.untaped();
        due("again", x.again(), 7);
        for (int i = 0; i < 4; i++) {
            due("rows are not kept", x.row(i, 0), y.row(i, 0));
            due("sheets are not kept", x.item(i, i, 1), y.item(i, i, 1));
            due("shelves are not kept", x.taken(1, 10 + i), y.taken(1, 10 + i));
            due("the trace is not kept", x.trace(i), y.trace(i));
        }
        due("many(4)", x.many(4), 4);
        due("many(6)", x.many(6), 11);
        due("z comes back", x.seed(5), 1);
        due("DAY comes back", x.state(0), 0);
        due("the CALL comes back", x.call(0), 0);
    }

    private static void lastCalls() {
        checks.about("an object is used for at most 512 calls");
        DogVotes x = new DogVotes();
        for (int i = 1; i <= 511; i++) {
            x.sheet(i % 4, 3, 40);
        }
        due("the 512th", x.item(3, 3, 39), 0);
        x = Twins.one(GIMMER, 0, 0, 0);
        for (int i = 0; i < 510; i++) {
            x.days(60);
        }
        due("DAY of the 512th", x.state(0), 30600);
    }
}
