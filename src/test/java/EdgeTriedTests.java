/** Promises 23 to 44, each sentence that names an edge: the last number allowed, the first refused, what stays. */
public final class EdgeTriedTests {
    private static final int EWE = 0, HOGG = 1, WETHER = 2, GIMMER = 3, BELLWETHER = 4, TUP = 5;
    private static final int MIN = Integer.MIN_VALUE, MAX = Integer.MAX_VALUE;
    private static final Checks checks = new Checks();

    public static void main(String[] args) {
        promise23Where();
        promise24Comes();
        promise25Calm();
        promise26Scared();
        promise27CallFor();
        promise28KindFor();
        promise29EarFor();
        promise30LooksFor();
        promise31DeafFor();
        promise32Beats();
        promise33Asked();
        promise33EveryNumber();
        promise34Agenda();
        promise35Ring();
        promise36Sham();
        promise37Power();
        promise38Fits();
        promise38Told();
        promise38FirstNamed();
        promise39Odds();
        promise40Hope();
        promise41Prove();
        promise42To43Rows();
        promise44Judge();
        triedChangesNothing();
        checks.close();
    }

    private static void due(String call, long got, long want) {
        checks.due(call, got, want);
    }

    private static void ranges(String name, Twins.CallOf call, int[]... ranges) {
        Twins.ranges(checks, name, Twins::rich, call, -1, ranges);
    }

    private static void refused(String name, Twins.Making making, Twins.Call call, long want) {
        Twins.refused(checks, name, making, call, want);
    }

    private static int[] range(int least, int most) {
        return Twins.range(least, most);
    }

    private static void promise23Where() {
        checks.about("promise 23: WHERE by n (0 to 60)");
        ranges("where", (x, a) -> x.where(a[0]), range(0, 60));
        due("where(0) is where it is", Twins.rich().where(0), Twins.rich().state(1));
        for (int n = 1; n <= 60; n++) {
            due("where(" + n + ")", Twins.rich().where(n), Twins.rich().days(n));
        }
    }

    private static void promise24Comes() {
        checks.about("promise 24: COMES, behind the fewest DAYS (0 to 60); NONE: not by then");
        ranges("comes", (x, a) -> x.comes(a[0]), range(0, 5));
        DogVotes x = new DogVotes();
        due("it is there now", x.comes(0), 0);
        refused("comes(1)", DogVotes::new, y -> y.comes(1), -3);
        x.call(6);
        for (int place = 0; place < 6; place++) {
            due("comes(" + place + ")", x.comes(place), place);
        }
        for (int place = 0; place < 6; place++) {
            int p = place, want = Twins.rich().comes(place);
            for (int n = 0; n < (want < 0 ? 61 : want); n++) {
                checks.holds("not at " + p + " behind " + n, Twins.rich().where(n) != p);
            }
            if (want >= 0) {
                due("at " + p + " behind " + want, Twins.rich().where(want), p);
            }
        }
    }

    private static void promise25Calm() {
        checks.about("promise 25: CALM (0, if there are no SHEEP); NONE: not by then");
        due("no sheep", new DogVotes().calm(), 0);
        for (int fear = 0; fear < 10; fear++) {
            due("ewe of fear " + fear, Twins.one(EWE, 0, fear, 0).calm(), fear);
            due("hogg of fear " + fear, Twins.one(HOGG, 0, fear, 0).calm(), (fear + 1) / 2);
            due("wether of fear " + fear, Twins.one(WETHER, 0, fear, 0).calm(), (fear + 2) / 3);
            due("tup of fear " + fear, Twins.one(TUP, 0, fear, 0).calm(), fear == 0 ? 0 : -3);
            due("gimmer of fear " + fear, Twins.one(GIMMER, 0, fear, 0).calm(), fear == 0 ? 0 : -3);
        }
        refused("calm", () -> Twins.one(TUP, 0, 1, 0), DogVotes::calm, -3);
        DogVotes x = Twins.one(TUP, 0, 0, 0);
        x.sheep(EWE, 0, 1, 0);
        due("nobody: all of them", x.calm(), 1);
    }

    private static void promise26Scared() {
        checks.about("promise 26: SCARED, a FEAR of 9; NONE: not by then");
        ranges("scared", (x, a) -> x.scared(a[0]), range(0, 6));
        for (int fear = 0; fear < 10; fear++) {
            int f = fear;
            due("gimmer of fear " + fear, Twins.one(GIMMER, 0, fear, 0).scared(0), 9 - fear);
            if (fear < 9) {
                refused("a tup of fear " + fear, () -> Twins.one(TUP, 0, f, 0), x -> x.scared(0), -3);
            } else {
                due("a tup of fear 9", Twins.one(TUP, 0, fear, 0).scared(0), 0);
            }
        }
        DogVotes x = Twins.one(TUP, 0, 0, 0);
        x.sheep(GIMMER, 0, 8, 0);
        due("another one's fear counts nothing", x.scared(0), -3);
        due("its own", x.scared(1), 1);
    }

    private static void promise27CallFor() {
        checks.about("promise 27: CALL FOR a PLACE, n (1 to 20)");
        ranges("callFor", (x, a) -> x.callFor(a[0], a[1]), range(0, 5), range(1, 20));
        for (int n : new int[] {1, 2, 19, 20}) {
            for (int place = 0; place < 6; place++) {
                int best = -1, nearest = 9;
                for (int v = 0; v < 7; v++) {
                    DogVotes x = Twins.rich();
                    x.call(v);
                    int off = Math.abs(x.days(n) - place);
                    best = off < nearest ? v : best;
                    nearest = Math.min(nearest, off);
                }
                due("callFor(" + place + ", " + n + ")", Twins.rich().callFor(place, n), best);
            }
        }
        checks.about("promise 27: of several the least");
        due("none of them matters", new DogVotes().callFor(0, 1), 0);
        due("1 is enough for a step", new DogVotes().callFor(5, 1), 2);
        due("all the way", new DogVotes().callFor(5, 5), 6);
        due("one step short", new DogVotes().callFor(5, 4), 5);
        DogVotes x = new DogVotes();
        x.flock(2);
        x.set(1, 1);
        int[] looks = {1, 1, 3, 3};
        for (int look : looks) {
            x.sheep(HOGG, 9, 0, look);
        }
        due("two for 1, two for 3: as near on either side", x.callFor(2, 1), 0);
        due("the whistle makes it 3", x.callFor(3, 1), 4);
        due("1 without a call", x.callFor(1, 1), 0);
    }

    private static void promise28KindFor() {
        checks.about("promise 28: KIND FOR one, a PLACE, n (1 to 20)");
        ranges("kindFor", (x, a) -> x.kindFor(a[0], a[1], a[2]), range(0, 6), range(0, 5), range(1, 20));
        for (int n : new int[] {1, 2, 19, 20}) {
            for (int s = 0; s < 7; s++) {
                for (int place = 0; place < 6; place++) {
                    int best = -1, nearest = 9;
                    for (int kind = 0; kind < 6; kind++) {
                        DogVotes x = Twins.rich();
                        x.mind(s, kind, x.of(s, 1));
                        int off = Math.abs(x.days(n) - place);
                        best = off < nearest ? kind : best;
                        nearest = Math.min(nearest, off);
                    }
                    due("kindFor(" + s + ", " + place + ", " + n + ")", Twins.rich().kindFor(s, place, n), best);
                }
            }
        }
        checks.about("promise 28: each KIND can be the one");
        DogVotes x = Twins.one(EWE, 9, 0, 3);
        due("all go nowhere", x.kindFor(0, 0, 1), EWE);
        due("after its look", x.kindFor(0, 3, 3), HOGG);
        due("counting nothing", x.kindFor(0, 0, 3), WETHER);
        x.grow(3, 0, 0);
        x.grow(3, 1, 9);
        x.grow(2, 1, 9);
        x.call(3);
        x.set(1, 0);
        x.mind(0, EWE, 8);
        due("after the call", x.kindFor(0, 2, 2), BELLWETHER);
        x = Twins.one(EWE, 0, 0, 0);
        x.grow(4, 1, 9);
        x.grow(4, 0, 6);
        due("after grass and risk", x.kindFor(0, 4, 4), TUP);
        x = Twins.one(EWE, 1, 0, 5);
        x.grow(0, 0, 9);
        x.grow(1, 1, 9);
        x.grow(2, 1, 9);
        x.set(0, 0);
        x.call(1);
        x.set(1, 1);
        x.grow(5, 0, 9);
        due("counting more than the whistle", x.kindFor(0, 5, 5), GIMMER);
    }

    private static void promise29EarFor() {
        checks.about("promise 29: EAR FOR one, a PLACE, n (1 to 20); NONE: with none");
        ranges("earFor", (x, a) -> x.earFor(a[0], a[1], a[2]), range(0, 6), range(0, 5), range(1, 20));
        for (int n : new int[] {1, 2, 19, 20}) {
            for (int s = 0; s < 7; s++) {
                for (int place = 0; place < 6; place++) {
                    int least = -3;
                    for (int ear = 9; ear >= 0; ear--) {
                        DogVotes x = Twins.rich();
                        x.mind(s, x.of(s, 0), ear);
                        least = x.days(n) == place ? ear : least;
                    }
                    due("earFor(" + s + ", " + place + ", " + n + ")", Twins.rich().earFor(s, place, n), least);
                }
            }
        }
        checks.about("promise 29: the least EAR (0 to 9)");
        // 2 for each GRASS at place 3 and EAR against 10 at place 0, which is the least of as good ones.
        for (int grass = 0; grass < 10; grass++) {
            int g = grass, least = grass > 5 ? 0 : 11 - 2 * grass;
            Twins.Making hogg = () -> {
                DogVotes x = Twins.one(HOGG, 9, 0, 3);
                x.grow(3, 0, g);
                return x;
            };
            if (least > 9) {
                refused("grass " + grass, hogg, x -> x.earFor(0, 1, 1), -3);
            } else {
                due("grass " + grass, hogg.made().earFor(0, 1, 1), least);
            }
        }
        refused("an EAR of 10 would do", () -> {
            DogVotes x = Twins.one(HOGG, 9, 0, 3);
            x.grow(3, 0, 1);
            x.grow(3, 1, 1);
            return x;
        }, x -> x.earFor(0, 1, 1), -3);
    }

    private static void promise30LooksFor() {
        checks.about("promise 30: LOOKS FOR a PLACE; NONE: by no set");
        ranges("looksFor", (x, a) -> x.looksFor(a[0]), range(0, 5));
        DogVotes x = new DogVotes();
        for (int place = 0; place < 6; place++) {
            int p = place;
            x.flock(place);
            due("no sheep, where it is", x.looksFor(place), 0);
            refused("no sheep, elsewhere", DogVotes::new, y -> y.looksFor(p), place == 0 ? 0 : -3);
        }
        x = new DogVotes();
        for (int one = 0; one < 8; one++) {
            x.sheep(HOGG, 9, 0, 0);
        }
        // Two each at their look: five with one each are 5 against 6, six are 6 against 4.
        due("six of eight, the least set", x.looksFor(5), 63);
        due("the empty set", x.looksFor(0), 0);
        x.flock(5);
        due("as near: 3 of two each against 5", x.looksFor(5), 7);
        x.call(1);
        x.set(1, 9);
        due("six are 12 against 11, five 10 against 12", x.looksFor(5), 63);
        refused("ewes don't look", () -> ewes(8), y -> y.looksFor(5), -3);
        due("ewes", ewes(8).looksFor(0), 0);
        x = ewes(7);
        x.sheep(HOGG, 9, 0, 0);
        x.call(6);
        x.set(1, 7);
        due("7 against 9: the last one alone makes it 8 against 7", x.looksFor(5), 128);
    }

    private static DogVotes ewes(int n) {
        DogVotes x = new DogVotes();
        for (int i = 0; i < n; i++) {
            x.sheep(EWE, 9, 0, 0);
        }
        return x;
    }

    private static void promise31DeafFor() {
        checks.about("promise 31: DEAF FOR a PLACE; NONE: by no set");
        ranges("deafFor", (x, a) -> x.deafFor(a[0]), range(0, 5));
        refused("where the flock isn't", DogVotes::new, y -> y.deafFor(1), -3);
        due("where it is", new DogVotes().deafFor(0), 0);
        Twins.Making toFive = () -> {
            DogVotes x = ewes(8);
            x.grow(5, 0, 9);
            return x;
        };
        due("as it is", toFive.made().deafFor(5), 0);
        due("all eight", toFive.made().deafFor(0), 255);
        refused("nobody's", toFive, y -> y.deafFor(3), -3);
        DogVotes x = toFive.made();
        x.call(4);
        due("2 of the whistle are nearer: six are enough", x.deafFor(3), 63);
        due("the whistle is heard all the same", x.deafFor(0), -3);
        x.set(1, 9);
        due("9 against 8", x.deafFor(3), 0);
        due("9 against 8", x.deafFor(5), -3);
        checks.about("promise 31: these COUNT nothing, whatever was asked before");
        for (int place = 0; place < 6; place++) {
            DogVotes y = new DogVotes();
            for (int one = 0; one < 8; one++) {
                y.sheep(HOGG, 9, 0, 5);
            }
            y.looksFor(place);
            due("as it is", y.deafFor(5), 0);
            due("all", y.deafFor(0), 255);
            y.sham(7);
            due("by no set", y.deafFor(3), -3);
        }
        checks.about("promise 31: the set of fewest, of several the least");
        x = ewes(2);
        x.sheep(HOGG, 9, 0, 5);
        x.sheep(HOGG, 9, 0, 4);
        x.sheep(HOGG, 9, 0, 4);
        due("one against two and two, which are nearer", x.deafFor(5), 27);
        x.flock(4);
        due("two of two each at their look", x.deafFor(4), 0);
        due("two against four: one of the two is too few", x.deafFor(0), 24);
        x.mind(3, EWE, 9);
        due("three against two", x.deafFor(4), 1);
    }

    private static void promise32Beats() {
        checks.about("promise 32: 1 if one PLACE BEATS another one; BAD: also one and the same");
        for (int p = 0; p < 6; p++) {
            int place = p;
            ranges("beats of " + p, (x, a) -> x.beats(place, a[0] == place ? (place + 1) % 6 : a[0]), range(0, 5));
            ranges("beats by " + p, (x, a) -> x.beats(a[0] == place ? (place + 1) % 6 : a[0], place), range(0, 5));
            refused("beats one and the same", Twins::rich, x -> x.beats(place, place), -1);
        }
        refused("beats of none", Twins::rich, x -> x.beats(6, 6), -1);
        refused("beats of none", Twins::rich, x -> x.beats(-1, -1), -1);
        DogVotes x = new DogVotes();
        due("nobody", x.beats(1, 2), 0);
        x.sheep(HOGG, 9, 0, 1);
        due("one against none", x.beats(1, 2), 1);
        due("none against one", x.beats(2, 1), 0);
        due("alike to it", x.beats(2, 3), 0);
        x.sheep(HOGG, 9, 0, 2);
        due("as many", x.beats(1, 2), 0);
        due("as many", x.beats(2, 1), 0);
        x.flock(2);
        due("who counts more", x.beats(2, 1), 1);
        x.mind(1, WETHER, 9);
        due("who counts nothing", x.beats(2, 1), 0);
        due("who counts something", x.beats(1, 2), 1);
        x.sheep(GIMMER, 0, 0, 2);
        due("one to whom they are alike counts for neither", x.beats(1, 2), 1);
        due("one to whom they are alike counts for neither", x.beats(2, 1), 0);
        x.grow(2, 1, 1);
        due("greater by 1", x.beats(2, 1), 0);
        due("greater by 1", x.beats(1, 2), 1);
        x.grow(2, 1, 0);
        x.grow(1, 1, 1);
        due("four for 2 by 1, one for 1 by 8", x.beats(2, 1), 1);
        due("four for 2 by 1, one for 1 by 8", x.beats(1, 2), 0);
    }

    private static void promise33Asked() {
        checks.about("promise 33: BAD: it is none");
        int[] none = {-1, 0, 1, 12344, 12346, 11345, 1234, 54321, 100000, 543211, 543209, 543215, 543200, 554321, 654321, 12347,
            12348, 12349, 712345, 999999, 1012345, 10012345, 6012345, 1543210, -12345, -543210, MIN, MAX, MIN + 12345};
        for (int order : none) {
            refused("asked(" + order + ")", Twins::rich, x -> x.asked(order), order == 54321 ? Twins.rich().asked(order) : -1);
        }
        checks.about("promise 33: the first one stands; each next one stands instead, if it BEATS it");
        DogVotes x = new DogVotes();
        due("the first figure, 0", x.asked(12345), 0);
        due("the first figure, 5", x.asked(543210), 5);
        due("54321 is 0, 5, .. 1", x.asked(54321), 0);
        x.sheep(EWE, 0, 0, 0);
        x.grow(2, 0, 9);
        due("the last one", x.asked(13452), 2);
        due("the second one", x.asked(523410), 2);
        due("the first one", x.asked(201345), 2);
        x.grow(4, 0, 9);
        due("one as good does not beat it", x.asked(13524), 2);
        due("one as good does not beat it", x.asked(13542), 4);
    }

    private static void promise33EveryNumber() {
        checks.about("promise 33: all six PLACES, each once");
        DogVotes x = new DogVotes();
        int orders = 0;
        for (int number = 0; number < 1000000; number++) {
            x = number % 500 == 0 ? new DogVotes() : x;
            int first = x.asked(number);
            if (first == -1) {
                continue;
            }
            orders++;
            due("the first figure of " + number, first, number / 100000);
            int seen = 0;
            for (int rest = number, i = 0; i < 6; i++, rest /= 10) {
                seen |= 1 << rest % 10;
            }
            due("the figures of " + number, seen, 63);
        }
        due("orders", orders, 720);
    }

    private static void promise34Agenda() {
        checks.about("promise 34: by how many ORDERS a PLACE WINS; the least of these; NONE: by none");
        ranges("agenda", (x, a) -> x.agenda(a[0], a[1]), range(0, 5), range(0, 1));
        int[] least = {12345, 102345, 201345, 301245, 401235, 501234};
        for (int place = 0; place < 6; place++) {
            due("no sheep", new DogVotes().agenda(place, 0), 120);
            due("no sheep", new DogVotes().agenda(place, 1), least[place]);
        }
        for (int place = 0; place < 6; place++) {
            int p = place;
            Twins.Making forOne = () -> {
                DogVotes x = Twins.one(EWE, 0, 0, 0);
                x.grow(p, 0, 9);
                return x;
            };
            for (int other = 0; other < 6; other++) {
                int o = other;
                due("agenda(" + other + ", 0) with one for " + place, forOne.made().agenda(other, 0), other == place ? 720 : 0);
                if (other == place) {
                    due("agenda(" + other + ", 1)", forOne.made().agenda(other, 1), 12345);
                } else {
                    refused("agenda(" + other + ", 1)", forOne, x -> x.agenda(o, 1), -3);
                }
            }
        }
        DogVotes x = Twins.one(EWE, 0, 0, 0);
        x.grow(4, 0, 9);
        x.grow(5, 0, 9);
        due("two as good: half of all each", x.agenda(4, 0), 360);
        due("two as good: half of all each", x.agenda(5, 0), 360);
        due("the first of them", x.agenda(4, 1), 12345);
        due("the first of them", x.agenda(5, 1), 12354);
    }

    /** A ring: the first PLACE beats the middle one, that the third one (which is no further from it), that the first. */
    private static DogVotes ringed(int first, int middle, int third) {
        DogVotes x = new DogVotes();
        for (int place = 0; place < 6; place++) {
            x.grow(place, 0, place == first ? 6 : place == middle ? 5 : place == third ? 7 : 0);
            x.grow(place, 1, place == first ? 3 : place == middle ? 0 : place == third ? 4 : 9);
        }
        x.flock(middle);
        // By first, middle, third, if they are in a row: 17, 10, 9; 8, 10, 9; 18, 15, 21.
        x.sheep(HOGG, 9, 3, first);
        x.sheep(EWE, 0, 3, 0);
        x.sheep(TUP, 0, 0, 0);
        return x;
    }

    private static void promise35Ring() {
        checks.about("promise 35: the least RING; NONE");
        due("0, 1, 2", ringed(0, 1, 2).ring(), 12);
        due("2, 1, 0: the least begins by 0", ringed(2, 1, 0).ring(), 21);
        due("1, 2, 3", ringed(1, 2, 3).ring(), 123);
        due("3, 2, 1", ringed(3, 2, 1).ring(), 132);
        due("3, 4, 5", ringed(3, 4, 5).ring(), 345);
        due("5, 4, 3", ringed(5, 4, 3).ring(), 354);
        for (int order = 0; order < 216; order++) {
            int first = order / 36, middle = order / 6 % 6, third = order % 6;
            if (first == middle || middle == third || third == first || Math.abs(third - middle) > Math.abs(first - middle)) {
                continue;
            }
            int one = 100 * first + 10 * middle + third;
            int two = 100 * middle + 10 * third + first;
            int three = 100 * third + 10 * first + middle;
            due("the least of " + one + ", " + two + ", " + three, ringed(first, middle, third).ring(), Math.min(one, Math.min(two, three)));
        }
        for (int kind : new int[] {WETHER, EWE}) {
            Twins.Making broken = () -> {
                DogVotes x = ringed(0, 1, 2);
                x.mind(2, kind, 0);
                return x;
            };
            refused("no ring", broken, DogVotes::ring, -3);
        }
        DogVotes x = ringed(1, 2, 3);
        for (int what = 0; what < 2; what++) {
            x.grow(4, what, x.place(1, what));
        }
        due("4 is as 1 without the hogg's look", x.beats(4, 1), 0);
        due("the least of all rings", x.ring(), 123);
    }

    private static void promise36Sham() {
        checks.about("promise 36: SHAM, greater than as it is; NONE");
        ranges("sham", (x, a) -> x.sham(a[0]), range(0, 6));
        refused("alone, it has what it likes", () -> Twins.one(EWE, 0, 0, 0), x -> x.sham(0), -3);
        // 5 for the first, 4 for the second, 1 for the third, all as near or far as 1: 1 wins.
        for (int grass = 4; grass < 7; grass++) {
            int g = grass;
            Twins.Making three = () -> {
                DogVotes x = Twins.one(HOGG, 9, 0, 5);
                x.sheep(HOGG, 9, 0, 4);
                x.sheep(HOGG, 9, 0, 1);
                x.grow(4, 0, g);
                return x;
            };
            if (grass > 5) {
                due("4 is worth more than 1", three.made().sham(0), 4);
            } else {
                refused("4 is worth no more than 1", three, x -> x.sham(0), -3);
            }
        }
        checks.about("promise 36: of several the least");
        DogVotes x = Twins.one(HOGG, 9, 0, 5);
        for (int look : new int[] {3, 4, 1}) {
            x.sheep(HOGG, 9, 0, look);
        }
        x.grow(3, 0, 6);
        x.grow(4, 0, 6);
        due("3 and 4 alike", x.sham(0), 3);
        x.grow(4, 0, 7);
        due("4 is worth most", x.sham(0), 4);
        checks.about("promise 36: the first and the last PLACE, by the first and the last one");
        for (int end = 0; end < 6; end += 5) {
            for (int shamming = 0; shamming < 8; shamming += 7) {
                // One vote each for the nearest place, for the end and for the other end.
                DogVotes y = new DogVotes();
                for (int one = 0; one < 8; one++) {
                    y.sheep(one == shamming || one == 3 || one == 4 ? HOGG : WETHER, 9, 0,
                        one == shamming ? 5 - end : one == 3 ? end : end == 0 ? 2 : 3);
                }
                y.flock(end == 0 ? 3 : 2);
                y.grow(end, 0, 6);
                due("two votes for " + end, y.sham(shamming), end);
            }
        }
        x.mind(0, WETHER, 9);
        refused("no such one", Twins::full, y -> y.sham(8), -1);
        due("who counts nothing", x.sham(0), -3);
    }

    private static void duePower(DogVotes x, int sheep, long above, long below) {
        due("power(" + sheep + ", 0)", x.power(sheep, 0), above);
        due("power(" + sheep + ", 1)", x.power(sheep, 1), below);
    }

    private static void promise37Power() {
        checks.about("promise 37: POWER, no more than half, but more with it");
        ranges("power", (x, a) -> x.power(a[0], a[1]), range(0, 6), range(0, 1));
        for (int n = 1; n <= 8; n++) {
            DogVotes x = ewes(n);
            for (int one = 0; one < n; one++) {
                duePower(x, one, 1, n);
            }
        }
        DogVotes x = ewes(7);
        x.sheep(GIMMER, 0, 0, 0);
        // Of 11: 2 to 5 ahead of it, so at four of eight places.
        duePower(x, 7, 1, 2);
        duePower(x, 0, 1, 14);
        x = ewes(4);
        x.sheep(GIMMER, 0, 0, 0);
        // Of 8: with none ahead 4 are just half; with all ahead 4 are no more than half.
        duePower(x, 4, 4, 5);
        duePower(x, 0, 1, 20);
        DogVotes first = Twins.one(GIMMER, 0, 0, 0);
        first.sheep(EWE, 0, 0, 0);
        first.sheep(EWE, 0, 0, 0);
        duePower(first, 0, 1, 1);
        duePower(first, 1, 0, 1);
        checks.about("terms: 0 is 0 by 1");
        x.sheep(WETHER, 0, 0, 0);
        duePower(x, 5, 0, 1);
        duePower(x, 4, 4, 5);
        duePower(Twins.one(WETHER, 0, 0, 0), 0, 0, 1);
        x = ewes(1);
        x.sheep(GIMMER, 0, 0, 0);
        duePower(x, 0, 0, 1);
        duePower(x, 1, 1, 1);
    }

    /** One ewe at place 0; place 3 is worth 14 less three thirds of FEAR, place 0 as told, the others nothing. */
    private static DogVotes fearful(int grassHere) {
        DogVotes x = Twins.one(EWE, 0, 4, 0);
        for (int place = 0; place < 6; place++) {
            x.grow(place, 0, place == 3 ? 7 : place == 0 ? grassHere : 0);
        }
        x.sheet(0, 0, 1);
        return x;
    }

    private static void dueFits(DogVotes x, int told, int many, int least) {
        x.put(0, 0, told);
        due("fits of " + told, x.fits(0, 0, 0), many);
        due("least of " + told, x.fits(0, 0, 1), least);
    }

    private static void promise38Fits() {
        checks.about("promise 38: those FEARS (0 to 9)");
        // By thirds of FEAR place 3 is worth 14, 11, 8, 5.
        int[] goes = {10, 10, 10, 9, 6, 6, 3, 0, 0, 0};
        for (int grass = 0; grass < 10; grass++) {
            DogVotes x = fearful(grass);
            dueFits(x, 1, goes[grass], goes[grass] == 0 ? -3 : 0);
            dueFits(x, 0, 10 - goes[grass], goes[grass] == 10 ? -3 : goes[grass]);
            dueFits(x, -1, 10, 0);
        }
        refused("none, the least", () -> {
            DogVotes x = fearful(9);
            x.put(0, 0, 1);
            return x;
        }, x -> x.fits(0, 0, 1), -3);
    }

    private static void promise38Told() {
        checks.about("promise 38: AT what the numbers tell, one by one (-1: any)");
        int[] anys = {255, 65535, -1, -1};
        for (int sort = 0; sort < 4; sort++) {
            DogVotes x = fearful(5);
            x.sheet(0, sort, 1);
            dueFits(x, anys[sort], 10, 0);
            dueFits(x, 1, 6, 0);
            for (int no : new int[] {-2, 2, 5, 6, 7, 100, -128}) {
                dueFits(x, no, 0, -3);
            }
            dueFits(x, MIN, sort < 2 ? 4 : 0, sort < 2 ? 6 : -3);
            x.sheet(0, sort, 0);
            due("no numbers", x.fits(0, 0, 0), 10);
            due("no numbers", x.fits(0, 0, 1), 0);
            x.sheet(0, sort, 40);
            x.grow(0, 0, 9);
            x.set(2, 0);
            x.grow(3, 0, 0);
            due("40 numbers", x.fits(0, 0, 0), 10);
            x.put(0, 39, 1);
            due("the last one of them", x.fits(0, 0, 0), 0);
            x.put(0, 39, -1);
            x.put(0, 0, 1);
            due("the first one of them", x.fits(0, 0, 0), 0);
        }
    }

    private static void promise38FirstNamed() {
        checks.about("promise 38: of several the first named");
        ranges("fits", (x, a) -> x.fits(a[0] == 3 ? 2 : a[0], a[1], a[2]), range(0, 3), range(0, 6), range(0, 1));
        refused("missing", Twins::rich, x -> x.fits(3, 0, 0), -11);
        refused("missing, the least", Twins::rich, x -> x.fits(3, 6, 1), -11);
        refused("missing, no such one", Twins::rich, x -> x.fits(3, 7, 0), -1);
        refused("missing, no such one", Twins::rich, x -> x.fits(3, -1, 0), -1);
        refused("missing, no such what", Twins::rich, x -> x.fits(3, 0, 2), -1);
        refused("missing, no such what", Twins::rich, x -> x.fits(3, 0, -1), -1);
        refused("no such sheet", Twins::rich, x -> x.fits(4, 0, 1), -1);
    }

    private static void dueOdds(DogVotes x, int n, int k, long above, long below) {
        due("odds(" + n + ", " + k + ", 0)", x.odds(n, k, 0), above);
        due("odds(" + n + ", " + k + ", 1)", x.odds(n, k, 1), below);
    }

    private static void promise39Odds() {
        checks.about("promise 39: ODDS by n (0 to 8), k (0 to n)");
        for (int n = 0; n <= 8; n++) {
            int m = n;
            ranges("odds of " + n, (x, a) -> x.odds(m, a[0], a[1]), range(0, n), range(0, 1));
        }
        ranges("odds", (x, a) -> x.odds(a[0], 0, a[1]), range(0, 8), range(0, 1));
        for (int k : new int[] {-1, 0, 8, 9, MIN, MAX}) {
            refused("odds(9, " + k + ", 0)", Twins::rich, x -> x.odds(9, k, 0), -1);
            refused("odds(-1, " + k + ", 0)", Twins::rich, x -> x.odds(-1, k, 0), -1);
        }
        DogVotes x = new DogVotes();
        checks.about("terms: WRONG 0 and 99, without a common divisor, 0 is 0 by 1");
        x.set(3, 0);
        for (int n = 0; n <= 8; n++) {
            for (int k = 0; k <= n; k++) {
                dueOdds(x, n, k, k == 0 ? 1 : 0, 1);
            }
        }
        x.set(3, 99);
        dueOdds(x, 8, 8, 9227446944279201L, 10000000000000000L);
        dueOdds(x, 8, 0, 1, 10000000000000000L);
        dueOdds(x, 0, 0, 1, 1);
        x.set(3, 1);
        dueOdds(x, 8, 0, 9227446944279201L, 10000000000000000L);
        dueOdds(x, 8, 8, 1, 10000000000000000L);
        x.set(3, 50);
        dueOdds(x, 8, 0, 1, 256);
        dueOdds(x, 8, 1, 1, 32);
        dueOdds(x, 8, 2, 7, 64);
        dueOdds(x, 8, 3, 7, 32);
        dueOdds(x, 8, 4, 35, 128);
        dueOdds(x, 8, 5, 7, 32);
        dueOdds(x, 8, 8, 1, 256);
    }

    private static void dueHope(DogVotes x, int n, long above, long below) {
        due("hope(" + n + ", 0)", x.hope(n, 0), above);
        due("hope(" + n + ", 1)", x.hope(n, 1), below);
    }

    private static void promise40Hope() {
        checks.about("promise 40: HOPE by n (0 to 99)");
        ranges("hope", (x, a) -> x.hope(a[0], a[1]), range(0, 99), range(0, 1));
        DogVotes x = new DogVotes();
        dueHope(x, 0, 0, 1);
        dueHope(x, 5, 1, 1);
        dueHope(x, 99, 99, 5);
        x.set(3, 99);
        dueHope(x, 99, 9801, 100);
        dueHope(x, 1, 99, 100);
        x.set(3, 0);
        dueHope(x, 99, 0, 1);
        dueHope(x, 0, 0, 1);
    }

    private static void promise41Prove() {
        checks.about("promise 41: ROWS of one by n DAYS (1 to 10)");
        ranges("prove", (x, a) -> x.prove(a[0], a[1]), range(0, 6), range(1, 10));
        for (int n = 1; n <= 10; n++) {
            DogVotes x = Twins.rich();
            due("prove", x.prove(6, n), n);
            due("many(4)", x.many(4), n);
            for (int i = 0; i < n; i++) {
                DogVotes y = Twins.rich();
                y.days(i + 1);
                due("FEAR", x.row(i, 0), y.of(6, 2));
                due("VOTE", x.row(i, 1), y.of(6, 5));
                due("AT", x.row(i, 2), y.state(1));
            }
            due("the row behind them", x.row(n, 0), -9);
        }
        DogVotes x = Twins.rich();
        x.prove(1, 10);
        x.prove(1, 1);
        due("fewer than before", x.many(4), 1);
        due("row 1", x.row(1, 0), -9);
    }

    private static void promise42To43Rows() {
        checks.about("promises 42, 43: -9: there is none such, another what");
        for (int n : new int[] {1, 4, 10}) {
            Twins.Making rows = () -> {
                DogVotes x = Twins.rich();
                x.prove(2, n);
                return x;
            };
            Twins.ranges(checks, "row of " + n, rows, (x, a) -> x.row(a[0], a[1]), -9, range(0, n - 1), range(0, 2));
            Twins.ranges(checks, "alterRow of " + n, rows, (x, a) -> x.alterRow(a[0], a[1], 3), -9, range(0, n - 1), range(0, 2));
        }
        checks.about("promise 43: it becomes v: what it was");
        DogVotes x = Twins.rich();
        x.prove(2, 10);
        for (int i = 0; i < 10; i++) {
            for (int what = 0; what < 3; what++) {
                due("alterRow", x.alterRow(i, what, MIN + 3 * i + what), rowOf(2, i, what));
                due("alterRow", x.alterRow(i, what, MAX), MIN + 3 * i + what);
                due("alterRow", x.alterRow(i, what, 3 * i + what), MAX);
            }
        }
        for (int i = 0; i < 10; i++) {
            for (int what = 0; what < 3; what++) {
                due("row", x.row(i, what), 3 * i + what);
            }
        }
    }

    private static int rowOf(int sheep, int i, int what) {
        DogVotes x = Twins.rich();
        x.days(i + 1);
        return what == 0 ? x.of(sheep, 2) : what == 1 ? x.of(sheep, 5) : x.state(1);
    }

    private static void promise44Judge() {
        checks.about("promise 44: 0 all is right; else the first ROW that isn't, and 1 more");
        ranges("judge", (x, a) -> x.judge(a[0]), range(0, 6));
        DogVotes none = Twins.one(EWE, 0, 0, 0);
        due("no rows", none.judge(0), 0);
        refused("no rows, no such one", () -> Twins.one(EWE, 0, 0, 0), x -> x.judge(1), -1);
        for (int i = 0; i < 10; i++) {
            for (int what = 0; what < 3; what++) {
                DogVotes x = Twins.rich();
                x.prove(3, 10);
                due("all right", x.judge(3), 0);
                int was = x.row(i, what);
                for (int v : new int[] {was + 1, was - 1, MIN, MAX}) {
                    x.alterRow(i, what, v);
                    due("row " + i + " is not right", x.judge(3), i + 1);
                }
                x.alterRow(i, what, was);
                due("right again", x.judge(3), 0);
                x.alterRow(9, 2, -1);
                x.alterRow(i, what, -1);
                due("the first of two", x.judge(3), i + 1);
            }
        }
    }

    private static void dueNoChange(String name, Twins.Call call) {
        DogVotes x = Twins.full();
        checks.holds(name + " is no refusal of a number", call.on(x) != -1);
        Twins.alike(checks, name, x, Twins.full());
    }

    private static void triedChangesNothing() {
        checks.about("terms: what is asked here is TRIED; nothing changes");
        for (int p = 0; p < 6; p++) {
            int place = p;
            dueNoChange("comes", x -> x.comes(place));
            dueNoChange("callFor", x -> x.callFor(place, 20));
            dueNoChange("looksFor", x -> x.looksFor(place));
            dueNoChange("deafFor", x -> x.deafFor(place));
            dueNoChange("beats", x -> x.beats(place, (place + 1) % 6));
            dueNoChange("agenda", x -> x.agenda(place, place % 2));
            dueNoChange("place", x -> x.place(place, 2) + x.place(place, 3));
        }
        for (int s = 0; s < 8; s++) {
            int one = s;
            dueNoChange("scared", x -> x.scared(one));
            dueNoChange("kindFor", x -> x.kindFor(one, 5, 20));
            dueNoChange("earFor", x -> x.earFor(one, 5, 20));
            dueNoChange("sham", x -> x.sham(one));
            dueNoChange("power", x -> x.power(one, 0));
            dueNoChange("fits", x -> x.fits(1, one, 0));
            dueNoChange("judge", x -> x.judge(one));
            dueNoChange("worth", x -> x.worth(one, 5));
            dueNoChange("of", x -> x.of(one, 4) + x.of(one, 5));
            dueNoChange("tames", x -> x.tames(one));
        }
        dueNoChange("where", x -> x.where(60));
        dueNoChange("calm", DogVotes::calm);
        dueNoChange("ring", DogVotes::ring);
        dueNoChange("winner", DogVotes::winner);
        dueNoChange("asked", x -> x.asked(543210));
        dueNoChange("strays", x -> x.strays(30));
        dueNoChange("odds", x -> x.odds(8, 4, 0));
        dueNoChange("hope", x -> x.hope(99, 0));
        dueNoChange("taken", x -> x.taken(0, 0));
        dueNoChange("trace", x -> x.trace(0));
        dueNoChange("row", x -> x.row(0, 0));
        dueNoChange("item", x -> x.item(0, 0, 0));
        for (int what = 0; what < 7; what++) {
            int w = what;
            dueNoChange("many", x -> x.many(w));
            dueNoChange("state", x -> x.state(Math.min(w, 5)));
        }
    }
}
