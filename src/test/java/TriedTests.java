/** Promises 23 to 44: what is tried, orders, powers, odds, rows of days. */
public final class TriedTests {
    private static final int EWE = 0, HOGG = 1, WETHER = 2, GIMMER = 3, BELLWETHER = 4, TUP = 5;
    private static final Checks checks = new Checks();

    public static void main(String[] args) {
        promise23To24Where();
        promise25To26Calm();
        promises24To26Limit();
        promise27CallFor();
        promise28KindFor();
        promise29EarFor();
        promise30LooksFor();
        promise31DeafFor();
        promise32To35Ring();
        promise32To34WithoutSheep();
        promise36Sham();
        promise37Power();
        promise38Fits();
        promise39Odds();
        promise40Hope();
        promise41To44Rows();
        nothingChanges();
        checks.close();
    }

    private static void due(String call, long got, long want) {
        checks.due(call, got, want);
    }

    /** One hogg that goes to place 3 and stays there. */
    private static DogVotes toThree() {
        DogVotes x = new DogVotes();
        x.sheep(HOGG, 9, 2, 3);
        return x;
    }

    private static void promise23To24Where() {
        checks.about("promises 23, 24");
        DogVotes x = toThree();
        int[] at = {0, 1, 2, 3, 3};
        for (int n = 0; n < 5; n++) {
            due("where(" + n + ")", x.where(n), at[n]);
        }
        due("where(-1)", x.where(-1), -1);
        due("where(61)", x.where(61), -1);
        for (int place = 0; place < 4; place++) {
            due("comes(" + place + ")", x.comes(place), place);
        }
        due("comes(6)", x.comes(6), -1);
        due("comes(-1)", x.comes(-1), -1);
        due("nothing changed", x.state(0), 0);
        DogVotes y = new DogVotes();
        due("where(60) without sheep", y.where(60), 0);
        due("comes(1)", y.comes(1), -3);
        due("comes(0)", y.comes(0), 0);
        y.call(6);
        due("comes(5)", y.comes(5), 5);
        due("where(5)", y.where(5), 5);
    }

    private static void promise25To26Calm() {
        checks.about("promises 25, 26");
        DogVotes x = new DogVotes();
        due("calm without sheep", x.calm(), 0);
        x.sheep(EWE, 0, 5, 0);
        due("a ewe: one a day", x.calm(), 5);
        x.sheep(WETHER, 0, 7, 0);
        due("a wether: three a day", x.calm(), 5);
        x.fear(0, 2);
        due("the slower one", x.calm(), 3);
        due("scared(0)", x.scared(0), -3);
        x.fear(0, 9);
        due("scared now", x.scared(0), 0);
        due("calm", x.calm(), 9);
        x.sheep(TUP, 0, 1, 0);
        due("a tup is never tamed", x.calm(), -3);
        x.sheep(GIMMER, 0, 1, 0);
        due("a gimmer is one more a day", x.scared(3), 8);
        due("no such one", x.scared(4), -1);
        due("no such one", x.scared(-1), -1);
        DogVotes y = new DogVotes();
        y.sheep(TUP, 0, 3, 0);
        y.call(1);
        y.set(1, 9);
        y.grow(0, 1, 9);
        due("by risk", y.scared(0), 6);
        y.grow(0, 1, 8);
        due("risk 8 scares to 8", y.scared(0), -3);
        y.fear(0, 0);
        y.grow(0, 1, 0);
        due("calm now", y.calm(), 0);
    }

    /** Sheep by four numbers each, grass and risk by place, the call, three laws. */
    private static DogVotes told(int... numbers) {
        DogVotes x = new DogVotes();
        int i = 0;
        for (; i < numbers.length - 16; i += 4) {
            x.sheep(numbers[i], numbers[i + 1], numbers[i + 2], numbers[i + 3]);
        }
        for (int place = 0; place < 6; place++, i += 2) {
            x.grow(place, 0, numbers[i]);
            x.grow(place, 1, numbers[i + 1]);
        }
        x.call(numbers[i++]);
        for (int law = 0; law < 3; law++) {
            x.set(law, numbers[i++]);
        }
        return x;
    }

    private static void promises24To26Limit() {
        checks.about("promises 24 to 26, 60 days");
        DogVotes x = told(3, 5, 9, 0, 5, 5, 6, 0, 7, 7, 2, 1, 0, 5, 1, 0, 0, 8, 7, 3);
        due("comes at last", x.comes(5), 60);
        due("where(59)", x.where(59), 4);
        due("where(60)", x.where(60), 5);
        x = told(3, 5, 9, 1, 5, 7, 0, 4, 0, 0, 9, 0, 3, 0, 7, 0, 9, 8, 9, 2, 0, 5, 1, 3);
        due("comes too late", x.comes(5), -3);
        x.days(1);
        due("comes a day nearer", x.comes(5), 60);
        x = told(1, 7, 9, 1, 0, 7, 6, 0, 2, 6, 1, 0, 1, 9, 8, 0, 0, 6, 4, 0, 3, 0, 1, 3);
        due("calm at last", x.calm(), 60);
        x.days(60);
        due("no fear", x.state(3), 0);
        x = told(1, 9, 1, 0, 0, 8, 9, 4, 2, 0, 9, 0, 6, 9, 9, 8, 0, 0, 9, 0, 1, 7, 1, 8);
        due("calm too late", x.calm(), -3);
        x.days(1);
        due("calm a day nearer", x.calm(), 60);
        x = told(5, 6, 1, 0, 6, 9, 7, 0, 7, 0, 6, 0, 4, 4, 7, 0, 1, 2, 0, 2);
        due("scared at last", x.scared(0), 60);
        x.days(60);
        due("fear 9", x.of(0, 2), 9);
        x = told(5, 4, 2, 5, 9, 9, 2, 0, 4, 0, 1, 0, 0, 0, 8, 0, 0, 7, 7, 7);
        due("scared too late", x.scared(0), -3);
        x.days(1);
        due("scared a day nearer", x.scared(0), 60);
    }

    private static void promise27CallFor() {
        checks.about("promise 27");
        DogVotes x = new DogVotes();
        due("2 days: at 2 by a call to 2 or further", x.callFor(3, 2), 3);
        due("3 days", x.callFor(3, 3), 4);
        due("20 days", x.callFor(5, 20), 6);
        due("no call", x.callFor(0, 5), 0);
        due("nearest in one day", x.callFor(5, 1), 2);
        x.call(4);
        due("told instead of the call", x.callFor(0, 4), 0);
        due("the call stays", x.call(4), 4);
        x.set(1, 0);
        due("whistle of nothing", x.callFor(3, 3), 0);
        int[][] bad = {{-1, 1}, {6, 1}, {0, 0}, {0, 21}};
        for (int[] b : bad) {
            due("bad callFor", x.callFor(b[0], b[1]), -1);
        }
    }

    private static void promise28KindFor() {
        checks.about("promise 28");
        DogVotes x = new DogVotes();
        x.sheep(EWE, 9, 0, 3);
        // A ewe goes to 0, 1, 2 after grass; a hogg to its look; a wether counts nothing.
        due("kindFor(0, 3, 3)", x.kindFor(0, 3, 3), HOGG);
        due("kindFor(0, 0, 3)", x.kindFor(0, 0, 3), WETHER);
        due("kindFor(0, 2, 3)", x.kindFor(0, 2, 3), EWE);
        due("kindFor(0, 0, 1)", x.kindFor(0, 0, 1), EWE);
        due("20 days: a wether stays", x.kindFor(0, 0, 20) <= WETHER ? 1 : 0, 1);
        due("nothing changed", x.of(0, 0), EWE);
        int[][] bad = {{1, 0, 1}, {-1, 0, 1}, {0, 6, 1}, {0, -1, 1}, {0, 0, 0}, {0, 0, 21}};
        for (int[] b : bad) {
            due("bad kindFor", x.kindFor(b[0], b[1], b[2]), -1);
        }
    }

    private static void promise29EarFor() {
        checks.about("promise 29");
        DogVotes x = new DogVotes();
        x.sheep(HOGG, 0, 0, 3);
        due("earFor(0, 3, 3)", x.earFor(0, 3, 3), 1);
        due("earFor(0, 0, 1)", x.earFor(0, 0, 1), 0);
        due("earFor(0, 1, 1)", x.earFor(0, 1, 1), 1);
        due("earFor(0, 5, 1)", x.earFor(0, 5, 1), -3);
        due("20 days", x.earFor(0, 3, 20) >= 0 ? 1 : 0, 1);
        x.grow(3, 0, 1);
        // 2 and EAR against 10 where the flock is.
        due("a long ear", x.earFor(0, 1, 1), 9);
        due("nothing changed", x.of(0, 1), 0);
        int[][] bad = {{1, 0, 1}, {-1, 0, 1}, {0, 6, 1}, {0, -1, 1}, {0, 0, 0}, {0, 0, 21}};
        for (int[] b : bad) {
            due("bad earFor", x.earFor(b[0], b[1], b[2]), -1);
        }
    }

    private static void promise30LooksFor() {
        checks.about("promise 30");
        DogVotes x = new DogVotes();
        due("without sheep", x.looksFor(0), 0);
        due("without sheep", x.looksFor(1), -3);
        for (int one = 0; one < 3; one++) {
            x.sheep(HOGG, 9, 0, 0);
        }
        due("as it is", x.looksFor(0), 0);
        // Each counts 2 as long as the flock is at its look: two for 3 are 2 against 2.
        due("all three", x.looksFor(3), 7);
        x.flock(2);
        due("two of three, the least set", x.looksFor(3), 3);
        x.mind(0, EWE, 9);
        due("a ewe does not look", x.looksFor(3), 6);
        x.mind(1, EWE, 9);
        due("by no set", x.looksFor(3), -3);
        x.mind(0, WETHER, 9);
        due("one against one: the nearest", x.looksFor(3), 4);
        due("nothing changed", x.of(2, 3), 0);
        due("bad", x.looksFor(6), -1);
        due("bad", x.looksFor(-1), -1);
    }

    private static void promise31DeafFor() {
        checks.about("promise 31");
        DogVotes x = new DogVotes();
        due("without sheep", x.deafFor(0), 0);
        due("without sheep", x.deafFor(1), -3);
        x.sheep(HOGG, 9, 0, 5);
        x.sheep(HOGG, 9, 0, 5);
        x.sheep(HOGG, 9, 0, 3);
        due("as it is", x.deafFor(5), 0);
        due("one of two, the least", x.deafFor(3), 1);
        due("all", x.deafFor(0), 7);
        due("by no set", x.deafFor(1), -3);
        x.looksFor(4);
        due("looks asked for before count nothing here", x.deafFor(0), 7);
        x.call(2);
        due("2 votes each: the nearest", x.deafFor(1), 0);
        due("the whistle is heard all the same", x.deafFor(5), -3);
        due("not where it is", x.deafFor(0), -3);
        due("bad", x.deafFor(6), -1);
        due("bad", x.deafFor(-1), -1);
    }

    /** Three that count one each: 1 over 2 over 3, 2 over 3 over 1, 3 over 1 over 2. */
    private static DogVotes ringed() {
        DogVotes x = new DogVotes();
        int[] grass = {0, 6, 5, 7, 0, 0};
        int[] risk = {9, 3, 0, 4, 9, 9};
        for (int place = 0; place < 6; place++) {
            x.grow(place, 0, grass[place]);
            x.grow(place, 1, risk[place]);
        }
        x.flock(2);
        x.sheep(HOGG, 9, 3, 1);
        x.sheep(EWE, 0, 3, 0);
        x.sheep(TUP, 0, 0, 0);
        return x;
    }

    private static void promise32To35Ring() {
        checks.about("promises 32 to 35");
        DogVotes x = ringed();
        int[] beaten = {1, 2, 2, 3, 3, 1};
        for (int i = 0; i < 6; i += 2) {
            due("beats", x.beats(beaten[i], beaten[i + 1]), 1);
            due("is beaten", x.beats(beaten[i + 1], beaten[i]), 0);
        }
        due("alike", x.beats(0, 4), 0);
        due("nearer", x.beats(0, 5), 1);
        due("ring()", x.ring(), 123);
        due("asked(12345)", x.asked(12345), 3);
        due("asked(23145)", x.asked(23145), 1);
        due("asked(13245)", x.asked(13245), 2);
        due("asked(540231)", x.asked(540231), 1);
        int[] least = {-3, 23145, 13245, 12345, -3, -3};
        for (int place = 0; place < 6; place++) {
            due("agenda(" + place + ", 0)", x.agenda(place, 0), least[place] < 0 ? 0 : 240);
            due("agenda(" + place + ", 1)", x.agenda(place, 1), least[place]);
        }
        x.mind(2, WETHER, 0);
        due("no ring of two", x.ring(), -3);
        int[][] bad = {{-1, 0}, {6, 0}, {0, -1}, {0, 6}, {2, 2}};
        for (int[] b : bad) {
            due("bad beats", x.beats(b[0], b[1]), -1);
        }
    }

    private static void promise32To34WithoutSheep() {
        checks.about("promises 32 to 34, without sheep");
        DogVotes x = new DogVotes();
        due("beats", x.beats(0, 1), 0);
        due("the first one stands", x.asked(543210), 5);
        due("the first one stands", x.asked(12345), 0);
        int[] bad = {-1, 12344, 12346, 1234, 543211, 612345, 999999, 1012345, Integer.MIN_VALUE, Integer.MAX_VALUE};
        for (int order : bad) {
            due("asked(" + order + ")", x.asked(order), -1);
        }
        for (int place = 0; place < 6; place++) {
            due("agenda", x.agenda(place, 0), 120);
        }
        due("agenda(0, 1)", x.agenda(0, 1), 12345);
        due("agenda(5, 1)", x.agenda(5, 1), 501234);
        due("agenda(6, 0)", x.agenda(6, 0), -1);
        due("agenda(-1, 0)", x.agenda(-1, 0), -1);
        due("agenda(0, 2)", x.agenda(0, 2), -1);
        due("agenda(0, -1)", x.agenda(0, -1), -1);
        due("ring()", x.ring(), -3);
        x.sheep(EWE, 0, 0, 0);
        x.grow(4, 0, 9);
        due("one for 4", x.agenda(4, 0), 720);
        due("one for 4", x.agenda(3, 0), 0);
    }

    private static void promise36Sham() {
        checks.about("promise 36");
        DogVotes x = new DogVotes();
        x.sheep(HOGG, 9, 0, 5);
        x.sheep(HOGG, 9, 0, 4);
        x.sheep(HOGG, 9, 0, 1);
        x.grow(4, 0, 7);
        due("one each: the nearest", x.winner(), 1);
        due("4 is better for the first than 1", x.sham(0), 4);
        due("the second can get nothing better", x.sham(1), -3);
        due("the third has what it likes", x.sham(2), -3);
        x.mind(0, WETHER, 9);
        due("a wether moves nothing", x.sham(0), -3);
        x.mind(0, HOGG, 9);
        x.mind(1, HOGG, 9);
        x.look(1, 0);
        x.look(2, 3);
        x.flock(2);
        x.grow(0, 0, 7);
        due("for place 0", x.sham(0), 0);
        due("no such one", x.sham(3), -1);
        due("no such one", x.sham(-1), -1);
    }

    private static void promise37Power() {
        checks.about("promise 37");
        DogVotes x = new DogVotes();
        x.sheep(WETHER, 0, 0, 0);
        due("all count nothing", x.power(0, 0), 0);
        due("0 by 1", x.power(0, 1), 1);
        x.mind(0, EWE, 0);
        due("alone", x.power(0, 0), 1);
        due("alone", x.power(0, 1), 1);
        x.sheep(EWE, 0, 0, 0);
        x.sheep(BELLWETHER, 0, 0, 0);
        // Of 4: the bellwether turns it unless it is first, where 2 are no more than half.
        due("a ewe", x.power(0, 0), 1);
        due("a ewe", x.power(0, 1), 6);
        due("the bellwether", x.power(2, 0), 2);
        due("the bellwether", x.power(2, 1), 3);
        due("no such one", x.power(3, 0), -1);
        due("no such one", x.power(-1, 0), -1);
        due("no such part", x.power(0, 2), -1);
        due("no such part", x.power(0, -1), -1);
        DogVotes y = new DogVotes();
        for (int one = 0; one < 8; one++) {
            y.sheep(EWE, 0, 0, 0);
        }
        due("one of eight", y.power(7, 0), 1);
        due("one of eight", y.power(7, 1), 8);
    }

    private static void promise38Fits() {
        checks.about("promise 38");
        DogVotes x = new DogVotes();
        x.sheep(EWE, 0, 0, 0);
        x.sheep(WETHER, 0, 0, 0);
        x.grow(3, 0, 7);
        // Place 3 is worth 14 less 3 thirds of FEAR, place 0 is worth 10: FEAR up to 5 goes.
        for (int sort = 0; sort < 4; sort++) {
            x.sheet(0, sort, 1);
            dueFits(x, 1, 6, 0);
            dueFits(x, 0, 4, 6);
            dueFits(x, -1, 10, 0);
            dueFits(x, 2, 0, -3);
            dueFits(x, -2, 0, -3);
            dueFits(x, 7, 0, -3);
        }
        x.sheet(0, 0, 2);
        x.put(0, 0, -1);
        x.put(0, 1, 2);
        due("any, then 2", x.fits(0, 0, 0), 6);
        x.sheet(0, 2, 0);
        due("nothing told", x.fits(0, 0, 0), 10);
        due("nothing told", x.fits(0, 0, 1), 0);
        due("a wether's fear moves nothing", x.fits(0, 1, 0), 10);
        due("missing", x.fits(1, 0, 0), -11);
        due("BAD before missing", x.fits(1, 2, 0), -1);
        int[][] bad = {{-1, 0, 0}, {4, 0, 0}, {0, 2, 0}, {0, -1, 0}, {0, 0, 2}, {0, 0, -1}};
        for (int[] b : bad) {
            due("bad fits", x.fits(b[0], b[1], b[2]), -1);
        }
        due("nothing changed", x.of(0, 2), 0);
    }

    private static void dueFits(DogVotes x, int told, int many, int least) {
        x.put(0, 0, told);
        due("fits of " + told, x.fits(0, 0, 0), many);
        due("least of " + told, x.fits(0, 0, 1), least);
    }

    private static void promise39Odds() {
        checks.about("promise 39");
        DogVotes x = new DogVotes();
        dueOdds(x, 3, 1, 48, 125);
        dueOdds(x, 8, 8, 1, 390625);
        dueOdds(x, 0, 0, 1, 1);
        dueOdds(x, 1, 0, 4, 5);
        x.set(3, 50);
        dueOdds(x, 2, 1, 1, 2);
        dueOdds(x, 8, 4, 35, 128);
        x.set(3, 99);
        dueOdds(x, 8, 4, 672417207L, 1000000000000000L);
        x.set(3, 0);
        dueOdds(x, 4, 0, 1, 1);
        dueOdds(x, 4, 1, 0, 1);
        int[][] bad = {{-1, 0, 0}, {9, 0, 0}, {3, -1, 0}, {3, 4, 0}, {3, 1, 2}, {3, 1, -1}};
        for (int[] b : bad) {
            due("bad odds", x.odds(b[0], b[1], b[2]), -1);
        }
    }

    private static void dueOdds(DogVotes x, int n, int k, long above, long below) {
        due("odds(" + n + ", " + k + ", 0)", x.odds(n, k, 0), above);
        due("odds(" + n + ", " + k + ", 1)", x.odds(n, k, 1), below);
    }

    private static void promise40Hope() {
        checks.about("promise 40");
        DogVotes x = new DogVotes();
        due("hope(5, 0)", x.hope(5, 0), 1);
        due("hope(5, 1)", x.hope(5, 1), 1);
        due("hope(7, 0)", x.hope(7, 0), 7);
        due("hope(7, 1)", x.hope(7, 1), 5);
        due("hope(0, 0)", x.hope(0, 0), 0);
        due("hope(0, 1)", x.hope(0, 1), 1);
        x.set(3, 99);
        due("hope(99, 0)", x.hope(99, 0), 9801);
        due("hope(99, 1)", x.hope(99, 1), 100);
        int[][] bad = {{-1, 0}, {100, 0}, {1, 2}, {1, -1}};
        for (int[] b : bad) {
            due("bad hope", x.hope(b[0], b[1]), -1);
        }
    }

    private static void promise41To44Rows() {
        checks.about("promises 41 to 44");
        DogVotes x = toThree();
        due("judge without rows", x.judge(0), 0);
        due("prove(0, 4)", x.prove(0, 4), 4);
        int[][] want = {{0, 3, 1}, {0, 3, 2}, {0, 3, 3}, {0, 3, 3}};
        for (int i = 0; i < 4; i++) {
            for (int what = 0; what < 3; what++) {
                due("row(" + i + ", " + what + ")", x.row(i, what), want[i][what]);
            }
        }
        due("many(4)", x.many(4), 4);
        due("nothing changed", x.state(0), 0);
        due("all right", x.judge(0), 0);
        for (int what = 0; what < 3; what++) {
            int was = want[2][what];
            due("alterRow", x.alterRow(2, what, -7), was);
            due("row", x.row(2, what), -7);
            due("the third is wrong", x.judge(0), 3);
            due("alterRow back", x.alterRow(2, what, was), -7);
        }
        x.alterRow(3, 0, 5);
        x.alterRow(0, 0, 5);
        due("the first of several", x.judge(0), 1);
        int[][] none = {{-1, 0}, {4, 0}, {0, -1}, {0, 3}};
        for (int[] b : none) {
            due("no such row", x.row(b[0], b[1]), -9);
            due("no such row", x.alterRow(b[0], b[1], 1), -9);
        }
        int[][] bad = {{-1, 1}, {1, 1}, {0, 0}, {0, 11}};
        for (int[] b : bad) {
            due("bad prove", x.prove(b[0], b[1]), -1);
        }
        due("rows are as before", x.many(4), 4);
        due("judge(1)", x.judge(1), -1);
        due("judge(-1)", x.judge(-1), -1);
        due("prove(0, 10)", x.prove(0, 10), 10);
        x.days(1);
        due("from how it is now", x.judge(0), 1);
        due("prove(0, 1)", x.prove(0, 1), 1);
        due("the rows are new ones", x.row(1, 0), -9);
        x.sheep(TUP, 0, 5, 0);
        due("another one's fear", x.judge(1), 1);
    }

    private static void nothingChanges() {
        checks.about("what is tried");
        DogVotes x = ringed();
        x.set(3, 99);
        x.where(60);
        x.comes(0);
        x.calm();
        x.scared(0);
        x.callFor(5, 20);
        x.kindFor(0, 5, 20);
        x.earFor(0, 5, 20);
        x.looksFor(5);
        x.deafFor(5);
        x.sham(0);
        x.power(0, 0);
        x.strays(30);
        x.prove(0, 10);
        x.judge(0);
        DogVotes y = ringed();
        for (int one = 0; one < 3; one++) {
            for (int what = 0; what < 6; what++) {
                due("of(" + one + ", " + what + ")", x.of(one, what), y.of(one, what));
            }
        }
        for (int place = 0; place < 6; place++) {
            for (int what = 0; what < 4; what++) {
                due("place(" + place + ", " + what + ")", x.place(place, what), y.place(place, what));
            }
        }
        for (int what = 0; what < 6; what++) {
            due("state(" + what + ")", x.state(what), y.state(what));
        }
        due("call", x.call(0), 0);
        due("seed", x.seed(0), 1);
    }
}
