import java.util.Random;

/** Random runs of calls on DogVotes and on PlainModel, which must answer the same. */
public final class ModelTests {
    private static final int RUNS = 2000;
    private static final int STEPS = 100;

    private final Random random;
    private final Checks checks;
    private final DogVotes x = new DogVotes();
    private final PlainModel m = new PlainModel();

    private ModelTests(int run, Checks checks) {
        this.random = new Random(run * 7919L + 17);
        this.checks = checks;
    }

    public static void main(String[] args) {
        Checks checks = new Checks();
        for (int run = 0; run < RUNS; run++) {
            checks.about("run " + run);
            ModelTests one = new ModelTests(run, checks);
            if (run % 5 != 0) {
                one.begin();
            }
            for (int i = 0; i < STEPS; i++) {
                one.step(run % 3 == 0);
            }
        }
        checks.close();
    }

    /** A hill with many different things in it, without a refusal. */
    private void begin() {
        for (int i = random.nextInt(5) + 4; i > 0; i--) {
            int k = random.nextInt(6), e = random.nextInt(10), f = random.nextInt(10), p = random.nextInt(6);
            due("sheep " + k + " " + e + " " + f + " " + p, x.sheep(k, e, f, p), m.sheep(k, e, f, p));
        }
        for (int p = 0; p < 6; p++) {
            int grass = random.nextInt(10), risk = random.nextInt(10);
            due("grow " + p + " 0 " + grass, x.grow(p, 0, grass), m.grow(p, 0, grass));
            due("grow " + p + " 1 " + risk, x.grow(p, 1, risk), m.grow(p, 1, risk));
        }
        for (int i = 0; i < 4; i++) {
            int n = random.nextInt(7), one = random.nextInt(4);
            due("sheet " + i + " " + i, x.sheet(i, i, n), m.sheet(i, i, n));
            due("shelf " + i + " 0 " + one, x.shelf(i, 0, one), m.shelf(i, 0, one));
            for (int k = 0; k < n; k++) {
                int v = random.nextInt(3) == 0 ? -1 : x.where(k + 1);
                due("put " + i + " " + k + " " + v, x.put(i, k, v), m.put(i, k, v));
            }
        }
        int call = random.nextInt(7), at = random.nextInt(6);
        due("call " + call, x.call(call), m.call(call));
        due("flock " + at, x.flock(at), m.flock(at));
    }

    /** A number from 0 to most; seldom one beside it. */
    private int upTo(int most) {
        int luck = random.nextInt(60);
        if (luck == 0) return -1;
        if (luck == 1) return most + 1;
        if (luck == 2) return random.nextInt();
        return random.nextInt(most + 1);
    }

    private int anyInt() {
        return random.nextInt(4) == 0 ? random.nextInt() : random.nextInt(40) - 20;
    }

    private int aSheep() { return upTo(Math.max(0, x.many(0) - 1)); }
    private int aPlace() { return upTo(5); }

    private void due(String call, long got, long want) { checks.due(call, got, want); }

    private void step(boolean wild) {
        int kinds = random.nextInt(100);
        if (kinds < 29) change(wild);
        else if (kinds < (wild ? 34 : 30)) text();
        else if (kinds < 50) look();
        else if (kinds < 75) tried();
        else things();
    }

    private void change(boolean wild) {
        int a = aSheep(), b = upTo(9), p = aPlace(), k = upTo(5), e = upTo(9), f = upTo(9);
        switch (random.nextInt(wild ? 16 : 13)) {
            case 0: case 1: case 2:
                due("sheep " + k + " " + e + " " + f + " " + p, x.sheep(k, e, f, p), m.sheep(k, e, f, p));
                break;
            case 3: { int law = upTo(3), v = upTo(law == 3 ? 99 : 9); due("set " + law + " " + v, x.set(law, v), m.set(law, v)); break; }
            case 4: due("mind " + a + " " + k + " " + e, x.mind(a, k, e), m.mind(a, k, e)); break;
            case 5: due("fear " + a + " " + f, x.fear(a, f), m.fear(a, f)); break;
            case 6: due("look " + a + " " + p, x.look(a, p), m.look(a, p)); break;
            case 7: case 8: { int what = upTo(1); due("grow " + p + " " + what + " " + b, x.grow(p, what, b), m.grow(p, what, b)); break; }
            case 9: due("flock " + p, x.flock(p), m.flock(p)); break;
            case 10: { int v = upTo(6); due("call " + v, x.call(v), m.call(v)); break; }
            case 11: { int v = anyInt(); due("seed " + v, x.seed(v), m.seed(v)); break; }
            case 12: due("keep", x.keep(), m.keep()); break;
            case 13: due("again", x.again(), m.again()); break;
            case 14: { int n = upTo(60); due("days " + n, x.days(n), m.days(n)); break; }
            default: due("day", x.day(), m.day()); break;
        }
    }

    private static final String[] WORDS = {"ewe", "hogg", "wether", "gimmer", "bellwether", "tup", "ear", "fear", "look",
        "grass", "risk", "flock", "call", "river", "whistle", "food", "wrong", "is", ";", ";", " ", "3", "7", "05", "100", "0009", "x", "#", "\u00e9", "\n", "A"};
    private static final String[] KINDS = {"ewe", "hogg", "wether", "gimmer", "bellwether", "tup"};
    private static final String[] LAWS = {"river", "whistle", "food", "wrong"};

    private String blanks(int least) {
        return " ".repeat(least + (random.nextInt(5) == 0 ? random.nextInt(3) : 0));
    }

    private String number(int most) {
        return (random.nextInt(6) == 0 ? "0" : "") + random.nextInt(most + 1 + random.nextInt(30) / 29);
    }

    private String statement() {
        StringBuilder s = new StringBuilder(blanks(0));
        switch (random.nextInt(9)) {
            case 0: s.append(random.nextBoolean() ? "grass" : "risk").append(blanks(1)).append(number(5)).append(blanks(1)).append("is").append(blanks(1)).append(number(9)); break;
            case 1: s.append(random.nextBoolean() ? "flock" : "call").append(blanks(1)).append(number(5)); break;
            case 2: { int law = random.nextInt(4); s.append(LAWS[law]).append(blanks(random.nextInt(2))).append(number(law == 3 ? 99 : 9)); break; }
            default:
                s.append(KINDS[random.nextInt(6)]);
                if (random.nextInt(2) == 0) s.append(blanks(1)).append("ear").append(blanks(1)).append(number(9));
                if (random.nextInt(3) == 0) s.append(blanks(1)).append("fear").append(blanks(random.nextInt(2))).append(number(9));
                if (random.nextInt(2) == 0) s.append(blanks(1)).append("look").append(blanks(1)).append(number(5));
                break;
        }
        return s.append(blanks(0)).append(";").toString();
    }

    private void text() {
        StringBuilder s = new StringBuilder();
        int statements = random.nextInt(9);
        for (int i = 0; i < statements; i++) s.append(statement());
        if (random.nextInt(4) == 0) {
            int at = random.nextInt(s.length() + 1);
            String word = WORDS[random.nextInt(WORDS.length)];
            if (random.nextBoolean()) s.insert(at, word); else s.setLength(at);
        }
        int most = Math.min(s.length(), 220);
        for (int i = 0; i < most; i += 8) {
            int n = Math.min(8, most - i);
            long eight = random.nextInt(3) == 0 && n < 8 ? random.nextLong() << 8 * n : 0;
            for (int k = 0; k < n; k++) eight |= (long) (s.charAt(i + k) & 255) << 8 * k;
            due("feed", x.feed(eight, n), m.feed(eight, n));
        }
        if (random.nextInt(10) == 0) {
            int n = upTo(9);
            due("feed " + n, x.feed(-1L, n), m.feed(-1L, n));
        }
        due("hill <" + s + ">", x.hill(), m.hill());
    }

    private void look() {
        int s = aSheep(), p = aPlace();
        switch (random.nextInt(8)) {
            case 0: for (int what = -1; what < 7; what++) due("of " + s + " " + what, x.of(s, what), m.of(s, what)); break;
            case 1: for (int q = 0; q < 6; q++) due("worth " + s + " " + q, x.worth(s, q), m.worth(s, q)); due("worth " + s + " " + p, x.worth(s, p), m.worth(s, p)); break;
            case 2: due("tames " + s, x.tames(s), m.tames(s)); break;
            case 3: for (int what = -1; what < 5; what++) due("place " + p + " " + what, x.place(p, what), m.place(p, what)); break;
            case 4: due("winner", x.winner(), m.winner()); break;
            case 5: for (int what = -1; what < 7; what++) due("state " + what, x.state(what), m.state(what)); break;
            case 6: for (int what = -1; what < 8; what++) due("many " + what, x.many(what), m.many(what)); break;
            default: { int law = upTo(3); due("lawOf " + law, x.lawOf(law), m.lawOf(law)); break; }
        }
    }

    private void tried() {
        int s = aSheep(), p = aPlace(), q = aPlace(), n = upTo(20), part = upTo(1);
        switch (random.nextInt(20)) {
            case 0: { int k = upTo(30); due("strays " + k, x.strays(k), m.strays(k)); break; }
            case 1: { int k = upTo(60); due("where " + k, x.where(k), m.where(k)); break; }
            case 2: due("comes " + p, x.comes(p), m.comes(p)); break;
            case 3: due("calm", x.calm(), m.calm()); break;
            case 4: due("scared " + s, x.scared(s), m.scared(s)); break;
            case 5: due("callFor " + p + " " + n, x.callFor(p, n), m.callFor(p, n)); break;
            case 6: due("kindFor " + s + " " + p + " " + n, x.kindFor(s, p, n), m.kindFor(s, p, n)); break;
            case 7: due("earFor " + s + " " + p + " " + n, x.earFor(s, p, n), m.earFor(s, p, n)); break;
            case 8: due("looksFor " + p, x.looksFor(p), m.looksFor(p)); break;
            case 9: due("deafFor " + p, x.deafFor(p), m.deafFor(p)); break;
            case 10: due("beats " + p + " " + q, x.beats(p, q), m.beats(p, q)); break;
            case 11: { int order = order(); due("asked " + order, x.asked(order), m.asked(order)); break; }
            case 12: due("agenda " + p + " " + part, x.agenda(p, part), m.agenda(p, part)); break;
            case 13: due("ring", x.ring(), m.ring()); break;
            case 14: due("sham " + s, x.sham(s), m.sham(s)); break;
            case 15: due("power " + s + " " + part, x.power(s, part), m.power(s, part)); break;
            case 16: { int k = upTo(8), j = upTo(Math.max(k, 0) % 10); due("odds " + k + " " + j, x.odds(k, j, part), m.odds(k, j, part)); break; }
            case 17: { int k = upTo(99); due("hope " + k, x.hope(k, part), m.hope(k, part)); break; }
            case 18: { int k = upTo(10); due("prove " + s + " " + k, x.prove(s, k), m.prove(s, k)); break; }
            default: due("judge " + s, x.judge(s), m.judge(s)); break;
        }
    }

    private int order() {
        if (random.nextInt(5) == 0) return random.nextInt(700000) - 10;
        return Integer.parseInt(PlainModel.ORDERS.get(random.nextInt(720)));
    }

    private void things() {
        int sh = upTo(3), s = aSheep(), i = upTo(10), what = upTo(2), v = anyInt();
        switch (random.nextInt(12)) {
            case 0: due("row", x.row(i, what), m.row(i, what)); break;
            case 1: due("alterRow", x.alterRow(i, what, v), m.alterRow(i, what, v)); break;
            case 2: { int n = upTo(8); due("minds", x.minds(sh, i, s, n), m.minds(sh, i, s, n)); break; }
            case 3: { int sort = upTo(4) - 1, n = random.nextInt(3) == 0 ? upTo(40) : upTo(6); due("sheet", x.sheet(sh, sort, n), m.sheet(sh, sort, n)); break; }
            case 4: { int to = random.nextInt(3) == 0 ? v : x.where(Math.abs(i % 10)); due("put", x.put(sh, i, to), m.put(sh, i, to)); break; }
            case 5: { int sort = upTo(3); due("item", x.item(sh, sort, i), m.item(sh, sort, i)); break; }
            case 6: { int n = what == 0 ? s : upTo(3); due("shelf", x.shelf(sh, what, n), m.shelf(sh, what, n)); break; }
            case 7: { int as = upTo(13); due("taken " + sh + " " + as, x.taken(sh, as), m.taken(sh, as)); break; }
            case 8: case 9: {
                int act = upTo(3);
                due("act " + sh + " " + act + " " + v, x.act(sh, act, v), m.act(sh, act, v));
                for (int k = -1; k < 13; k++) due("trace " + k, x.trace(k), m.trace(k));
                break;
            }
            case 10: { int w = upTo(1); due("fits", x.fits(sh, s, w), m.fits(sh, s, w)); break; }
            default:
                for (int k = 0; k < 12; k++) for (int j = 0; j < 3; j++) due("row " + k + " " + j, x.row(k, j), m.row(k, j));
                break;
        }
    }
}
