import java.math.BigInteger;
import java.util.ArrayDeque;
import java.util.ArrayList;
import java.util.Deque;
import java.util.List;
import java.util.function.Consumer;
import java.util.regex.Matcher;
import java.util.regex.Pattern;

/** The document told a second time, naively and with the whole Java library, to compare DogVotes with. */
final class PlainModel {
    static final int BAD = -1, FULL = -2, NONE = -3;

    static class Ewe {
        int number, ear, fear, look;
        List<Integer> ran = new ArrayList<>();

        int kind() { return 0; }
        int worth(World w, int p) { return w.grass[p] * 2 - w.risk[p] - (fear / 3) * Math.abs(p - w.flock); }
        int counts(World w) { return 1; }
        int tames() { return 1; }
        int asks(int x) { ran.add(10); return x * 2 - number; }
        int bleats(int x) { ran.add(11); return asks(x) + ear; }
        int turns(int x) { ran.add(12); return x / (ear - number); }
        int leads(int x) { ran.add(13); return bleats(x) ^ 6; }
    }

    static class Hogg extends Ewe {
        int kind() { return 1; }
        int worth(World w, int p) { return super.worth(w, p) + (p == look ? ear : 0); }
        int counts(World w) { return super.counts(w) + (w.flock == look ? 1 : 0); }
        int tames() { return super.tames() + 1; }
        int bleats(int x) { ran.add(20); return super.bleats(x) - 4; }
    }

    static class Wether extends Ewe {
        int kind() { return 2; }
        int worth(World w, int p) { return super.worth(w, p) / 2; }
        int counts(World w) { return 0; }
        int tames() { return super.tames() * 3; }
        int asks(int x) { ran.add(30); return 0 - super.asks(x); }
        int leads(int x) { ran.add(31); return super.leads(x) + turns(number); }
    }

    static class Gimmer extends Hogg {
        int kind() { return 3; }
        int worth(World w, int p) { return super.worth(w, p) - (p == 5 ? w.laws[0] : 0); }
        int counts(World w) { return super.counts(w) * 2; }
        int tames() { return super.tames() - 3; }
        int turns(int x) { ran.add(50); return super.turns(x - 7) + ear; }
        int asks(int x) { ran.add(51); return super.asks(x) + 1; }
    }

    static class Bellwether extends Wether {
        int kind() { return 4; }
        int worth(World w, int p) { return super.worth(w, p) + (p + 1 == w.call ? ear : 0); }
        int counts(World w) { return super.counts(w) + 2; }
        int asks(int x) { ran.add(40); return super.asks(x) * 3; }
        int bleats(int x) { ran.add(41); return super.bleats(x) ^ asks(ear); }
    }

    static class Tup extends Ewe {
        int kind() { return 5; }
        int worth(World w, int p) { return super.worth(w, p) + w.grass[p] + w.risk[p]; }
        int counts(World w) { return super.counts(w) + (w.grass[w.flock] < 3 ? 2 : 0); }
        int tames() { return 0; }
        int leads(int x) { ran.add(60); return 100 - super.leads(x); }
        int turns(int x) { ran.add(61); return super.turns(x) - asks(number); }
    }

    static Ewe make(int kind, int number, int ear, int fear, int look) {
        Ewe one = List.<Ewe>of(new Ewe(), new Hogg(), new Wether(), new Gimmer(), new Bellwether(), new Tup()).get(kind);
        one.number = number;
        one.ear = ear;
        one.fear = fear;
        one.look = look;
        return one;
    }

    static final class World {
        int[] laws = {3, 2, 1, 20};
        int[] grass = {5, 5, 5, 5, 5, 5};
        int[] risk = new int[6];
        List<Ewe> sheep = new ArrayList<>();
        int flock, call, day, z = 1;

        World copy() {
            World c = new World();
            c.laws = laws.clone();
            c.grass = grass.clone();
            c.risk = risk.clone();
            for (Ewe s : sheep) c.sheep.add(make(s.kind(), s.number, s.ear, s.fear, s.look));
            c.flock = flock;
            c.call = call;
            c.day = day;
            c.z = z;
            return c;
        }

        int vote(Ewe s) {
            int max = Integer.MIN_VALUE;
            for (int p = 0; p < 6; p++) max = Math.max(max, s.worth(this, p));
            for (int p = 0; p < 6; p++) if (s.worth(this, p) == max) return p;
            return 99;
        }

        int[] votes(Ewe shamming, int shamVote, int deaf) {
            int[] v = new int[6];
            for (Ewe s : sheep) {
                if ((deaf >> s.number & 1) == 0) v[s == shamming ? shamVote : vote(s)] += s.counts(this);
            }
            if (call > 0) v[call - 1] += laws[1];
            return v;
        }

        int winner(int[] v) {
            int max = 0;
            for (int x : v) max = Math.max(max, x);
            for (int off = 0; off < 6; off++) {
                for (int p = 0; p < 6; p++) if (v[p] == max && Math.abs(p - flock) == off) return p;
            }
            return 99;
        }

        int winner() { return winner(votes(null, 0, 0)); }

        World after(int n) {
            World c = copy();
            for (int i = 0; i < n; i++) c.pass();
            return c;
        }

        void pass() {
            flock += Integer.signum(winner() - flock);
            for (int p = 0; p < 6; p++) {
                if (p == flock) grass[p] = Math.max(0, grass[p] - laws[2]);
                else grass[p] = Math.min(9, grass[p] + 1);
            }
            for (Ewe s : sheep) {
                if (risk[flock] > s.fear) s.fear = Math.min(9, s.fear + 1);
                else s.fear = Math.min(9, Math.max(0, s.fear - s.tames()));
            }
            day++;
        }

        int draw() {
            z = z * 1103515245 + 12345;
            return z >>> 16;
        }

        void passByDraws() {
            if (!sheep.isEmpty()) {
                Ewe s = sheep.get(draw() % sheep.size());
                boolean wrong = draw() % 100 < laws[3];
                if (wrong) s.look = draw() % 6;
            }
            pass();
        }

        boolean beats(int p, int q) {
            int forP = 0, forQ = 0;
            for (Ewe s : sheep) {
                if (s.worth(this, p) > s.worth(this, q)) forP += s.counts(this);
                if (s.worth(this, q) > s.worth(this, p)) forQ += s.counts(this);
            }
            return forP > forQ;
        }
    }

    World w = new World();
    World kept = null;
    List<Integer> tape = new ArrayList<>();
    List<int[]> rows = new ArrayList<>();
    Object[] sheets = new Object[4];
    Object[] shelves = new Object[4];
    List<Integer> trace = new ArrayList<>();

    boolean one(int s) { return s >= 0 && s < w.sheep.size(); }
    static boolean in(int v, int least, int most) { return v >= least && v <= most; }

    int feed(long eight, int n) {
        if (!in(n, 1, 8)) return BAD;
        if (tape.size() + n > 200) return FULL;
        for (int i = 0; i < n; i++) {
            tape.add((int) (eight & 0xFF));
            eight >>= 8;
        }
        return tape.size();
    }

    static final class Fault extends RuntimeException {
        private static final long serialVersionUID = 1;

        final int at;
        Fault(int at) { this.at = at; }
    }

    static final class Token {
        final String text;
        final int at;
        Token(String text, int at) { this.text = text; this.at = at; }
    }

    static Deque<Token> tokens(List<Integer> bytes) {
        StringBuilder b = new StringBuilder();
        for (int x : bytes) b.append((char) x);
        Deque<Token> list = new ArrayDeque<>();
        Matcher m = Pattern.compile("[a-z]+|[0-9]+|[^ ]", Pattern.DOTALL).matcher(b);
        while (m.find()) list.add(new Token(m.group(), m.start()));
        list.add(new Token("", bytes.size()));
        return list;
    }

    static int number(Deque<Token> t, int most) {
        Token x = t.remove();
        if (!x.text.matches("[0-9]{1,3}") || Integer.parseInt(x.text) > most) throw new Fault(x.at);
        return Integer.parseInt(x.text);
    }

    static int option(Deque<Token> t, String name, int most) {
        if (!t.peek().text.equals(name)) return 0;
        t.remove();
        return number(t, most);
    }

    static void must(Deque<Token> t, String text) {
        Token x = t.remove();
        if (!x.text.equals(text)) throw new Fault(x.at);
    }

    static World parse(List<Integer> bytes) {
        Deque<Token> t = tokens(bytes);
        World n = new World();
        List<String> kinds = List.of("ewe", "hogg", "wether", "gimmer", "bellwether", "tup");
        List<String> laws = List.of("river", "whistle", "food", "wrong");
        while (!t.peek().text.isEmpty()) {
            Token head = t.remove();
            if (kinds.contains(head.text)) {
                if (n.sheep.size() == 8) throw new Fault(head.at);
                int ear = option(t, "ear", 9);
                int fear = option(t, "fear", 9);
                int look = option(t, "look", 5);
                n.sheep.add(make(kinds.indexOf(head.text), n.sheep.size(), ear, fear, look));
            } else if (head.text.equals("grass") || head.text.equals("risk")) {
                int p = number(t, 5);
                must(t, "is");
                (head.text.equals("grass") ? n.grass : n.risk)[p] = number(t, 9);
            } else if (head.text.equals("flock")) {
                n.flock = number(t, 5);
            } else if (head.text.equals("call")) {
                n.call = 1 + number(t, 5);
            } else if (laws.contains(head.text)) {
                int law = laws.indexOf(head.text);
                n.laws[law] = number(t, law == 3 ? 99 : 9);
            } else {
                throw new Fault(head.at);
            }
            must(t, ";");
        }
        return n;
    }

    int hill() {
        List<Integer> bytes = tape;
        tape = new ArrayList<>();
        try {
            World n = parse(bytes);
            n.z = w.z;
            w = n;
            rows.clear();
            return n.sheep.size();
        } catch (Fault f) {
            return -100 - f.at;
        }
    }

    int set(int law, int v) {
        if (!in(law, 0, 3) || !in(v, 0, law == 3 ? 99 : 9)) return BAD;
        int was = w.laws[law];
        w.laws[law] = v;
        return was;
    }

    int lawOf(int law) { return in(law, 0, 3) ? w.laws[law] : BAD; }

    int sheep(int kind, int ear, int fear, int look) {
        if (!in(kind, 0, 5) || !in(ear, 0, 9) || !in(fear, 0, 9) || !in(look, 0, 5)) return BAD;
        if (w.sheep.size() == 8) return FULL;
        w.sheep.add(make(kind, w.sheep.size(), ear, fear, look));
        return w.sheep.size() - 1;
    }

    int of(int s, int what) {
        if (!one(s) || !in(what, 0, 5)) return BAD;
        Ewe e = w.sheep.get(s);
        return new int[] {e.kind(), e.ear, e.fear, e.look, e.counts(w), w.vote(e)}[what];
    }

    int worth(int s, int p) { return one(s) && in(p, 0, 5) ? 1000 + w.sheep.get(s).worth(w, p) : BAD; }

    int tames(int s) { return one(s) ? 1000 + w.sheep.get(s).tames() : BAD; }

    int mind(int s, int kind, int ear) {
        if (!one(s) || !in(kind, 0, 5) || !in(ear, 0, 9)) return BAD;
        Ewe e = w.sheep.get(s);
        w.sheep.set(s, make(kind, s, ear, e.fear, e.look));
        return e.kind();
    }

    int fear(int s, int v) {
        if (!one(s) || !in(v, 0, 9)) return BAD;
        int was = w.sheep.get(s).fear;
        w.sheep.get(s).fear = v;
        return was;
    }

    int look(int s, int p) {
        if (!one(s) || !in(p, 0, 5)) return BAD;
        int was = w.sheep.get(s).look;
        w.sheep.get(s).look = p;
        return was;
    }

    int place(int p, int what) {
        if (!in(p, 0, 5) || !in(what, 0, 3)) return BAD;
        int set = 0;
        for (Ewe e : w.sheep) if (w.vote(e) == p) set += 1 << e.number;
        return new int[] {w.grass[p], w.risk[p], set, w.votes(null, 0, 0)[p]}[what];
    }

    int grow(int p, int what, int v) {
        if (!in(p, 0, 5) || !in(what, 0, 1) || !in(v, 0, 9)) return BAD;
        int[] a = what == 0 ? w.grass : w.risk;
        int was = a[p];
        a[p] = v;
        return was;
    }

    int flock(int p) {
        if (!in(p, 0, 5)) return BAD;
        int was = w.flock;
        w.flock = p;
        return was;
    }

    int call(int v) {
        if (!in(v, 0, 6)) return BAD;
        int was = w.call;
        w.call = v;
        return was;
    }

    int winner() { return w.winner(); }

    int days(int n) {
        if (!in(n, 1, 60)) return BAD;
        w = w.after(n);
        return w.flock;
    }

    int seed(int v) {
        int was = w.z;
        w.z = v;
        return was;
    }

    int day() {
        w.passByDraws();
        return w.flock;
    }

    int strays(int n) {
        if (!in(n, 1, 30)) return BAD;
        int usual = w.after(1).flock, z = w.z, strays = 0;
        for (int i = 0; i < n; i++) {
            World t = w.copy();
            t.z = z;
            t.passByDraws();
            z = t.z;
            if (t.flock != usual) strays++;
        }
        return strays;
    }

    int state(int what) {
        if (!in(what, 0, 5)) return BAD;
        int counts = 0, fears = 0, grass = 0, set = 0;
        for (Ewe e : w.sheep) {
            counts += e.counts(w);
            fears += e.fear;
            if (e.fear == 9) set += 1 << e.number;
        }
        for (int g : w.grass) grass += g;
        return new int[] {w.day, w.flock, counts, fears, grass, set}[what];
    }

    int where(int n) { return in(n, 0, 60) ? w.after(n).flock : BAD; }

    int comes(int p) {
        if (!in(p, 0, 5)) return BAD;
        for (int n = 0; n <= 60; n++) if (w.after(n).flock == p) return n;
        return NONE;
    }

    int calm() {
        for (int n = 0; n <= 60; n++) if (w.after(n).sheep.stream().allMatch(e -> e.fear == 0)) return n;
        return NONE;
    }

    int scared(int s) {
        if (!one(s)) return BAD;
        for (int n = 0; n <= 60; n++) if (w.after(n).sheep.get(s).fear == 9) return n;
        return NONE;
    }

    World with(Consumer<World> change) {
        World t = w.copy();
        change.accept(t);
        return t;
    }

    int callFor(int p, int n) {
        if (!in(p, 0, 5) || !in(n, 1, 20)) return BAD;
        for (int off = 0; off < 6; off++) {
            for (int v = 0; v <= 6; v++) {
                int call = v;
                if (Math.abs(with(t -> t.call = call).after(n).flock - p) == off) return v;
            }
        }
        return 99;
    }

    int kindFor(int s, int p, int n) {
        if (!one(s) || !in(p, 0, 5) || !in(n, 1, 20)) return BAD;
        Ewe e = w.sheep.get(s);
        for (int off = 0; off < 6; off++) {
            for (int k = 0; k < 6; k++) {
                Ewe other = make(k, s, e.ear, e.fear, e.look);
                if (Math.abs(with(t -> t.sheep.set(s, other)).after(n).flock - p) == off) return k;
            }
        }
        return 99;
    }

    int earFor(int s, int p, int n) {
        if (!one(s) || !in(p, 0, 5) || !in(n, 1, 20)) return BAD;
        for (int k = 0; k <= 9; k++) {
            int ear = k;
            if (with(t -> t.sheep.get(s).ear = ear).after(n).flock == p) return k;
        }
        return NONE;
    }

    int looksFor(int p) {
        if (!in(p, 0, 5)) return BAD;
        for (int size = 0; size <= w.sheep.size(); size++) {
            for (int set = 0; set < 1 << w.sheep.size(); set++) {
                if (Integer.bitCount(set) != size) continue;
                World t = w.copy();
                for (Ewe e : t.sheep) if ((set >> e.number & 1) == 1) e.look = p;
                if (t.winner() == p) return set;
            }
        }
        return NONE;
    }

    int deafFor(int p) {
        if (!in(p, 0, 5)) return BAD;
        for (int size = 0; size <= w.sheep.size(); size++) {
            for (int set = 0; set < 1 << w.sheep.size(); set++) {
                if (Integer.bitCount(set) == size && w.winner(w.votes(null, 0, set)) == p) return set;
            }
        }
        return NONE;
    }

    int beats(int p, int q) {
        if (!in(p, 0, 5) || !in(q, 0, 5) || p == q) return BAD;
        return w.beats(p, q) ? 1 : 0;
    }

    int wins(String order) {
        int stands = order.charAt(0) - '0';
        for (char c : order.substring(1).toCharArray()) if (w.beats(c - '0', stands)) stands = c - '0';
        return stands;
    }

    static List<String> orders(String begun) {
        List<String> all = new ArrayList<>();
        if (begun.length() == 6) all.add(begun);
        else for (char c = '0'; c < '6'; c++) if (begun.indexOf(c) < 0) all.addAll(orders(begun + c));
        return all;
    }

    static final List<String> ORDERS = orders("");

    int asked(int order) {
        String s = order < 0 ? "" : String.format("%06d", order);
        return ORDERS.contains(s) ? wins(s) : BAD;
    }

    int agenda(int p, int what) {
        if (!in(p, 0, 5) || !in(what, 0, 1)) return BAD;
        int count = 0, least = NONE;
        for (String s : ORDERS) {
            if (wins(s) == p) {
                count++;
                if (least == NONE || Integer.parseInt(s) < least) least = Integer.parseInt(s);
            }
        }
        return what == 0 ? count : least;
    }

    int ring() {
        for (int a = 0; a < 6; a++) {
            for (int b = 0; b < 6; b++) {
                for (int c = 0; c < 6; c++) {
                    if (a != b && b != c && a != c && w.beats(a, b) && w.beats(b, c) && w.beats(c, a)) {
                        return a * 100 + b * 10 + c;
                    }
                }
            }
        }
        return NONE;
    }

    int sham(int s) {
        if (!one(s)) return BAD;
        Ewe e = w.sheep.get(s);
        int best = NONE, worth = e.worth(w, w.winner());
        for (int p = 0; p < 6; p++) {
            int gained = e.worth(w, w.winner(w.votes(e, p, 0)));
            if (gained > worth) {
                worth = gained;
                best = p;
            }
        }
        return best;
    }

    static long fraction(BigInteger above, BigInteger below, int part) {
        BigInteger g = above.gcd(below);
        return (part == 0 ? above : below).divide(g).longValueExact();
    }

    int turned(int s, int ahead, int left) {
        int all = 0;
        for (Ewe e : w.sheep) all += e.counts(w);
        int orders = 0;
        for (int next = 0; next < w.sheep.size(); next++) {
            if ((left >> next & 1) == 0) continue;
            int counts = w.sheep.get(next).counts(w);
            if (next != s) orders += turned(s, ahead + counts, left & ~(1 << next));
            else if (2 * ahead <= all && 2 * (ahead + counts) > all) {
                int behind = Integer.bitCount(left) - 1, ways = 1;
                for (int i = 2; i <= behind; i++) ways *= i;
                orders += ways;
            }
        }
        return orders;
    }

    long power(int s, int part) {
        if (!one(s) || !in(part, 0, 1)) return BAD;
        int all = 1;
        for (int i = 2; i <= w.sheep.size(); i++) all *= i;
        int orders = turned(s, 0, (1 << w.sheep.size()) - 1);
        return fraction(BigInteger.valueOf(orders), BigInteger.valueOf(all), part);
    }

    static int size(Object row) { return java.lang.reflect.Array.getLength(row); }

    static int sortOf(Object row) {
        return row instanceof byte[] ? 0 : row instanceof short[] ? 1 : row instanceof int[] ? 2 : 3;
    }

    static long itemOf(Object row, int i) { return java.lang.reflect.Array.getLong(row, i); }

    int fits(int sheet, int s, int what) {
        if (!in(sheet, 0, 3) || !one(s) || !in(what, 0, 1)) return BAD;
        if (sheets[sheet] == null) return -11;
        int count = 0, least = NONE;
        for (int f = 9; f >= 0; f--) {
            World t = w.copy();
            t.sheep.get(s).fear = f;
            boolean fits = true;
            for (int i = 0; i < size(sheets[sheet]); i++) {
                t.pass();
                long told = itemOf(sheets[sheet], i);
                fits &= told == -1 || told == t.flock;
            }
            if (fits) {
                count++;
                least = f;
            }
        }
        return what == 0 ? count : least;
    }

    long odds(int n, int k, int part) {
        if (!in(n, 0, 8) || !in(k, 0, n) || !in(part, 0, 1)) return BAD;
        long sum = 0;
        for (int looks = 0; looks < 1 << n; looks++) {
            if (Integer.bitCount(looks) != k) continue;
            long each = 1;
            for (int i = 0; i < n; i++) each *= (looks >> i & 1) == 1 ? w.laws[3] : 100 - w.laws[3];
            sum += each;
        }
        return fraction(BigInteger.valueOf(sum), BigInteger.valueOf(100).pow(n), part);
    }

    long hope(int n, int part) {
        if (!in(n, 0, 99) || !in(part, 0, 1)) return BAD;
        return fraction(BigInteger.valueOf(n).multiply(BigInteger.valueOf(w.laws[3])), BigInteger.valueOf(100), part);
    }

    int[] rowOf(int s, int n) {
        World t = w.after(n);
        return new int[] {t.sheep.get(s).fear, t.vote(t.sheep.get(s)), t.flock};
    }

    int prove(int s, int n) {
        if (!one(s) || !in(n, 1, 10)) return BAD;
        rows.clear();
        for (int i = 1; i <= n; i++) rows.add(rowOf(s, i));
        return n;
    }

    int row(int i, int what) { return in(i, 0, rows.size() - 1) && in(what, 0, 2) ? rows.get(i)[what] : -9; }

    int alterRow(int i, int what, int v) {
        if (!in(i, 0, rows.size() - 1) || !in(what, 0, 2)) return -9;
        int was = rows.get(i)[what];
        rows.get(i)[what] = v;
        return was;
    }

    int judge(int s) {
        if (!one(s)) return BAD;
        for (int i = 0; i < rows.size(); i++) if (!java.util.Arrays.equals(rows.get(i), rowOf(s, i + 1))) return i + 1;
        return 0;
    }

    int minds(int sheet, int i, int s, int n) {
        if (!in(sheet, 0, 3) || !one(s) || !in(n, 0, 8) || s + n > w.sheep.size()) return BAD;
        try {
            if (sheets[sheet] == null) return -11;
            byte[] row = (byte[]) sheets[sheet];
            if (!in(i, 0, row.length) || (long) i + n > row.length) return -12;
            for (int k = 0; k < n; k++) w.sheep.get(s + k).fear = Math.max(0, Math.min(9, row[i + k]));
            return n;
        } catch (ClassCastException e) {
            return -13;
        }
    }

    int sheet(int sheet, int sort, int n) {
        if (!in(sheet, 0, 3) || !in(sort, -1, 3)) return BAD;
        if (sort >= 0 && n > 40) return BAD;
        if (sort >= 0 && n < 0) return -14;
        sheets[sheet] = sort < 0 ? null : sort == 0 ? new byte[n] : sort == 1 ? new short[n] : sort == 2 ? new int[n] : new long[n];
        return 1;
    }

    int put(int sheet, int i, int v) {
        if (!in(sheet, 0, 3)) return BAD;
        Object row = sheets[sheet];
        if (row == null) return -11;
        if (!in(i, 0, size(row) - 1)) return -12;
        if (row instanceof byte[] b) b[i] = (byte) v;
        else if (row instanceof short[] b) b[i] = (short) v;
        else if (row instanceof int[] b) b[i] = v;
        else ((long[]) row)[i] = v;
        return 1;
    }

    int item(int sheet, int sort, int i) {
        if (!in(sheet, 0, 3) || !in(sort, 0, 3)) return BAD;
        Object row = sheets[sheet];
        if (row == null) return -11;
        if (sortOf(row) != sort) return -13;
        return in(i, 0, size(row) - 1) ? (int) itemOf(row, i) : -12;
    }

    int shelf(int shelf, int what, int n) {
        if (!in(shelf, 0, 3) || !in(what, 0, 2)) return BAD;
        if (what == 0 && !one(n) || what == 1 && !in(n, 0, 3)) return BAD;
        shelves[shelf] = what == 0 ? (Object) n : what == 1 ? sheets[n] : null;
        return 1;
    }

    Object held(int shelf) {
        if (shelves[shelf] instanceof Integer n) return one(n) ? w.sheep.get(n) : null;
        return shelves[shelf];
    }

    int taken(int shelf, int as) {
        if (!in(shelf, 0, 3) || !in(as, 0, 5) && !in(as, 10, 13)) return BAD;
        Object held = held(shelf);
        if (held == null) return -11;
        if (held instanceof Ewe e) {
            List<Class<? extends Ewe>> kinds = List.of(Ewe.class, Hogg.class, Wether.class, Gimmer.class, Bellwether.class, Tup.class);
            return as < 10 && kinds.get(as).isInstance(e) ? e.number : -13;
        }
        return as >= 10 && sortOf(held) == as - 10 ? size(held) : -13;
    }

    int act(int shelf, int act, int x) {
        trace.clear();
        if (!in(shelf, 0, 3) || !in(act, 0, 3) || !(held(shelf) instanceof Ewe e)) return 0;
        e.ran.clear();
        try {
            return act == 0 ? e.asks(x) : act == 1 ? e.bleats(x) : act == 2 ? e.turns(x) : e.leads(x);
        } catch (ArithmeticException parted) {
            return -15;
        } finally {
            trace.addAll(e.ran);
        }
    }

    int trace(int i) { return in(i, 0, trace.size() - 1) ? trace.get(i) : NONE; }

    int many(int what) {
        int voted = 0, counting = 0, scared = 0;
        for (int v : w.votes(null, 0, 0)) if (v > 0) voted++;
        for (Ewe e : w.sheep) {
            if (e.counts(w) > 0) counting++;
            if (e.fear == 9) scared++;
        }
        if (!in(what, 0, 6)) return BAD;
        return new int[] {w.sheep.size(), voted, counting, scared, rows.size(), tape.size(), trace.size()}[what];
    }

    int keep() {
        kept = w.copy();
        return 1;
    }

    int again() {
        if (kept == null) return NONE;
        w = kept.copy();
        return w.sheep.size();
    }
}
