/** A flock that goes where most of it is for, told by the promises of ../shared/DOC.md. */
public final class DogVotes {
    public static final int BAD = -1, FULL = -2, NONE = -3;

    private static final int NO_ROW = -9;
    private static final int NOTHING_THERE = -11;
    private static final int OUTSIDE = -12;
    private static final int OTHER_SORT = -13;
    private static final int SIZE_BELOW_0 = -14;
    private static final int PARTED_BY_0 = -15;

    private static final int FAULTY_TEXT = -100;
    private static final int ABOVE_REFUSALS = 1000;
    private static final int NO_SHEEP = -1;

    private static final int PLACES = 6;
    private static final int LOCH = 5;
    private static final int MOST_SHEEP = 8;
    private static final int HIGHEST = 9;
    private static final int MOST_DAYS = 60;
    private static final int MOST_DAYS_ASKED = 20;
    private static final int MOST_ROWS = 10;
    private static final int MOST_BYTES = 200;
    private static final int SHEETS = 4;
    private static final int SHELVES = 4;
    private static final int SORTS = 4;
    private static final int MOST_ITEMS = 40;

    private static final int RIVER = 0, WHISTLE = 1, FOOD = 2, WRONG = 3, LAWS = 4;
    private static final int EWE = 0, HOGG = 1, WETHER = 2, GIMMER = 3, BELLWETHER = 4, TUP = 5, KINDS = 6;
    private static final int ASKS = 0, BLEATS = 1, TURNS = 2, LEADS = 3, ACTS = 4;

    private final Hill now = new Hill();
    private final Hill tried = new Hill();
    private final Hill kept = new Hill();
    private boolean isKept = false;
    private final HillText tape = new HillText();
    private final Ballots ballots = new Ballots();
    private final Duels duels = new Duels();
    private final Performer performer = new Performer();
    private final int[] rows = new int[MOST_ROWS * 3];
    private int rowCount = 0;
    private final Row[] sheets = new Row[SHEETS];
    // A shelf holds a row itself, which stays there when its sheet becomes another one.
    private final Row[] shelvedRows = new Row[SHELVES];
    private final int[] shelvedOnes = new int[SHELVES];

    public DogVotes() {
        for (int shelf = 0; shelf < SHELVES; shelf++) {
            shelvedOnes[shelf] = NO_SHEEP;
        }
    }

    // ---- the text of a hill

    public int feed(long eight, int n) {
        if (n < 1 || n > 8) {
            return BAD;
        }
        if (tape.size + n > MOST_BYTES) {
            return FULL;
        }
        tape.append(eight, n);
        return tape.size;
    }

    public int hill() {
        tried.copyFrom(now);
        tried.startOver();
        int fault = tape.readOnto(tried);
        tape.size = 0;
        if (fault != HillText.NO_FAULT) {
            return FAULTY_TEXT - fault;
        }
        now.copyFrom(tried);
        rowCount = 0;
        return now.heads;
    }

    // ---- laws, sheep, places as they are now

    public int set(int law, int v) {
        if (!within(law, LAWS) || v < 0 || v > mostOfLaw(law)) {
            return BAD;
        }
        int was = now.laws[law];
        now.laws[law] = v;
        return was;
    }

    public int lawOf(int law) {
        return within(law, LAWS) ? now.laws[law] : BAD;
    }

    public int sheep(int kind, int ear, int fear, int look) {
        if (!within(kind, KINDS) || !isFigure(ear) || !isFigure(fear) || !within(look, PLACES)) {
            return BAD;
        }
        if (now.heads >= MOST_SHEEP) {
            return FULL;
        }
        now.add(kind, ear, fear, look);
        return now.heads - 1;
    }

    public int of(int sheep, int what) {
        if (!isSheep(sheep)) {
            return BAD;
        }
        switch (what) {
            case 0: return now.kinds[sheep];
            case 1: return now.ears[sheep];
            case 2: return now.fears[sheep];
            case 3: return now.looks[sheep];
            case 4: return now.weightOf(sheep);
            case 5: return now.voteOf(sheep);
            default: return BAD;
        }
    }

    public int worth(int sheep, int place) {
        if (!isSheep(sheep) || !within(place, PLACES)) {
            return BAD;
        }
        return ABOVE_REFUSALS + now.worthTo(sheep, place);
    }

    public int tames(int sheep) {
        return isSheep(sheep) ? ABOVE_REFUSALS + now.tamenessOf(sheep) : BAD;
    }

    public int mind(int sheep, int kind, int ear) {
        if (!isSheep(sheep) || !within(kind, KINDS) || !isFigure(ear)) {
            return BAD;
        }
        int was = now.kinds[sheep];
        now.kinds[sheep] = kind;
        now.ears[sheep] = ear;
        return was;
    }

    public int fear(int sheep, int v) {
        if (!isSheep(sheep) || !isFigure(v)) {
            return BAD;
        }
        int was = now.fears[sheep];
        now.fears[sheep] = v;
        return was;
    }

    public int look(int sheep, int place) {
        if (!isSheep(sheep) || !within(place, PLACES)) {
            return BAD;
        }
        int was = now.looks[sheep];
        now.looks[sheep] = place;
        return was;
    }

    public int place(int place, int what) {
        if (!within(place, PLACES)) {
            return BAD;
        }
        switch (what) {
            case 0: return now.grass[place];
            case 1: return now.risk[place];
            case 2: return now.votersOf(place);
            case 3:
                now.takeVotes();
                return now.tally[place];
            default: return BAD;
        }
    }

    public int grow(int place, int what, int v) {
        if (!within(place, PLACES) || !within(what, 2) || !isFigure(v)) {
            return BAD;
        }
        int[] grown = what == 0 ? now.grass : now.risk;
        int was = grown[place];
        grown[place] = v;
        return was;
    }

    public int flock(int place) {
        if (!within(place, PLACES)) {
            return BAD;
        }
        int was = now.at;
        now.at = place;
        return was;
    }

    public int call(int v) {
        if (!within(v, PLACES + 1)) {
            return BAD;
        }
        int was = now.called;
        now.called = v;
        return was;
    }

    // ---- days

    public int winner() {
        now.takeVotes();
        return now.favouriteOfTally();
    }

    public int days(int n) {
        if (n < 1 || n > MOST_DAYS) {
            return BAD;
        }
        now.passDays(n);
        return now.at;
    }

    public int seed(int v) {
        int was = now.z;
        now.z = v;
        return was;
    }

    public int day() {
        now.passDayByDraws();
        return now.at;
    }

    public int strays(int n) {
        if (n < 1 || n > 30) {
            return BAD;
        }
        tried.copyFrom(now);
        tried.passDay();
        int usual = tried.at;
        int strayed = 0;
        int z = now.z;
        for (int i = 0; i < n; i++) {
            tried.copyFrom(now);
            tried.z = z;
            tried.passDayByDraws();
            z = tried.z;
            if (tried.at != usual) {
                strayed++;
            }
        }
        return strayed;
    }

    public int state(int what) {
        switch (what) {
            case 0: return now.dayCount;
            case 1: return now.at;
            case 2: return now.weightOfAll();
            case 3: return sumOf(now.fears, now.heads);
            case 4: return sumOf(now.grass, PLACES);
            case 5: return now.scaredOnes();
            default: return BAD;
        }
    }

    // ---- what would come

    public int where(int n) {
        if (n < 0 || n > MOST_DAYS) {
            return BAD;
        }
        tried.copyFrom(now);
        tried.passDays(n);
        return tried.at;
    }

    public int comes(int place) {
        if (!within(place, PLACES)) {
            return BAD;
        }
        tried.copyFrom(now);
        for (int n = 0; n <= MOST_DAYS; n++) {
            if (tried.at == place) {
                return n;
            }
            tried.passDay();
        }
        return NONE;
    }

    public int calm() {
        tried.copyFrom(now);
        for (int n = 0; n <= MOST_DAYS; n++) {
            if (sumOf(tried.fears, tried.heads) == 0) {
                return n;
            }
            tried.passDay();
        }
        return NONE;
    }

    public int scared(int sheep) {
        if (!isSheep(sheep)) {
            return BAD;
        }
        tried.copyFrom(now);
        for (int n = 0; n <= MOST_DAYS; n++) {
            if (tried.fears[sheep] == HIGHEST) {
                return n;
            }
            tried.passDay();
        }
        return NONE;
    }

    // ---- what to whistle, as what, with how long an ear

    public int callFor(int place, int n) {
        if (!within(place, PLACES) || n < 1 || n > MOST_DAYS_ASKED) {
            return BAD;
        }
        int best = 0;
        int nearest = PLACES;
        for (int v = 0; v <= PLACES; v++) {
            tried.copyFrom(now);
            tried.called = v;
            tried.passDays(n);
            int off = Math.abs(tried.at - place);
            if (off < nearest) {
                nearest = off;
                best = v;
            }
        }
        return best;
    }

    public int kindFor(int sheep, int place, int n) {
        if (!isSheep(sheep) || !within(place, PLACES) || n < 1 || n > MOST_DAYS_ASKED) {
            return BAD;
        }
        int best = EWE;
        int nearest = PLACES;
        for (int kind = 0; kind < KINDS; kind++) {
            tried.copyFrom(now);
            tried.kinds[sheep] = kind;
            tried.passDays(n);
            int off = Math.abs(tried.at - place);
            if (off < nearest) {
                nearest = off;
                best = kind;
            }
        }
        return best;
    }

    public int earFor(int sheep, int place, int n) {
        if (!isSheep(sheep) || !within(place, PLACES) || n < 1 || n > MOST_DAYS_ASKED) {
            return BAD;
        }
        for (int ear = 0; ear <= HIGHEST; ear++) {
            tried.copyFrom(now);
            tried.ears[sheep] = ear;
            tried.passDays(n);
            if (tried.at == place) {
                return ear;
            }
        }
        return NONE;
    }

    // ---- whom to look at, whom to leave deaf, who gains by shamming, powers

    public int looksFor(int place) {
        if (!within(place, PLACES)) {
            return BAD;
        }
        tried.copyFrom(now);
        ballots.take(tried);
        for (int one = 0; one < tried.heads; one++) {
            tried.looks[one] = place;
            ballots.otherVotes[one] = tried.voteOf(one);
            ballots.otherWeights[one] = tried.weightOf(one);
        }
        return ballots.fewestFor(now, place);
    }

    public int deafFor(int place) {
        if (!within(place, PLACES)) {
            return BAD;
        }
        ballots.take(now);
        for (int one = 0; one < now.heads; one++) {
            ballots.otherVotes[one] = ballots.votes[one];
            ballots.otherWeights[one] = 0;
        }
        return ballots.fewestFor(now, place);
    }

    public int sham(int sheep) {
        if (!isSheep(sheep)) {
            return BAD;
        }
        ballots.take(now);
        ballots.otherWeights[sheep] = ballots.weights[sheep];
        int best = NONE;
        int greatest = now.worthTo(sheep, ballots.favouriteWith(now, 0));
        for (int place = 0; place < PLACES; place++) {
            ballots.otherVotes[sheep] = place;
            int gained = now.worthTo(sheep, ballots.favouriteWith(now, 1 << sheep));
            if (gained > greatest) {
                greatest = gained;
                best = place;
            }
        }
        return best;
    }

    public long power(int sheep, int part) {
        if (!isSheep(sheep) || !within(part, 2)) {
            return BAD;
        }
        ballots.take(now);
        return partOf(ballots.ordersTurnedBy(sheep, now.heads), Ballots.ordersOf(now.heads), part);
    }

    // ---- askings in an order

    public int beats(int place, int other) {
        if (!within(place, PLACES) || !within(other, PLACES) || place == other) {
            return BAD;
        }
        return now.leadOf(place, other) > 0 ? 1 : 0;
    }

    public int asked(int order) {
        if (!duels.readOrder(order)) {
            return BAD;
        }
        duels.hold(now);
        return duels.lastStanding();
    }

    public int agenda(int place, int what) {
        if (!within(place, PLACES) || !within(what, 2)) {
            return BAD;
        }
        duels.hold(now);
        duels.tryOrdersFor(place);
        if (what == 0) {
            return duels.ordersWon;
        }
        return duels.ordersWon == 0 ? NONE : duels.leastOrder;
    }

    public int ring() {
        duels.hold(now);
        return duels.leastRing();
    }

    // ---- fears from where they went, odds

    public int fits(int sheet, int sheep, int what) {
        if (!within(sheet, SHEETS) || !isSheep(sheep) || !within(what, 2)) {
            return BAD;
        }
        Row row = sheets[sheet];
        if (row == null) {
            return NOTHING_THERE;
        }
        int fitting = 0;
        int least = NONE;
        for (int fear = HIGHEST; fear >= 0; fear--) {
            tried.copyFrom(now);
            tried.fears[sheep] = fear;
            if (goesAsTold(row)) {
                fitting++;
                least = fear;
            }
        }
        return what == 0 ? fitting : least;
    }

    public long odds(int n, int k, int part) {
        if (n < 0 || n > 8 || k < 0 || k > n || !within(part, 2)) {
            return BAD;
        }
        long wrong = now.laws[WRONG];
        long ways = 1;
        long above = 1;
        long below = 1;
        for (int i = 0; i < n; i++) {
            above *= i < k ? wrong : 100 - wrong;
            below *= 100;
        }
        for (int i = 0; i < k; i++) {
            ways = ways * (n - i) / (i + 1);
        }
        return partOf(ways * above, below, part);
    }

    public long hope(int n, int part) {
        if (n < 0 || n > 99 || !within(part, 2)) {
            return BAD;
        }
        return partOf((long) n * now.laws[WRONG], 100, part);
    }

    // ---- rows of days

    public int prove(int sheep, int n) {
        if (!isSheep(sheep) || n < 1 || n > MOST_ROWS) {
            return BAD;
        }
        tried.copyFrom(now);
        for (int i = 0; i < n; i++) {
            tried.passDay();
            rows[i * 3] = tried.fears[sheep];
            rows[i * 3 + 1] = tried.voteOf(sheep);
            rows[i * 3 + 2] = tried.at;
        }
        rowCount = n;
        return n;
    }

    public int row(int i, int what) {
        return within(i, rowCount) && within(what, 3) ? rows[i * 3 + what] : NO_ROW;
    }

    public int alterRow(int i, int what, int v) {
        if (!within(i, rowCount) || !within(what, 3)) {
            return NO_ROW;
        }
        int was = rows[i * 3 + what];
        rows[i * 3 + what] = v;
        return was;
    }

    public int judge(int sheep) {
        if (!isSheep(sheep)) {
            return BAD;
        }
        tried.copyFrom(now);
        for (int i = 0; i < rowCount; i++) {
            tried.passDay();
            if (rows[i * 3] != tried.fears[sheep] || rows[i * 3 + 1] != tried.voteOf(sheep)
                    || rows[i * 3 + 2] != tried.at) {
                return i + 1;
            }
        }
        return 0;
    }

    // ---- sheets

    public int minds(int sheet, int i, int sheep, int n) {
        if (!within(sheet, SHEETS) || !isSheep(sheep) || n < 0 || n > MOST_SHEEP || sheep + n > now.heads) {
            return BAD;
        }
        Row row = sheets[sheet];
        if (row == null) {
            return NOTHING_THERE;
        }
        if (row.sort != Row.BYTES) {
            return OTHER_SORT;
        }
        if (i < 0 || i > row.items.length || n > row.items.length - i) {
            return OUTSIDE;
        }
        for (int k = 0; k < n; k++) {
            now.fears[sheep + k] = heldToFigure(row.items[i + k]);
        }
        return n;
    }

    public int sheet(int sheet, int sort, int n) {
        if (!within(sheet, SHEETS) || sort < -1 || sort >= SORTS) {
            return BAD;
        }
        if (sort == -1) {
            sheets[sheet] = null;
            return 1;
        }
        if (n > MOST_ITEMS) {
            return BAD;
        }
        if (n < 0) {
            return SIZE_BELOW_0;
        }
        sheets[sheet] = new Row(sort, n);
        return 1;
    }

    public int put(int sheet, int i, int v) {
        if (!within(sheet, SHEETS)) {
            return BAD;
        }
        Row row = sheets[sheet];
        if (row == null) {
            return NOTHING_THERE;
        }
        if (!within(i, row.items.length)) {
            return OUTSIDE;
        }
        row.items[i] = row.narrowed(v);
        return 1;
    }

    public int item(int sheet, int sort, int i) {
        if (!within(sheet, SHEETS) || !within(sort, SORTS)) {
            return BAD;
        }
        Row row = sheets[sheet];
        if (row == null) {
            return NOTHING_THERE;
        }
        if (row.sort != sort) {
            return OTHER_SORT;
        }
        return within(i, row.items.length) ? row.items[i] : OUTSIDE;
    }

    // ---- shelves and acts

    public int shelf(int shelf, int what, int n) {
        if (!within(shelf, SHELVES)) {
            return BAD;
        }
        switch (what) {
            case 0:
                if (!isSheep(n)) {
                    return BAD;
                }
                return putOnShelf(shelf, n, null);
            case 1:
                if (!within(n, SHEETS)) {
                    return BAD;
                }
                return putOnShelf(shelf, NO_SHEEP, sheets[n]);
            case 2:
                return putOnShelf(shelf, NO_SHEEP, null);
            default:
                return BAD;
        }
    }

    public int taken(int shelf, int as) {
        boolean asRow = as >= 10 && as < 10 + SORTS;
        if (!within(shelf, SHELVES) || !asRow && !within(as, KINDS)) {
            return BAD;
        }
        Row row = shelvedRows[shelf];
        int one = shelvedOnes[shelf];
        if (row != null) {
            return asRow && row.sort == as - 10 ? row.items.length : OTHER_SORT;
        }
        if (!isSheep(one)) {
            return NOTHING_THERE;
        }
        return !asRow && isKindOrUnder(now.kinds[one], as) ? one : OTHER_SORT;
    }

    public int act(int shelf, int act, int x) {
        performer.forget();
        if (!within(shelf, SHELVES) || !within(act, ACTS)) {
            return 0;
        }
        int one = shelvedOnes[shelf];
        if (!isSheep(one)) {
            return 0;
        }
        return performer.perform(now.kinds[one], one, now.ears[one], act, x);
    }

    public int trace(int i) {
        return within(i, performer.begun) ? performer.trace[i] : NONE;
    }

    // ---- how many, and what is kept

    public int many(int what) {
        switch (what) {
            case 0: return now.heads;
            case 1: return now.placesWithVotes();
            case 2: return now.onesThatCount();
            case 3: return Integer.bitCount(now.scaredOnes());
            case 4: return rowCount;
            case 5: return tape.size;
            case 6: return performer.begun;
            default: return BAD;
        }
    }

    public int keep() {
        kept.copyFrom(now);
        isKept = true;
        return 1;
    }

    public int again() {
        if (!isKept) {
            return NONE;
        }
        now.copyFrom(kept);
        return now.heads;
    }

    // ---- helpers

    private boolean isSheep(int sheep) {
        return within(sheep, now.heads);
    }

    private int putOnShelf(int shelf, int one, Row row) {
        shelvedOnes[shelf] = one;
        shelvedRows[shelf] = row;
        return 1;
    }

    private boolean goesAsTold(Row row) {
        for (int i = 0; i < row.items.length; i++) {
            tried.passDay();
            if (row.items[i] != -1 && row.items[i] != tried.at) {
                return false;
            }
        }
        return true;
    }

    private static boolean within(int number, int end) {
        return number >= 0 && number < end;
    }

    private static boolean isFigure(int v) {
        return within(v, HIGHEST + 1);
    }

    private static int heldToFigure(int v) {
        return Math.max(0, Math.min(HIGHEST, v));
    }

    private static int mostOfLaw(int law) {
        return law == WRONG ? 99 : HIGHEST;
    }

    private static int sumOf(int[] numbers, int end) {
        int sum = 0;
        for (int i = 0; i < end; i++) {
            sum += numbers[i];
        }
        return sum;
    }

    private static boolean isKindOrUnder(int kind, int above) {
        return kind == above || above == EWE
                || kind == GIMMER && above == HOGG
                || kind == BELLWETHER && above == WETHER;
    }

    private static long partOf(long above, long below, int part) {
        long divisor = commonDivisor(above, below);
        if (divisor == 0) {
            return 0;
        }
        return part == 0 ? above / divisor : below / divisor;
    }

    private static long commonDivisor(long one, long other) {
        long greater = one;
        long less = other;
        // Euclid's steps on longs stay below a hundred.
        for (int i = 0; i < 200 && less != 0; i++) {
            long left = greater % less;
            greater = less;
            less = left;
        }
        return greater;
    }

    /** All that a hill's text tells and days change: laws, places, sheep, the call, the draws. */
    private static final class Hill {
        final int[] laws = new int[LAWS];
        final int[] grass = new int[PLACES];
        final int[] risk = new int[PLACES];
        final int[] kinds = new int[MOST_SHEEP];
        final int[] ears = new int[MOST_SHEEP];
        final int[] fears = new int[MOST_SHEEP];
        final int[] looks = new int[MOST_SHEEP];
        final int[] tally = new int[PLACES];
        int heads = 0;
        int at = 0;
        int called = 0;
        int dayCount = 0;
        int z = 1;

        Hill() {
            startOver();
        }

        // z is left as it is: a text does not tell it.
        void startOver() {
            laws[RIVER] = 3;
            laws[WHISTLE] = 2;
            laws[FOOD] = 1;
            laws[WRONG] = 20;
            for (int place = 0; place < PLACES; place++) {
                grass[place] = 5;
                risk[place] = 0;
            }
            heads = 0;
            at = 0;
            called = 0;
            dayCount = 0;
        }

        void copyFrom(Hill other) {
            System.arraycopy(other.laws, 0, laws, 0, LAWS);
            System.arraycopy(other.grass, 0, grass, 0, PLACES);
            System.arraycopy(other.risk, 0, risk, 0, PLACES);
            System.arraycopy(other.kinds, 0, kinds, 0, MOST_SHEEP);
            System.arraycopy(other.ears, 0, ears, 0, MOST_SHEEP);
            System.arraycopy(other.fears, 0, fears, 0, MOST_SHEEP);
            System.arraycopy(other.looks, 0, looks, 0, MOST_SHEEP);
            heads = other.heads;
            at = other.at;
            called = other.called;
            dayCount = other.dayCount;
            z = other.z;
        }

        void add(int kind, int ear, int fear, int look) {
            if (heads >= MOST_SHEEP) {
                return;
            }
            kinds[heads] = kind;
            ears[heads] = ear;
            fears[heads] = fear;
            looks[heads] = look;
            heads++;
        }

        int worthTo(int one, int place) {
            int plain = 2 * grass[place] - risk[place] - fears[one] / 3 * Math.abs(place - at);
            int looked = looks[one] == place ? ears[one] : 0;
            switch (kinds[one]) {
                case HOGG: return plain + looked;
                case GIMMER: return plain + looked - (place == LOCH ? laws[RIVER] : 0);
                case WETHER: return plain / 2;
                case BELLWETHER: return plain / 2 + (isCalled(place) ? ears[one] : 0);
                case TUP: return plain + grass[place] + risk[place];
                default: return plain;
            }
        }

        int weightOf(int one) {
            int asHogg = at == looks[one] ? 2 : 1;
            switch (kinds[one]) {
                case HOGG: return asHogg;
                case GIMMER: return asHogg * 2;
                case WETHER: return 0;
                case BELLWETHER: return 2;
                case TUP: return grass[at] < 3 ? 3 : 1;
                default: return 1;
            }
        }

        int tamenessOf(int one) {
            switch (kinds[one]) {
                case HOGG: return 2;
                case GIMMER: return -1;
                case WETHER: return 3;
                case BELLWETHER: return 3;
                case TUP: return 0;
                default: return 1;
            }
        }

        int voteOf(int one) {
            int best = 0;
            int greatest = worthTo(one, 0);
            for (int place = 1; place < PLACES; place++) {
                int worth = worthTo(one, place);
                if (worth > greatest) {
                    greatest = worth;
                    best = place;
                }
            }
            return best;
        }

        int votersOf(int place) {
            int voters = 0;
            for (int one = 0; one < heads; one++) {
                if (voteOf(one) == place) {
                    voters |= 1 << one;
                }
            }
            return voters;
        }

        boolean isCalled(int place) {
            return called == place + 1;
        }

        void startTally() {
            for (int place = 0; place < PLACES; place++) {
                tally[place] = isCalled(place) ? laws[WHISTLE] : 0;
            }
        }

        void takeVotes() {
            startTally();
            for (int one = 0; one < heads; one++) {
                tally[voteOf(one)] += weightOf(one);
            }
        }

        int favouriteOfTally() {
            int best = 0;
            for (int place = 1; place < PLACES; place++) {
                boolean nearer = Math.abs(place - at) < Math.abs(best - at);
                if (tally[place] > tally[best] || tally[place] == tally[best] && nearer) {
                    best = place;
                }
            }
            return best;
        }

        // By how much those for whom the one place is worth more outweigh those for whom the other is.
        int leadOf(int place, int other) {
            int lead = 0;
            for (int one = 0; one < heads; one++) {
                int better = worthTo(one, place) - worthTo(one, other);
                if (better > 0) {
                    lead += weightOf(one);
                } else if (better < 0) {
                    lead -= weightOf(one);
                }
            }
            return lead;
        }

        void passDay() {
            takeVotes();
            int aim = favouriteOfTally();
            if (aim > at) {
                at++;
            } else if (aim < at) {
                at--;
            }
            for (int place = 0; place < PLACES; place++) {
                grass[place] = heldToFigure(place == at ? grass[place] - laws[FOOD] : grass[place] + 1);
            }
            for (int one = 0; one < heads; one++) {
                boolean frightened = risk[at] > fears[one];
                fears[one] = heldToFigure(frightened ? fears[one] + 1 : fears[one] - tamenessOf(one));
            }
            dayCount++;
        }

        void passDays(int n) {
            for (int i = 0; i < n; i++) {
                passDay();
            }
        }

        int drawn() {
            z = z * 1103515245 + 12345;
            return z >>> 16;
        }

        void passDayByDraws() {
            if (heads > 0) {
                int one = drawn() % heads;
                if (drawn() % 100 < laws[WRONG]) {
                    looks[one] = drawn() % PLACES;
                }
            }
            passDay();
        }

        int weightOfAll() {
            int sum = 0;
            for (int one = 0; one < heads; one++) {
                sum += weightOf(one);
            }
            return sum;
        }

        int scaredOnes() {
            int ones = 0;
            for (int one = 0; one < heads; one++) {
                if (fears[one] == HIGHEST) {
                    ones |= 1 << one;
                }
            }
            return ones;
        }

        int placesWithVotes() {
            takeVotes();
            int places = 0;
            for (int place = 0; place < PLACES; place++) {
                if (tally[place] != 0) {
                    places++;
                }
            }
            return places;
        }

        int onesThatCount() {
            int ones = 0;
            for (int one = 0; one < heads; one++) {
                if (weightOf(one) != 0) {
                    ones++;
                }
            }
            return ones;
        }
    }

    /** Everyone's vote and weight as it is, and as it would be for those of a set. */
    private static final class Ballots {
        final int[] votes = new int[MOST_SHEEP];
        final int[] weights = new int[MOST_SHEEP];
        final int[] otherVotes = new int[MOST_SHEEP];
        final int[] otherWeights = new int[MOST_SHEEP];

        Ballots() {
        }

        void take(Hill hill) {
            for (int one = 0; one < hill.heads; one++) {
                votes[one] = hill.voteOf(one);
                weights[one] = hill.weightOf(one);
            }
        }

        int favouriteWith(Hill hill, int set) {
            hill.startTally();
            for (int one = 0; one < hill.heads; one++) {
                if ((set >> one & 1) == 0) {
                    hill.tally[votes[one]] += weights[one];
                } else {
                    hill.tally[otherVotes[one]] += otherWeights[one];
                }
            }
            return hill.favouriteOfTally();
        }

        int fewestFor(Hill hill, int place) {
            int best = NONE;
            int fewest = MOST_SHEEP + 1;
            for (int set = 0; set < 1 << hill.heads; set++) {
                int size = Integer.bitCount(set);
                if (size < fewest && favouriteWith(hill, set) == place) {
                    fewest = size;
                    best = set;
                }
            }
            return best;
        }

        // Those ahead of one are a set of the others, which stand in any order, as do those behind.
        long ordersTurnedBy(int one, int heads) {
            int all = weightOfSet((1 << heads) - 1, heads);
            long orders = 0;
            for (int ahead = 0; ahead < 1 << heads; ahead++) {
                if ((ahead >> one & 1) == 0) {
                    int weight = weightOfSet(ahead, heads);
                    if (weight * 2 <= all && (weight + weights[one]) * 2 > all) {
                        int size = Integer.bitCount(ahead);
                        orders += ordersOf(size) * ordersOf(heads - 1 - size);
                    }
                }
            }
            return orders;
        }

        int weightOfSet(int set, int heads) {
            int weight = 0;
            for (int one = 0; one < heads; one++) {
                if ((set >> one & 1) == 1) {
                    weight += weights[one];
                }
            }
            return weight;
        }

        static long ordersOf(int n) {
            long orders = 1;
            for (int i = 2; i <= n; i++) {
                orders *= i;
            }
            return orders;
        }
    }

    /** Which place beats which, and which stands last when places are asked in an order. */
    private static final class Duels {
        static final int ORDERS = 720;
        static final int GREATEST_ORDER = 543210;

        final boolean[] won = new boolean[PLACES * PLACES];
        final int[] order = new int[PLACES];
        int ordersWon = 0;
        int leastOrder = 0;

        Duels() {
        }

        void hold(Hill hill) {
            for (int place = 0; place < PLACES; place++) {
                for (int other = 0; other < PLACES; other++) {
                    won[place * PLACES + other] = hill.leadOf(place, other) > 0;
                }
            }
        }

        boolean isWonBy(int place, int other) {
            return won[place * PLACES + other];
        }

        boolean readOrder(int number) {
            if (number < 0 || number > GREATEST_ORDER) {
                return false;
            }
            int rest = number;
            int seen = 0;
            for (int i = PLACES - 1; i >= 0; i--) {
                int figure = rest % 10;
                rest /= 10;
                if (figure >= PLACES || (seen >> figure & 1) == 1) {
                    return false;
                }
                seen |= 1 << figure;
                order[i] = figure;
            }
            return true;
        }

        int lastStanding() {
            int standing = order[0];
            for (int i = 1; i < PLACES; i++) {
                if (isWonBy(order[i], standing)) {
                    standing = order[i];
                }
            }
            return standing;
        }

        void tryOrdersFor(int place) {
            ordersWon = 0;
            for (int i = 0; i < ORDERS; i++) {
                int number = setOrder(i);
                if (lastStanding() == place) {
                    if (ordersWon == 0) {
                        leastOrder = number;
                    }
                    ordersWon++;
                }
            }
        }

        // The i-th of all orders by their numbers: each place is chosen by its rank among those left.
        int setOrder(int i) {
            int left = (1 << PLACES) - 1;
            int rest = i;
            int block = ORDERS;
            int number = 0;
            for (int k = 0; k < PLACES; k++) {
                block /= PLACES - k;
                int rank = block == 0 ? 0 : rest / block;
                rest -= rank * block;
                int figure = leftOverAt(left, rank);
                left &= ~(1 << figure);
                order[k] = figure;
                number = number * 10 + figure;
            }
            return number;
        }

        static int leftOverAt(int left, int rank) {
            int passed = 0;
            for (int place = 0; place < PLACES; place++) {
                if ((left >> place & 1) == 1) {
                    if (passed == rank) {
                        return place;
                    }
                    passed++;
                }
            }
            return 0;
        }

        int leastRing() {
            for (int number = 0; number < PLACES * PLACES * PLACES; number++) {
                int first = number / (PLACES * PLACES);
                int second = number / PLACES % PLACES;
                int third = number % PLACES;
                if (isWonBy(first, second) && isWonBy(second, third) && isWonBy(third, first)) {
                    return first * 100 + second * 10 + third;
                }
            }
            return NONE;
        }
    }

    /** The tape's bytes, read as a hill's text. */
    private static final class HillText {
        static final int NO_FAULT = -1;
        static final int MOST_DIGITS = 3;

        final int[] bytes = new int[MOST_BYTES];
        int size = 0;
        int pos = 0;
        int fault = NO_FAULT;

        HillText() {
        }

        void append(long eight, int n) {
            for (int i = 0; i < n && size < MOST_BYTES; i++) {
                bytes[size] = (int) (eight >>> 8 * i & 255);
                size++;
            }
        }

        int readOnto(Hill hill) {
            pos = 0;
            fault = NO_FAULT;
            skipBlanks();
            // A statement takes a byte at least.
            for (int i = 0; i < MOST_BYTES && pos < size && fault == NO_FAULT; i++) {
                readStatement(hill);
                skipBlanks();
            }
            return fault;
        }

        void readStatement(Hill hill) {
            int start = pos;
            int kind = readKind();
            if (kind < KINDS) {
                readSheep(hill, kind, start);
            } else if (isNext("grass")) {
                readPlace(hill.grass);
            } else if (isNext("risk")) {
                readPlace(hill.risk);
            } else if (isNext("flock")) {
                hill.at = readNumber(PLACES - 1);
            } else if (isNext("call")) {
                hill.called = readNumber(PLACES - 1) + 1;
            } else {
                readLaw(hill);
            }
            readEnd();
        }

        int readKind() {
            if (isNext("ewe")) {
                return EWE;
            }
            if (isNext("hogg")) {
                return HOGG;
            }
            if (isNext("wether")) {
                return WETHER;
            }
            if (isNext("gimmer")) {
                return GIMMER;
            }
            if (isNext("bellwether")) {
                return BELLWETHER;
            }
            return isNext("tup") ? TUP : KINDS;
        }

        void readSheep(Hill hill, int kind, int start) {
            if (hill.heads >= MOST_SHEEP) {
                fail(start);
            }
            int ear = isNext("ear") ? readNumber(HIGHEST) : 0;
            int fear = isNext("fear") ? readNumber(HIGHEST) : 0;
            int look = isNext("look") ? readNumber(PLACES - 1) : 0;
            hill.add(kind, ear, fear, look);
        }

        void readPlace(int[] row) {
            int place = readNumber(PLACES - 1);
            if (!isNext("is")) {
                fail(pos);
            }
            row[place] = readNumber(HIGHEST);
        }

        void readLaw(Hill hill) {
            int law = LAWS;
            if (isNext("river")) {
                law = RIVER;
            } else if (isNext("whistle")) {
                law = WHISTLE;
            } else if (isNext("food")) {
                law = FOOD;
            } else if (isNext("wrong")) {
                law = WRONG;
            }
            if (law == LAWS) {
                fail(pos);
                return;
            }
            hill.laws[law] = readNumber(mostOfLaw(law));
        }

        void readEnd() {
            skipBlanks();
            if (pos < size && bytes[pos] == ';') {
                pos++;
            } else {
                fail(pos);
            }
        }

        // 0 where there is no such number, so that it serves as an index all the same.
        int readNumber(int most) {
            skipBlanks();
            int start = pos;
            int value = 0;
            while (pos < size && bytes[pos] >= '0' && bytes[pos] <= '9') {
                if (pos - start < MOST_DIGITS) {
                    value = value * 10 + bytes[pos] - '0';
                }
                pos++;
            }
            int digits = pos - start;
            if (digits < 1 || digits > MOST_DIGITS || value > most) {
                fail(start);
                return 0;
            }
            return value;
        }

        // Steps over the name only if all of its letters are the word's.
        boolean isNext(String word) {
            skipBlanks();
            int end = pos;
            while (end < size && bytes[end] >= 'a' && bytes[end] <= 'z') {
                end++;
            }
            if (end - pos != word.length()) {
                return false;
            }
            for (int i = 0; i < word.length(); i++) {
                if (bytes[pos + i] != word.charAt(i)) {
                    return false;
                }
            }
            pos = end;
            return true;
        }

        void skipBlanks() {
            while (pos < size && bytes[pos] == ' ') {
                pos++;
            }
        }

        // The first fault is the text's: what is read behind it counts nothing.
        void fail(int place) {
            if (fault == NO_FAULT) {
                fault = place;
            }
        }
    }

    /** A sheet's row; its items are ints, as longs too come from ints alone. */
    private static final class Row {
        static final int BYTES = 0, SHORTS = 1;

        final int sort;
        final int[] items;

        Row(int sort, int n) {
            this.sort = sort;
            this.items = new int[Math.max(0, n)];
        }

        int narrowed(int v) {
            if (sort == BYTES) {
                return (byte) v;
            }
            return sort == SHORTS ? (short) v : v;
        }
    }

    /** Runs the bodies of a thing's acts and writes down which began. */
    private static final class Performer {
        static final int MOST_TRACED = 30;
        // No body of the document calls deeper than ten.
        static final int DEEPEST = 40;

        static final int EWE_ASKS = 10, EWE_BLEATS = 11, EWE_TURNS = 12, EWE_LEADS = 13;
        static final int HOGG_BLEATS = 20;
        static final int WETHER_ASKS = 30, WETHER_LEADS = 31;
        static final int BELLWETHER_ASKS = 40, BELLWETHER_BLEATS = 41;
        static final int GIMMER_TURNS = 50, GIMMER_ASKS = 51;
        static final int TUP_LEADS = 60, TUP_TURNS = 61;

        final int[] trace = new int[MOST_TRACED];
        int begun = 0;
        boolean parted = false;
        int kind = EWE;
        int number = 0;
        int ear = 0;

        Performer() {
        }

        void forget() {
            begun = 0;
            parted = false;
        }

        int perform(int kind, int number, int ear, int act, int x) {
            forget();
            this.kind = kind;
            this.number = number;
            this.ear = ear;
            int answer = run(this, bodyOf(act), x, 0);
            return parted ? PARTED_BY_0 : answer;
        }

        int bodyOf(int act) {
            switch (act) {
                case ASKS: return bodyOfAsks();
                case BLEATS: return bodyOfBleats();
                case TURNS: return kind == GIMMER ? GIMMER_TURNS : kind == TUP ? TUP_TURNS : EWE_TURNS;
                default: return bodyOfLeads();
            }
        }

        int bodyOfAsks() {
            switch (kind) {
                case WETHER: return WETHER_ASKS;
                case BELLWETHER: return BELLWETHER_ASKS;
                case GIMMER: return GIMMER_ASKS;
                default: return EWE_ASKS;
            }
        }

        int bodyOfBleats() {
            switch (kind) {
                case HOGG: return HOGG_BLEATS;
                case GIMMER: return HOGG_BLEATS;
                case BELLWETHER: return BELLWETHER_BLEATS;
                default: return EWE_BLEATS;
            }
        }

        int bodyOfLeads() {
            switch (kind) {
                case WETHER: return WETHER_LEADS;
                case BELLWETHER: return WETHER_LEADS;
                case TUP: return TUP_LEADS;
                default: return EWE_LEADS;
            }
        }

        private static int run(Performer p, int body, int x, int depth) {
            // Once parted by 0 no further body begins.
            if (p.parted || depth > DEEPEST) {
                return 0;
            }
            p.writeDown(body);
            int deeper = depth + 1;
            switch (body) {
                case EWE_ASKS: return x * 2 - p.number;
                case EWE_BLEATS: return run(p, p.bodyOf(ASKS), x, deeper) + p.ear;
                case EWE_TURNS: return p.quotient(x, p.ear - p.number);
                case EWE_LEADS: return run(p, p.bodyOf(BLEATS), x, deeper) ^ 6;
                case HOGG_BLEATS: return run(p, EWE_BLEATS, x, deeper) - 4;
                case WETHER_ASKS: return 0 - run(p, EWE_ASKS, x, deeper);
                case WETHER_LEADS: return run(p, EWE_LEADS, x, deeper) + run(p, p.bodyOf(TURNS), p.number, deeper);
                case BELLWETHER_ASKS: return run(p, WETHER_ASKS, x, deeper) * 3;
                case BELLWETHER_BLEATS: return run(p, EWE_BLEATS, x, deeper) ^ run(p, p.bodyOf(ASKS), p.ear, deeper);
                case GIMMER_TURNS: return run(p, EWE_TURNS, x - 7, deeper) + p.ear;
                case GIMMER_ASKS: return run(p, EWE_ASKS, x, deeper) + 1;
                case TUP_LEADS: return 100 - run(p, EWE_LEADS, x, deeper);
                case TUP_TURNS: return run(p, EWE_TURNS, x, deeper) - run(p, p.bodyOf(ASKS), p.number, deeper);
                default: return 0;
            }
        }

        int quotient(int x, int divisor) {
            if (divisor == 0) {
                parted = true;
                return 0;
            }
            return x / divisor;
        }

        void writeDown(int body) {
            if (begun < MOST_TRACED) {
                trace[begun] = body;
                begun++;
            }
        }
    }
}
