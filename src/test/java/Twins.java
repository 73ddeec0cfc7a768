import java.util.ArrayList;
import java.util.Arrays;
import java.util.List;

/**
 * Two objects of one making: the one gets a call that is to be refused, the other does not; then both are asked
 * for all that can be asked, so that a refusal which changed anything shows.
 */
final class Twins {
    static final int[] MAKING_OF_SHEEP = {0, 1, 2, 3, 4, 5, 1};
    private static final int[] LENGTHS = {5, 3, 2, 0};

    interface Call {
        long on(DogVotes x);
    }

    interface CallOf {
        long on(DogVotes x, int[] a);
    }

    interface Making {
        DogVotes made();
    }

    private Twins() {
    }

    /** Seven sheep, four rows, three sheets, a row and two sheep on shelves, a trace, something kept, no tape. */
    static DogVotes untaped() {
        DogVotes x = new DogVotes();
        for (int one = 0; one < MAKING_OF_SHEEP.length; one++) {
            x.sheep(MAKING_OF_SHEEP[one], one + 1, 7 - one, (one + 2) % 6);
        }
        x.keep();
        for (int place = 0; place < 6; place++) {
            x.grow(place, 0, 3 + place % 3);
            x.grow(place, 1, 6 - place);
        }
        x.set(0, 5);
        x.set(1, 4);
        x.set(2, 2);
        x.set(3, 55);
        x.seed(77);
        x.flock(3);
        x.call(5);
        x.day();
        x.fear(4, 9);
        x.prove(1, 4);
        x.alterRow(2, 0, -40);
        for (int sheet = 0; sheet < 3; sheet++) {
            x.sheet(sheet, sheet, LENGTHS[sheet]);
            for (int i = 0; i < LENGTHS[sheet]; i++) {
                x.put(sheet, i, 3 + i);
            }
        }
        x.shelf(0, 0, 4);
        x.shelf(1, 1, 0);
        x.shelf(3, 0, 1);
        x.act(0, 3, 5);
        return x;
    }

    static DogVotes rich() {
        DogVotes x = untaped();
        HillTests.feed(x, "tup ear 3;");
        return x;
    }

    /** As rich(), with all eight sheep and a tape of 200 bytes. */
    static DogVotes full() {
        DogVotes x = rich();
        x.sheep(2, 4, 4, 4);
        HillTests.feed(x, " ".repeat(190));
        return x;
    }

    /** An object with one of the sheep. */
    static DogVotes one(int kind, int ear, int fear, int look) {
        DogVotes x = new DogVotes();
        x.sheep(kind, ear, fear, look);
        return x;
    }

    /** What can be asked of an object, the texts of the calls with their answers; it is used up by this. */
    static List<String> everything(DogVotes x) {
        List<String> all = new ArrayList<>();
        hillOf(x, all);
        for (int what = 0; what < 7; what++) {
            all.add("many(" + what + ") " + x.many(what));
        }
        for (int i = 0; i < 5; i++) {
            all.add("row " + i + " " + x.row(i, 0) + " " + x.row(i, 1) + " " + x.row(i, 2));
        }
        for (int sheet = 0; sheet < 4; sheet++) {
            for (int sort = 0; sort < 4; sort++) {
                all.add("item(" + sheet + ", " + sort + ", 0) " + x.item(sheet, sort, 0));
            }
            for (int i = 0; i < 6; i++) {
                all.add("item(" + sheet + ", its sort, " + i + ") " + x.item(sheet, sheet, i));
            }
        }
        for (int shelf = 0; shelf < 4; shelf++) {
            for (int as = 0; as < 14; as++) {
                all.add("taken(" + shelf + ", " + as + ") " + x.taken(shelf, as));
            }
        }
        for (int i = 0; i < 13; i++) {
            all.add("trace(" + i + ") " + x.trace(i));
        }
        all.add("hill() " + x.hill());
        hillOf(x, all);
        all.add("again() " + x.again());
        hillOf(x, all);
        return all;
    }

    private static void hillOf(DogVotes x, List<String> all) {
        for (int law = 0; law < 4; law++) {
            all.add("lawOf(" + law + ") " + x.lawOf(law));
        }
        for (int one = 0; one < x.many(0); one++) {
            all.add("one " + one + " " + x.of(one, 0) + " " + x.of(one, 1) + " " + x.of(one, 2) + " " + x.of(one, 3));
        }
        for (int place = 0; place < 6; place++) {
            all.add("place " + place + " " + x.place(place, 0) + " " + x.place(place, 1));
        }
        all.add("day " + x.state(0) + " at " + x.state(1) + " call " + x.call(0) + " seed " + x.seed(9));
    }

    private static String firstDifference(List<String> got, List<String> want) {
        for (int i = 0; i < Math.min(got.size(), want.size()); i++) {
            if (!got.get(i).equals(want.get(i))) {
                return got.get(i) + " instead of " + want.get(i);
            }
        }
        return got.size() == want.size() ? "" : "other answers";
    }

    static void alike(Checks checks, String name, DogVotes got, DogVotes want) {
        String difference = firstDifference(everything(got), everything(want));
        checks.holds(name + " changes nothing, but " + difference, difference.isEmpty());
    }

    static void refused(Checks checks, String name, Making making, Call call, long want) {
        DogVotes x = making.made();
        checks.due(name, call.on(x), want);
        alike(checks, name, x, making.made());
    }

    /**
     * A call whose numbers have ranges (least, most): each number beside its range, the others at their edges, is
     * refused; with all numbers at edges it is not.
     */
    static void ranges(Checks checks, String name, Making making, CallOf call, long refusal, int[]... ranges) {
        for (int edges = 0; edges < 1 << ranges.length; edges++) {
            int[] a = atEdges(edges, ranges);
            checks.holds(name + Arrays.toString(a) + " is allowed", call.on(making.made(), a) != refusal);
            for (int i = 0; i < ranges.length; i++) {
                boolean most = (edges >> i & 1) == 1;
                int[] beside = most ? new int[] {ranges[i][1] + 1, Integer.MAX_VALUE} : new int[] {ranges[i][0] - 1, Integer.MIN_VALUE};
                for (int outside : beside) {
                    int[] b = a.clone();
                    b[i] = outside;
                    refused(checks, name + Arrays.toString(b), making, x -> call.on(x, b), refusal);
                }
            }
        }
    }

    private static int[] atEdges(int edges, int[][] ranges) {
        int[] a = new int[ranges.length];
        for (int i = 0; i < a.length; i++) {
            a[i] = ranges[i][edges >> i & 1];
        }
        return a;
    }

    static int[] range(int least, int most) {
        return new int[] {least, most};
    }
}
