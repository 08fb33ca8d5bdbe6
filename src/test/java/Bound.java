import java.util.ArrayList;
import java.util.List;
import java.util.TreeMap;
import java.util.function.Supplier;
import java.util.function.ToLongFunction;

/**
 * What the boundary tests share. A test begins with sentence(..): the words of the document that it is for, and the
 * promises that they bind. refused(..) looks for the refusal and for anything that it has changed, also for what no
 * call shows at once: what waits as ORDERS, what undo() and redo() would bring, what THE TAPE and THE IMAGE hold.
 */
abstract class Bound {
    static final int BAD = -1, NOT = -2, FULL = -3, STATE = -5;
    static final int MISSING = -11, OTHER_SORT = -12, OUTSIDE = -13, SIZE_BELOW_0 = -14, NO_SIGN = -1000;
    static final long VOID = Long.MIN_VALUE;
    static final int MIN = Integer.MIN_VALUE, MAX = Integer.MAX_VALUE;
    static final int MASS = 0, STIFF = 1, BEARING = 2, RATIO = 3, SPIN = 4, WAY = 5;
    static final int DISC = 0, RIM = 1, HUB = 2, CROWN = 3, SHELL = 4;
    static final int TWIST = 0, FORE = 1, AFT = 2;

    static int wrong = 0;
    /** Each sentence, with how many checks stand under it. */
    static final TreeMap<String, Integer> checks = new TreeMap<>();
    /** Each promise, with how many sentences were tested for it. */
    static final TreeMap<Integer, Integer> promises = new TreeMap<>();
    private static String words;
    private static int[] bound;

    static void sentence(String text, int... ofPromises) {
        words = text;
        bound = ofPromises;
        checks.putIfAbsent(text, 0);
        for (int promise : ofPromises) promises.merge(promise, 1, Integer::sum);
    }

    static void due(long got, long want) {
        int check = checks.merge(words, 1, Integer::sum);
        if (got != want) tell("check " + check + " answered " + got + ", due is " + want);
    }

    private static void tell(String fault) {
        wrong++;
        StringBuilder of = new StringBuilder();
        for (int promise : bound) of.append(of.length() == 0 ? "" : ", ").append(promise);
        System.out.println("promise " + of + " \"" + words + "\": " + fault + " (" + whereInTests() + ")");
    }

    private static String whereInTests() {
        for (StackTraceElement at : new Throwable().getStackTrace()) {
            if (!at.getClassName().equals("Bound")) return at.getFileName() + ":" + at.getLineNumber();
        }
        return "?";
    }

    /** The call answers so, and nothing has changed behind it. */
    static void refused(Supplier<WhirlShafts> state, long want, ToLongFunction<WhirlShafts> call) {
        due(call.applyAsLong(state.get()), want);
        unchanged(state, call);
    }

    static void bad(Supplier<WhirlShafts> state, ToLongFunction<WhirlShafts> call) {
        refused(state, BAD, call);
    }

    /** An object with the call behind it, and one without, cannot be told from one another. */
    static void unchanged(Supplier<WhirlShafts> state, ToLongFunction<WhirlShafts> call) {
        checks.merge(words, 1, Integer::sum);
        for (int way = 0; way < WAYS; way++) {
            WhirlShafts without = state.get();
            WhirlShafts with = state.get();
            call.applyAsLong(with);
            List<Long> want = seen(without, way);
            List<Long> got = seen(with, way);
            if (!want.equals(got)) {
                tell("has changed what is seen in way " + way + ": " + firstUnlike(got, want));
                return;
            }
        }
    }

    private static String firstUnlike(List<Long> got, List<Long> want) {
        int i = 0;
        while (got.get(i).equals(want.get(i))) i++;
        return "look " + i + " shows " + got.get(i) + " in place of " + want.get(i);
    }

    private static final int UNDOES = 13, REDOES = 13, WAYS = UNDOES + REDOES + 6;

    /** What an object shows when it is looked at, some of what it holds having been brought to light. */
    private static List<Long> seen(WhirlShafts x, int way) {
        List<Long> seen = new ArrayList<>();
        for (int i = 0; i < way && way < UNDOES; i++) seen.add((long) x.undo());
        for (int i = UNDOES; i <= way && way < UNDOES + REDOES; i++) seen.add((long) x.redo());
        switch (way - UNDOES - REDOES) {
            case 0: seen.add((long) x.does()); break;
            case 1: seen.add((long) x.feed('1')); seen.add((long) x.read()); break;
            case 2: seen.add((long) x.read()); break;
            case 3: seen.add((long) x.back()); break;
            case 4: seen.add((long) x.back()); seen.add((long) x.does()); break;
            case 5: showSorts(x, seen); break;
            default: break;
        }
        look(x, seen);
        return seen;
    }

    private static void showSorts(WhirlShafts x, List<Long> seen) {
        for (int row = 0; row < 3; row++) {
            seen.add((long) x.put(row, 0, (1L << 40) + (1L << 20) + 300));
            seen.add(x.get(row, 0));
        }
    }

    private static void look(WhirlShafts x, List<Long> seen) {
        for (int what = 0; what <= 8; what++) seen.add((long) x.count(what));
        for (int what = 0; what <= 12; what++) {
            for (int number = 0; number < 8; number++) seen.add((long) x.of(what, number));
        }
        for (int row = 0; row < 3; row++) {
            for (int i = 0; i <= 40; i++) seen.add(x.get(row, i));
        }
        for (int i = 0; i < 8; i++) seen.add((long) x.trace(i));
        seen.add((long) x.alike());
    }

    static void feed(WhirlShafts x, String text) {
        for (int i = 0; i < text.length(); i++) x.feed(text.charAt(i));
    }

    static int read(WhirlShafts x, String text) {
        feed(x, text);
        return x.read();
    }

    /** One DISC in a BEARING: RATE 0 is BEARING by MASS. */
    static WhirlShafts single(int mass, int bearing) {
        WhirlShafts x = new WhirlShafts();
        x.disc(DISC, mass, 0);
        x.set(BEARING, 0, bearing);
        return x;
    }

    /** Two like DISCS: RATES 0 and 2 times STIFF by MASS. */
    static WhirlShafts pair(int mass, int stiff) {
        return like(2, mass, stiff);
    }

    /** Like DISCS by like SHAFTS. */
    static WhirlShafts like(int discs, int mass, int stiff) {
        WhirlShafts x = new WhirlShafts();
        for (int i = 0; i < discs; i++) x.disc(DISC, mass, stiff);
        return x;
    }

    /** Something of all that there is, nothing full: three DISCS, THE IMAGE has two, ROW 2 is missing. */
    static WhirlShafts rich() {
        WhirlShafts x = new WhirlShafts();
        x.disc(CROWN, 7, 0);
        x.disc(DISC, 5, 11);
        x.set(BEARING, 1, 3);
        x.set(SPIN, 0, 2);
        x.order(STIFF, 0, 33);
        x.image();
        x.drop();
        x.disc(SHELL, 19, 12);
        x.set(RATIO, 0, 2);
        x.set(BEARING, 0, 8);
        x.set(WAY, 0, AFT);
        x.set(SPIN, 0, 5);
        x.set(MASS, 2, 20);
        x.set(STIFF, 1, 44);
        for (int i = 0; i < 3; i++) x.undo();
        x.order(MASS, 1, 60);
        x.order(BEARING, 2, 70);
        x.order(RATIO, 1, 3);
        feed(x, "n3;w");
        x.row(0, 0, 3);
        x.row(1, 1, 4);
        for (int i = 0; i < 4; i++) {
            x.put(0, i, 50 + i);
            x.put(1, i, 1000 + i);
        }
        x.act(2, 2, 5);
        return x;
    }

    /** As much as there can be: 8 DISCS, 8 ORDERS, 12 CHANGES, 80 bytes, three ROWS of 40 (bytes, ints, longs). */
    static WhirlShafts crowded() {
        WhirlShafts x = new WhirlShafts();
        for (int i = 0; i < 8; i++) x.disc(i % 5, 11 + i, 21 + i);
        x.image();
        for (int i = 0; i < 7; i++) x.set(BEARING, i, 31 + i);
        for (int i = 0; i < 5; i++) x.set(STIFF, i, 41 + i);
        for (int i = 0; i < 8; i++) x.order(MASS, i, 51 + i);
        StringBuilder text = new StringBuilder();
        for (int i = 0; i < 26; i++) text.append("n").append(i % 10).append(";");
        feed(x, text.append("w1").toString());
        for (int row = 0; row < 3; row++) {
            x.row(row, row, 40);
            x.put(row, 0, 61 + row);
            x.put(row, 39, 71 + row);
        }
        x.act(4, 1, 9);
        return x;
    }

    /** As rich(), but no DISCS: a CHANGE to be UNDONE, one to be DONE AGAIN. */
    static WhirlShafts emptied() {
        WhirlShafts x = rich();
        x.clear();
        x.set(SPIN, 0, 7);
        x.set(WAY, 0, FORE);
        x.undo();
        return x;
    }

    static WhirlShafts bare() {
        return new WhirlShafts();
    }
}
