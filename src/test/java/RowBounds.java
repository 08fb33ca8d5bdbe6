/** Boundary cases of ROWS: promises 33 to 37. */
final class RowBounds extends Bound {
    private static final int[] WRONG_ROWS = {-1, 3, MIN, MAX};
    private static final int[] WRONG_Q = {0, 17, -1, MIN, MAX};

    static void run() {
        missingAtFirst();
        sizes();
        rowRefused();
        missingAgain();
        lowestBits();
        putRefused();
        getRefused();
        filmIs();
        filmRefused();
        copiesAsTheyWere();
        copyRefused();
    }

    private static void missingAtFirst() {
        sentence("ROWS 0 .. 2 are missing (at first), or hold 0 .. 40 numbers of a sort: 0 bytes, 1 ints, 2 longs: -11 it is missing, "
            + "-12 another sort, -13 a place outside, -14 a size below 0.", 33, 34, 35, 37, 44);
        WhirlShafts x = bare();
        due(x.count(8), 0);
        for (int row = 0; row <= 2; row++) {
            due(x.put(row, 0, 1), MISSING);
            due(x.get(row, 0), VOID);
            due(x.copy(row, 0, row, 0, 0), MISSING);
            due(x.judge(row, 1), MISSING);
        }
        for (int row = 0; row <= 2; row++) {
            due(x.row(row, row, 40 * (row % 2)), 1);
            due(x.count(8), row + 1);
        }
        due(x.put(0, 0, 1), OUTSIDE);         // of none
        due(x.put(1, 39, 1), 1);
        due(x.put(1, 40, 1), OUTSIDE);
        due(x.copy(0, 0, 1, 0, 0), OTHER_SORT);
        due(x.row(1, 1, -1), SIZE_BELOW_0);
        due(x.get(1, 39), 1);
    }

    private static void sizes() {
        sentence("A ROW holds n numbers (0 .. 40) of a sort, all 0, or is missing (sort -1: n does not matter): 1.", 33);
        for (int sort = 0; sort <= 2; sort++) {
            int[] ns = {0, 1, 39, 40};
            for (int n : ns) {
                WhirlShafts x = crowded();    // full of other numbers
                due(x.row(sort, sort, n), 1);
                for (int i = 0; i < n; i++) due(x.get(sort, i), 0);
                due(x.get(sort, n), VOID);
                due(x.get(sort, -1), VOID);
                due(x.put(sort, n, 1), OUTSIDE);
                due(x.count(8), 3);
            }
            int s = sort;
            bad(Bound::rich, x -> x.row(0, s, 41));
            refused(Bound::rich, SIZE_BELOW_0, x -> x.row(0, s, -1));
        }
        WhirlShafts y = bare();               // longer again: all 0
        y.row(0, 1, 5);
        for (int i = 0; i < 5; i++) y.put(0, i, 7);
        y.row(0, 1, 2);
        y.row(0, 1, 5);
        for (int i = 0; i < 5; i++) due(y.get(0, i), 0);
    }

    private static void rowRefused() {
        sentence("BAD: row, sort, n above 40; -14.", 33);
        for (int row : WRONG_ROWS) {
            bad(Bound::rich, x -> x.row(row, 0, 1));
            bad(Bound::rich, x -> x.row(row, -1, 1));
            bad(Bound::rich, x -> x.row(row, 0, -1));
        }
        int[] wrongSorts = {-2, 3, MIN, MAX};
        for (int sort : wrongSorts) {
            bad(Bound::rich, x -> x.row(1, sort, 1));
            bad(Bound::rich, x -> x.row(1, sort, -1));
        }
        int[] tooMany = {41, 1000, MAX};
        int[] tooFew = {-1, -40, MIN};
        for (int row = 0; row <= 2; row++) {
            int r = row;
            for (int n : tooMany) bad(Bound::rich, x -> x.row(r, 1, n));
            for (int n : tooFew) refused(Bound::rich, SIZE_BELOW_0, x -> x.row(r, 1, n));
        }
        due(rich().row(2, 2, 40), 1);
        due(rich().row(2, 2, 0), 1);
    }

    private static void missingAgain() {
        sentence("or is missing (sort -1: n does not matter): 1.", 33);
        int[] ns = {MIN, -1, 0, 40, 41, MAX};
        for (int n : ns) {
            WhirlShafts x = crowded();
            due(x.row(1, -1, n), 1);
            due(x.count(8), 2);
            due(x.put(1, 0, 1), MISSING);
            due(x.get(1, 0), VOID);
            due(x.row(1, -1, n), 1);          // is missing already
            due(x.count(8), 2);
            due(x.get(0, 0), 61);
            due(x.get(2, 39), 73);
            due(x.row(1, 1, 40), 1);
            due(x.get(1, 0), 0);              // nothing is left of what it held
        }
    }

    private static void lowestBits() {
        sentence("Place i of a ROW becomes v (its lowest bits, as many as it has): 1.", 34, 35);
        long[] told = {0, 127, 128, 255, 256, -128, -129, -1, MAX, 1L << 31, 1L << 32, (1L << 32) - 1, MIN, (long) MIN - 1,
            Long.MAX_VALUE, Long.MIN_VALUE + 1};
        long[] bytes = {0, 127, -128, -1, 0, -128, 127, -1, -1, 0, 0, -1, 0, -1, -1, 1};
        long[] ints = {0, 127, 128, 255, 256, -128, -129, -1, MAX, MIN, 0, -1, MIN, MAX, -1, 1};
        WhirlShafts x = bare();
        for (int sort = 0; sort <= 2; sort++) x.row(sort, sort, 40);
        for (int i = 0; i < told.length; i++) {
            for (int sort = 0; sort <= 2; sort++) due(x.put(sort, i, told[i]), 1);
            due(x.get(0, i), bytes[i]);
            due(x.get(1, i), ints[i]);
            due(x.get(2, i), told[i]);
        }
        due(x.put(2, 0, Long.MIN_VALUE), 1);
        due(x.get(2, 0), Long.MIN_VALUE);     // as VOID, but it is there
        for (int sort = 0; sort <= 2; sort++) {
            due(x.put(sort, 39, 5), 1);
            due(x.get(sort, 39), 5);
            due(x.get(sort, 38), 0);
        }
    }

    private static void putRefused() {
        sentence("BAD; -11; -13.", 34);
        for (int row : WRONG_ROWS) {
            bad(Bound::rich, x -> x.put(row, 0, 1));
            bad(Bound::rich, x -> x.put(row, -1, 1));
        }
        int[] places = {MIN, -1, 0, 40, MAX};
        for (int i : places) refused(Bound::rich, MISSING, x -> x.put(2, i, 1));
        int[] outside = {MIN, -1, 3, 4, 39, 40, MAX};
        for (int i : outside) refused(Bound::rich, OUTSIDE, x -> x.put(0, i, 1));
        int[] outsideOfFull = {MIN, -1, 40, 41, MAX};
        for (int i : outsideOfFull) {
            for (int row = 0; row <= 2; row++) {
                int r = row;
                refused(Bound::crowded, OUTSIDE, x -> x.put(r, i, 1));
            }
        }
        due(rich().put(0, 2, 1), 1);
        due(rich().put(1, 3, 1), 1);
    }

    private static void getRefused() {
        sentence("Place i of a ROW. VOID: no such ROW, missing, no such place.", 35);
        for (int row : WRONG_ROWS) refused(Bound::rich, VOID, x -> x.get(row, 0));
        int[] places = {MIN, -1, 0, 40, MAX};
        for (int i : places) refused(Bound::rich, VOID, x -> x.get(2, i));
        int[] outside = {MIN, -1, 3, 40, MAX};
        for (int i : outside) refused(Bound::rich, VOID, x -> x.get(0, i));
        due(rich().get(0, 0), 50);
        due(rich().get(0, 2), 52);
        due(crowded().get(1, 39), 72);
        due(crowded().get(1, 40), VOID);
        sentence("VOID: the least long.", 35);
        due(WhirlShafts.VOID, Long.MIN_VALUE);
        due(bare().get(0, 0), Long.MIN_VALUE);
        sentence("BAD (-1): no such one, a number out of its range. NOT (-2): there is none. FULL (-3). STATE (-5): as told.", 2, 3,
            16, 30);
        due(single(1, 1).gap(1, 0), -2);
        due(single(1, 1).gap(17, 0), -1);
        due(bare().cut(), -5);
        due(crowded().feed('x'), -3);
        due(crowded().disc(0, 1, 1), -3);
        due(WhirlShafts.BAD, -1);
        due(WhirlShafts.NOT, -2);
        due(WhirlShafts.FULL, -3);
        due(WhirlShafts.STATE, -5);
    }

    private static void filmIs() {
        sentence("A ROW becomes FENCES by q of all RATES, of a sort (their lowest bits): how many.", 36);
        for (int sort = 0; sort <= 2; sort++) {
            WhirlShafts none = crowded();
            none.clear();
            due(none.film(sort, sort, 16), 0);        // a ROW of none, not a missing one
            due(none.count(8), 3);
            due(none.get(sort, 0), VOID);
            due(none.put(sort, 0, 1), OUTSIDE);
            WhirlShafts x = pair(1, 99);              // FENCES by 16 are 0 and 3168
            x.row(0, 2 - sort, 40);
            due(x.film(0, sort, 16), 2);
            due(x.get(0, 0), 0);
            due(x.get(0, 1), sort == 0 ? 3168 - 12 * 256 : 3168);
            due(x.get(0, 2), VOID);
            due(x.put(0, 1, 1L << 40), 1);
            due(x.get(0, 1), sort == 2 ? 1L << 40 : 0);
        }
        int[] bearings = {0, 8, 15, 16, 31, 32};      // RATE 0 by 16 as a byte, MASS 2
        int[] seen = {0, 64, 120, -128, -8, 0};
        for (int i = 0; i < bearings.length; i++) {
            WhirlShafts x = single(2, bearings[i]);
            due(x.film(2, 0, 16), 1);
            due(x.get(2, 0), seen[i]);
        }
        WhirlShafts eight = like(8, 1, 99);
        due(eight.film(1, 2, 1), 8);
        due(eight.get(1, 7), 380);
        due(eight.get(1, 8), VOID);
    }

    private static void filmRefused() {
        sentence("BAD: row, sort, q.", 36);
        for (int row : WRONG_ROWS) bad(Bound::rich, x -> x.film(row, 1, 1));
        int[] wrongSorts = {-1, 3, -2, MIN, MAX};
        for (int sort : wrongSorts) {
            bad(Bound::rich, x -> x.film(0, sort, 1));
            bad(Bound::rich, x -> x.film(2, sort, 1));
        }
        for (int q : WRONG_Q) {
            bad(Bound::rich, x -> x.film(0, 1, q));
            bad(Bound::emptied, x -> x.film(2, 1, q));
        }
        for (int row = 0; row <= 2; row++) due(rich().film(row, 0, 16), 3);
    }

    private static void holds(WhirlShafts x, int row, long... numbers) {
        for (int i = 0; i < numbers.length; i++) due(x.get(row, i), numbers[i]);
        due(x.get(row, numbers.length), VOID);
    }

    private static WhirlShafts counted(int sort) {
        WhirlShafts x = bare();
        x.row(0, sort, 6);
        x.row(1, sort, 3);
        for (int i = 0; i < 6; i++) x.put(0, i, i + 1);
        for (int i = 0; i < 3; i++) x.put(1, i, i + 7);
        return x;
    }

    private static void copiesAsTheyWere() {
        sentence("n places of a ROW, from i on, come to another one's (or its own) place j on, as they were: n.", 37);
        for (int sort = 0; sort <= 2; sort++) {
            WhirlShafts x = counted(sort);
            due(x.copy(0, 3, 1, 0, 3), 3);
            holds(x, 1, 4, 5, 6);
            holds(x, 0, 1, 2, 3, 4, 5, 6);
            due(x.copy(0, 0, 1, 2, 1), 1);
            holds(x, 1, 4, 5, 1);
            WhirlShafts up = counted(sort);
            due(up.copy(0, 0, 0, 1, 5), 5);           // over its own places, upward
            holds(up, 0, 1, 1, 2, 3, 4, 5);
            WhirlShafts down = counted(sort);
            due(down.copy(0, 1, 0, 0, 5), 5);         // and downward
            holds(down, 0, 2, 3, 4, 5, 6, 6);
            WhirlShafts same = counted(sort);
            due(same.copy(0, 0, 0, 0, 6), 6);
            holds(same, 0, 1, 2, 3, 4, 5, 6);
            due(same.copy(0, 6, 1, 3, 0), 0);         // none, from the end to the end
            due(same.copy(0, 0, 1, 0, 0), 0);
            holds(same, 1, 7, 8, 9);
        }
        WhirlShafts full = crowded();
        due(full.copy(2, 0, 2, 0, 40), 40);
        due(full.copy(2, 39, 2, 1, 1), 1);
        due(full.get(2, 1), 73);
        WhirlShafts empty = bare();
        empty.row(0, 0, 0);
        due(empty.copy(0, 0, 0, 0, 0), 0);
        due(empty.copy(0, 0, 0, 0, 1), OUTSIDE);
    }

    private static void copyRefused() {
        sentence("BAD: rows; -11: either is missing; -12: of unlike sorts; -13: n, i, j below 0, or beyond either's end.", 37);
        for (int row : WRONG_ROWS) {
            bad(Bound::rich, x -> x.copy(row, 0, 0, 0, 1));
            bad(Bound::rich, x -> x.copy(0, 0, row, 0, 1));
            bad(Bound::rich, x -> x.copy(row, 0, 2, 0, 1));
            bad(Bound::rich, x -> x.copy(2, 0, row, 0, 1));
            bad(Bound::rich, x -> x.copy(row, -1, row, -1, -1));
        }
        refused(Bound::rich, MISSING, x -> x.copy(2, 0, 0, 0, 1));
        refused(Bound::rich, MISSING, x -> x.copy(0, 0, 2, 0, 1));
        refused(Bound::rich, MISSING, x -> x.copy(2, 0, 2, 0, 0));
        refused(Bound::rich, MISSING, x -> x.copy(0, -1, 2, 0, 1));
        refused(Bound::rich, OTHER_SORT, x -> x.copy(0, 0, 1, 0, 1));
        refused(Bound::rich, OTHER_SORT, x -> x.copy(1, 0, 0, 0, 0));
        refused(Bound::rich, OTHER_SORT, x -> x.copy(1, 0, 0, 0, -1));
        refused(Bound::crowded, OTHER_SORT, x -> x.copy(0, 0, 2, 0, 1));
        refused(Bound::crowded, OTHER_SORT, x -> x.copy(1, 0, 2, 0, 1));
        outside(0, 0, 1, 0, -1);
        outside(0, -1, 1, 0, 1);
        outside(0, 0, 1, -1, 1);
        outside(0, -1, 1, 0, 0);
        outside(0, 0, 1, -1, 0);
        outside(0, 0, 1, 0, 4);               // ROW 1 has 3
        outside(1, 0, 0, 0, 4);
        outside(0, 0, 1, 1, 3);
        outside(0, 4, 1, 0, 3);               // ROW 0 has 6
        outside(1, 1, 0, 0, 3);
        outside(0, 7, 1, 0, 0);
        outside(0, 0, 1, 4, 0);
        outside(0, 0, 0, 0, 7);
        outside(0, 1, 0, 0, 6);
        outside(0, 0, 0, 1, 6);
        outside(0, MAX, 1, 0, 1);             // what wraps is outside, too
        outside(0, 1, 1, 0, MAX);
        outside(0, 0, 1, MAX, MAX);
        outside(0, MAX, 1, MAX, MAX);
        outside(0, MIN, 1, 0, MIN);
        outside(0, MIN, 1, MIN, MAX);
        due(counted(1).copy(0, 3, 1, 0, 3), 3);
        due(counted(1).copy(1, 0, 0, 3, 3), 3);
    }

    private static void outside(int row, int i, int other, int j, int n) {
        refused(() -> counted(1), OUTSIDE, x -> x.copy(row, i, other, j, n));
    }
}
