import java.util.function.Supplier;
import java.util.function.ToLongFunction;

/** Boundary cases of RATES as they are: promises 7 to 16. */
final class RateBounds extends Bound {
    private static final int[] WRONG_P = {-1, 10000, MIN, MAX};
    private static final int[] WRONG_Q = {0, 17, -1, MIN, MAX};

    static void run() {
        pAndQ();
        qAlone();
        rateNumbers();
        nothingChanges();
        firstRow();
        nextRow();
        noBounds();
        zeroHasTheSignAhead();
        lessThan();
        lastRowIsZero();
        noDiscs();
        topIs();
        topRises();
        andIsASum();
        ratesNumbered();
        fenceIs();
        signIs();
        signRefused();
        nodesAre();
        restIs();
        heldIs();
        bandIs();
        gapIs();
        gapRefused();
    }

    /** A call with p and q. */
    private interface At {
        long on(WhirlShafts x, int p, int q);
    }

    private static void ranges(At call, int refusal) {
        for (int p : WRONG_P) {
            refused(Bound::rich, refusal, x -> call.on(x, p, 1));
            refused(Bound::rich, refusal, x -> call.on(x, p, 16));
        }
        for (int q : WRONG_Q) {
            refused(Bound::rich, refusal, x -> call.on(x, 0, q));
            refused(Bound::rich, refusal, x -> call.on(x, 9999, q));
        }
        int[][] edges = {{0, 1}, {0, 16}, {9999, 1}, {9999, 16}};
        for (int[] edge : edges) due(call.on(rich(), edge[0], edge[1]) == refusal ? 1 : 0, 0);
    }

    private static void pAndQ() {
        sentence("TRANSFER at p by q (p 0 .. 9999, q 1 .. 16) of DISCS from a to b", 7, 8, 9, 10, 11, 14);
        ranges((x, p, q) -> x.below(p, q), BAD);
        ranges((x, p, q) -> x.isRate(p, q), BAD);
        ranges((x, p, q) -> x.nodes(p, q), BAD);
        ranges((x, p, q) -> x.sign(0, p, q), NO_SIGN);
        ranges((x, p, q) -> x.sign(2, p, q), NO_SIGN);
        for (int i = 0; i <= 3; i++) {
            int row = i;
            ranges((x, p, q) -> x.rest(row, p, q), BAD);
        }
        for (int i = 0; i <= 2; i++) {
            int disc = i;
            ranges((x, p, q) -> x.held(disc, p, q), BAD);
        }
        for (int p : WRONG_P) due(bare().below(p, 1), BAD);
        for (int q : WRONG_Q) due(bare().below(0, q), BAD);
        // MASS 1, no BEARING: row 1 is -p. MASS 1, BEARING 99: row 1 at 0 is 99 times q.
        due(single(1, 0).rest(1, 9999, 1), 10007 - 9999);
        due(single(1, 99).rest(1, 0, 16), 1584);
        due(single(1, 0).below(9999, 16), 1);
        due(single(1, 0).below(0, 16), 0);
    }

    private static void qAlone() {
        sentence("RATE k is one of 0 .. n - 1; q 1 .. 16 and p 0 .. 9999 wherever they are told, but as told.",
            13, 15, 16, 17, 18, 19, 20, 21, 22, 23, 25, 36);
        for (int q : WRONG_Q) {
            bad(Bound::rich, x -> x.fence(0, q));
            bad(Bound::rich, x -> x.band(0, 5, q));
            bad(Bound::rich, x -> x.gap(q, 0));
            bad(Bound::rich, x -> x.gap(q, 1));
            bad(Bound::rich, x -> x.trim(0, 0, 5, q, 0));
            bad(Bound::rich, x -> x.tune(0, 0, 5, q));
            bad(Bound::rich, x -> x.heavier(0, q, 0));
            bad(Bound::rich, x -> x.change(0, q));
            bad(Bound::rich, x -> x.fits(0, 1, q, 0, 0));
            bad(Bound::rich, x -> x.judge(0, q));
            bad(Bound::rich, x -> x.tried(0, q));
            bad(Bound::rich, x -> x.film(0, 1, q));
        }
        for (int p : WRONG_P) {
            bad(Bound::rich, x -> x.trim(0, 0, p, 1, 0));
            bad(Bound::rich, x -> x.band(p, 9999, 1));
            bad(Bound::rich, x -> x.band(0, p, 1));
            bad(Bound::rich, x -> x.tune(0, p, 9999, 1));
            bad(Bound::rich, x -> x.tune(0, 0, p, 1));
        }
        // RATE 3 by 1 and by 16.
        WhirlShafts x = single(4, 12);
        due(x.fence(0, 1), 3);
        due(x.fence(0, 16), 48);
        due(x.band(0, 9999, 1), 1);
        due(x.band(0, 9999, 16), 1);
        due(x.trim(0, 0, 0, 1, 0), 13);
        due(x.trim(0, 0, 9999, 16, 0), 1);
        due(x.heavier(0, 1, 1), 2);
        due(x.heavier(0, 16, 1), 38);
        due(x.change(0, 1), NOT);
        due(x.change(0, 16), NOT);
        due(x.tried(0, 1), 3);
        due(x.tried(0, 16), 48);
        due(x.film(0, 2, 1), 1);
        due(x.get(0, 0), 3);
        due(x.film(0, 2, 16), 1);
        due(x.get(0, 0), 48);
        due(x.judge(0, 16), NOT);
        due(x.judge(0, 1), 0);
    }

    private static void rateNumbers() {
        sentence("RATE k is one of 0 .. n - 1;", 13, 17, 19, 20, 21, 25);
        int[] wrongRates = {-1, 3, MIN, MAX};
        for (int rate : wrongRates) {
            bad(Bound::rich, x -> x.fence(rate, 1));
            bad(Bound::rich, x -> x.trim(0, rate, 5, 1, 0));
            bad(Bound::rich, x -> x.heavier(rate, 1, 0));
            bad(Bound::rich, x -> x.change(rate, 1));
            bad(Bound::rich, x -> x.critical(rate));
            bad(Bound::rich, x -> x.tried(rate, 1));
        }
        for (int rate = -1; rate <= 0; rate++) {  // no DISCS: no RATE
            int k = rate;
            bad(Bound::emptied, x -> x.fence(k, 1));
            bad(Bound::emptied, x -> x.trim(0, k, 5, 1, 0));
            bad(Bound::emptied, x -> x.heavier(k, 1, 0));
            bad(Bound::emptied, x -> x.change(k, 1));
            bad(Bound::emptied, x -> x.critical(k));
            bad(Bound::emptied, x -> x.tried(k, 1));
        }
        WhirlShafts x = like(8, 1, 99);
        due(x.fence(8, 1), BAD);
        due(x.fence(7, 1), 380);              // 396 times the square of the sine of 7 pi by 16
        due(x.fence(0, 1), 0);
        due(x.tried(7, 1), 380);
        due(x.tried(8, 1), BAD);
        due(x.critical(7), NOT);
        due(x.critical(0), 1);
    }

    private static void asked(ToLongFunction<WhirlShafts> call) {
        unchanged(Bound::rich, call);
        unchanged(Bound::crowded, call);
        unchanged(Bound::emptied, call);
        unchanged(Bound::bare, call);
    }

    private static void nothingChanges() {
        sentence("All that follows is asked, and changes nothing.", 7, 8, 9, 10, 11, 12, 13, 14, 15, 16, 17, 18, 19, 20, 21, 22,
            23, 25);
        asked(x -> x.below(50, 3));
        asked(x -> x.isRate(50, 3));
        asked(x -> x.sign(1, 50, 3));
        asked(x -> x.nodes(50, 3));
        asked(x -> x.rest(2, 50, 3));
        asked(WhirlShafts::top);
        asked(x -> x.fence(1, 16));
        asked(x -> x.held(1, 50, 3));
        asked(x -> x.band(5, 50, 3));
        asked(x -> x.gap(16, 0));
        asked(x -> x.trim(1, 1, 40, 16, 0));
        asked(x -> x.tune(0, 5, 40, 16));
        asked(x -> x.heavier(1, 16, 0));
        asked(x -> x.change(1, 16));
        asked(x -> x.critical(1));
        asked(x -> x.fits(0, 0, 16, 1, 0));
        asked(x -> x.fits(0, 1, 16, 1, 1));
        asked(x -> x.fits(0, 1, 16, 1, 2));
        asked(x -> x.judge(0, 16));
        asked(x -> x.tried(1, 16));
    }

    private static void firstRow() {
        sentence("rows E: the first is 1;", 9, 11);
        for (int n = 0; n <= 8; n++) {
            due(like(n, 5, 9).rest(0, 9999, 16), 1);
            due(like(n, 5, 9).rest(0, 0, 1), 1);
        }
        sentence("less, but for a, q times q times the square of REDUCED STIFF of SHAFT i - 1 times the last but one.", 11, 14);
        WhirlShafts x = like(3, 1, 2);        // HOLDS 2, 4, 2
        due(x.rest(1, 1, 1), 1);              // nothing is taken off the first
        due(x.rest(2, 1, 1), 10007 - 1);      // 3 times 1, less 4
        due(x.rest(3, 1, 1), 10007 - 5);      // 1 times -1, less 4 times 1
        due(x.rest(2, 1, 3), 11 * 5 - 36);
        // DISC 1 is the first one behind a held DISC 0: 4 less p, then (2 less p) times that, less 4: RATES 3 -+ root of 5.
        due(x.held(0, 0, 1), 0);
        due(x.held(0, 1, 1), 1);
        due(x.held(0, 5, 1), 1);
        due(x.held(0, 6, 1), 2);
    }

    private static void nextRow() {
        sentence("for each DISC i from a to b, one behind another: the next is (q times HOLDS of i, less p times REDUCED "
            + "INERTIA of i) times the last one,", 7, 9, 11, 14);
        WhirlShafts x = like(4, 5, 9);
        for (int i = 0; i < 4; i++) x.set(BEARING, i, 7);
        x.set(RATIO, 1, 2);
        x.set(RATIO, 2, 3);
        // HOLDS 16, 25, 73, 288; REDUCED INERTIAS 5, 5, 20, 180; REDUCED STIFFS 9, 9, 36; at 3 by 2.
        int first = 2 * 16 - 3 * 5;
        int second = (2 * 25 - 3 * 5) * first - 4 * 81;
        int third = (2 * 73 - 3 * 20) * second - 4 * 81 * first;
        int fourth = (2 * 288 - 3 * 180) * third - 4 * 1296 * second;
        int[] rows = {1, first, second, third, fourth};
        for (int i = 0; i <= 4; i++) due(x.rest(i, 3, 2), Math.floorMod(rows[i], 10007));
        for (int i = 0; i < 4; i++) due(x.sign(i, 3, 2), 1);
        due(x.below(3, 2), 1);                // the fourth is -764136
        due(x.held(0, 3, 2), 1);              // 1, 35, 2686, -84744
        due(x.held(1, 3, 2), 1);              // 1, 17; 1, 86, -2088
        due(x.held(2, 3, 2), 0);              // 1, 17, 271; 1, 36
        due(x.held(3, 3, 2), 0);              // 1, 17, 271, 17798
    }

    private static void noBounds() {
        sentence("(No bounds: they may have 70 figures.)", 7, 8, 9, 10, 11, 13, 14);
        int[][] ways = {{TWIST, 0}, {FORE, 9}, {AFT, 9}};
        for (int[] way : ways) {
            for (int q = 1; q <= 16; q += 5) widest(way[0], way[1], q);
        }
    }

    /** CROWNS of 99 behind a RATIO of 6, all that holds them as stiff as can be: by BigInteger. */
    private static void widest(int way, int spin, int q) {
        int[] points = {0, 1, 400, 4752, 9520, 9998, 9999};
        for (int p : points) {
            WhirlShafts x = bare();
            Model m = new Model(true);
            for (int i = 0; i < 8; i++) due(x.disc(CROWN, 99, 99), m.disc(CROWN, 99, 99));
            for (int i = 0; i < 8; i++) due(x.set(BEARING, i, 99), m.set(BEARING, i, 99));
            due(x.set(RATIO, 0, 6), m.set(RATIO, 0, 6));
            due(x.set(SPIN, 0, spin), m.set(SPIN, 0, spin));
            due(x.set(WAY, 0, way), m.set(WAY, 0, way));
            for (int i = 0; i <= 8; i++) due(x.rest(i, p, q), m.rest(i, p, q));
            for (int i = 0; i < 8; i++) due(x.sign(i, p, q), m.sign(i, p, q));
            for (int i = 0; i < 8; i++) due(x.held(i, p, q), m.held(i, p, q));
            for (int i = 0; i < 8; i++) due(x.fence(i, q), m.fence(i, q));
            due(x.below(p, q), m.below(p, q));
            due(x.isRate(p, q), m.isRate(p, q));
            due(x.nodes(p, q), m.nodes(p, q));
        }
    }

    private static void zeroHasTheSignAhead() {
        sentence("how many changes of sign there are from one to the next of all these rows, one that is 0 having the sign of "
            + "the one ahead of it.", 7, 10);
        WhirlShafts x = like(3, 2, 4);        // RATES 0, 2, 6
        due(x.below(2, 1), 1);                // rows 1, 0, -16, 0: one change, at the -16
        due(x.sign(1, 2, 1), 0);
        due(x.sign(2, 2, 1), -1);
        due(x.below(3, 1), 2);                // 1, -2, -20, 72
        due(x.below(1, 1), 1);                // 1, 2, -4, -40
        due(x.below(0, 1), 0);                // 1, 4, 16, 0
        due(x.below(6, 1), 2);                // 1, -8, 16, 0
        due(x.below(7, 1), 3);                // 1, -10, 44, -280
        WhirlShafts y = pair(2, 4);
        due(y.below(2, 1), 1);                // 1, 0, -16
        due(y.below(4, 1), 1);                // 1, -4, 0
        due(y.below(32, 16), 1);
    }

    private static void lessThan() {
        sentence("BELOW at p by q. BAD.", 7);
        for (int p : WRONG_P) bad(Bound::rich, z -> z.below(p, 1));
        for (int q : WRONG_Q) bad(Bound::rich, z -> z.below(5, q));
        due(like(3, 2, 4).below(0, 16), 0);
        due(like(3, 2, 4).below(9999, 16), 3);
        sentence("That is how many RATES (of the DISCS from a to b, all others held) are less than p by q.", 7, 14);
        WhirlShafts x = single(4, 12);        // RATE 3
        due(x.below(2, 1), 0);
        due(x.below(3, 1), 0);                // not less
        due(x.below(4, 1), 1);
        due(x.below(47, 16), 0);
        due(x.below(48, 16), 0);
        due(x.below(49, 16), 1);
        WhirlShafts y = pair(2, 4);           // RATES 0 and 4
        due(y.below(0, 1), 0);
        due(y.below(1, 16), 1);
        due(y.below(63, 16), 1);
        due(y.below(64, 16), 1);
        due(y.below(65, 16), 2);
        due(y.below(9999, 1), 2);
        due(like(8, 1, 99).below(9999, 1), 8);
        due(like(8, 1, 99).below(0, 1), 0);
        due(y.held(0, 2, 1), 0);              // DISC 1 by 4: RATE 2
        due(y.held(0, 3, 1), 1);
    }

    private static void lastRowIsZero() {
        sentence("A RATE there is at p by q, if the last row is 0.", 8);
        WhirlShafts x = single(4, 12);
        due(x.isRate(2, 1), 0);
        due(x.isRate(3, 1), 1);
        due(x.isRate(4, 1), 0);
        due(x.isRate(47, 16), 0);
        due(x.isRate(48, 16), 1);
        due(x.isRate(49, 16), 0);
        WhirlShafts y = pair(2, 4);
        due(y.isRate(0, 1), 1);
        due(y.isRate(0, 16), 1);
        due(y.isRate(1, 16), 0);
        due(y.isRate(2, 1), 0);               // row 1 is 0, the last is not
        due(y.isRate(4, 1), 1);
        due(single(1, 0).isRate(0, 1), 1);
        due(single(1, 0).isRate(9999, 1), 0);
        sentence("Whether a RATE there is at p by q (1, 0). BAD.", 8);
        for (int p : WRONG_P) bad(Bound::rich, z -> z.isRate(p, 1));
        for (int q : WRONG_Q) bad(Bound::rich, z -> z.isRate(5, q));
        // 4 less p, 8 less 2 p and so on: a row of which the lowest bits alone are 0 is not 0.
        due(like(8, 64, 64).isRate(9984, 16), 0);
        due(like(8, 64, 64).isRate(32, 16), 1);
    }

    private static void noDiscs() {
        sentence("Where nothing else is told a, b are all DISCS (none: BELOW is 0, a RATE there is at none).", 7, 8, 10, 15);
        int[][] points = {{0, 1}, {0, 16}, {9999, 1}, {9999, 16}};
        for (int[] at : points) {
            due(bare().below(at[0], at[1]), 0);
            due(bare().isRate(at[0], at[1]), 0);
            due(bare().nodes(at[0], at[1]), 0);
            due(bare().rest(0, at[0], at[1]), 1);
            due(bare().rest(1, at[0], at[1]), BAD);
            due(bare().sign(0, at[0], at[1]), NO_SIGN);
            due(bare().held(0, at[0], at[1]), BAD);
            due(bare().band(0, at[0], at[1]), 0);
            due(emptied().below(at[0], at[1]), 0);
            due(emptied().isRate(at[0], at[1]), 0);
        }
    }

    private static void topIs() {
        sentence("TOP: 1 and the greatest of (2 times HOLDS by REDUCED INERTIA, cut) of all DISCS (no DISCS: 0).", 12);
        due(bare().top(), 0);
        due(emptied().top(), 0);
        due(single(1, 0).top(), 1);
        due(single(99, 49).top(), 1);         // 98 by 99
        due(single(98, 49).top(), 2);         // 98 by 98
        due(single(97, 49).top(), 2);
        due(single(1, 99).top(), 199);
        WhirlShafts x = like(3, 1, 99);
        due(x.top(), 1 + 2 * 198);            // the DISC between is the greatest
        x.set(BEARING, 1, 99);
        due(x.top(), 595);                    // more there cannot be
        x.set(BEARING, 1, 0);
        x.set(MASS, 1, 99);
        due(x.top(), 1 + 198);                // now the first and the last are
        x.set(MASS, 0, 99);
        due(x.top(), 1 + 198);                // the last alone
        x.set(RATIO, 1, 6);
        due(x.top(), 1 + 198 / 36);           // REDUCED INERTIA of the last is 36; SHAFT 1 has the FACTOR of DISC 1
    }

    private static void topRises() {
        sentence("`int top()`: TOP.", 12);
        for (int n = 0; n <= 8; n++) due(like(n, 3, 2).top(), n == 0 ? 0 : n == 1 ? 1 : n == 2 ? 2 : 3);
        WhirlShafts x = single(3, 2);         // 4 by 3
        due(x.top(), 2);
        due(x.cut(), 0);
        due(x.top(), 0);
    }

    private static void andIsASum() {
        sentence("Two numbers in a bracket with \"and\" are their sum.", 6, 12, 23);
        WhirlShafts x = like(2, 5, 9);
        x.set(BEARING, 1, 4);
        due(x.of(11, 1), 4 + 9);
        due(x.top(), 1 + 2 * 13 / 5);
        x.film(0, 1, 1);
        x.row(1, 1, 1);
        x.copy(0, 0, 1, 0, 1);
        due(x.judge(1, 1), 100 + 1);
    }

    private static void ratesNumbered() {
        sentence("RATES are numbered 0 .. n - 1, the least first.", 13);
        WhirlShafts x = like(8, 1, 99);
        for (int i = 0; i < 8; i++) x.set(BEARING, i, 99);
        for (int k = 0; k < 8; k++) {
            double sine = Math.sin(Math.PI * k / 16);
            int want = k == 0 ? 1584 : k == 4 ? 4752 : (int) (16 * (99 + 396 * sine * sine));
            due(x.fence(k, 16), want);
        }
        due(x.fence(-1, 16), BAD);
        due(x.fence(8, 16), BAD);
    }

    private static void fenceIs() {
        sentence("FENCE of RATE k by q: the greatest p, from 0 to TOP times q, by which BELOW at p by q is k or less.", 13);
        due(single(4, 12).fence(0, 1), 3);    // at the RATE itself BELOW is still 0
        due(single(4, 11).fence(0, 1), 2);    // 11 by 4
        due(single(4, 13).fence(0, 1), 3);
        due(single(4, 12).fence(0, 3), 9);
        due(single(1, 0).fence(0, 16), 0);    // none above 0
        due(single(99, 6).fence(0, 16), 0);   // 96 by 99
        due(single(99, 7).fence(0, 16), 1);   // 112 by 99
        due(single(1, 99).fence(0, 16), 1584);
        due(pair(2, 4).fence(0, 16), 0);
        due(pair(2, 4).fence(1, 16), 64);
        due(pair(1, 99).fence(1, 16), 3168);
        WhirlShafts x = bare();               // RATE 2 is 149 and the root of 22102
        x.disc(DISC, 99, 0);
        x.disc(DISC, 1, 99);
        x.disc(DISC, 99, 99);
        x.set(BEARING, 1, 99);
        due(x.fence(0, 16), 5);               // 0.3326
        due(x.fence(1, 16), 16);              // 1
        due(x.fence(2, 16), 4762);            // 297.6674
        for (int k = 0; k < 3; k++) {
            int fence = x.fence(k, 16);
            due(x.below(fence, 16) <= k ? 1 : 0, 1);
            due(x.below(fence + 1, 16) > k ? 1 : 0, 1);
        }
        sentence("FENCE of a RATE by q. BAD.", 13);
        int[] wrongRates = {-1, 3, MIN, MAX};
        for (int rate : wrongRates) bad(Bound::rich, y -> y.fence(rate, 16));
        for (int q : WRONG_Q) bad(Bound::rich, y -> y.fence(2, q));
        bad(Bound::bare, y -> y.fence(0, 1));
    }

    private static void signIs() {
        sentence("of the row of which i rows are ahead (that of DISC 0 is the 1): -1, 0, 1.", 9);
        due(single(1, 0).sign(0, 9999, 1), 1);
        due(like(8, 1, 99).sign(0, 9999, 16), 1);
        WhirlShafts x = like(3, 2, 4);
        due(x.sign(1, 1, 1), 1);
        due(x.sign(1, 2, 1), 0);
        due(x.sign(1, 3, 1), -1);
        due(x.sign(1, 31, 16), 1);
        due(x.sign(1, 32, 16), 0);
        due(x.sign(1, 33, 16), -1);
        due(x.sign(2, 0, 1), 1);
        due(x.sign(2, 9999, 1), 1);           // two rows below 0 times one another
        due(like(8, 1, 99).sign(7, 9999, 1), -1);
    }

    private static void signRefused() {
        sentence("SIGN of a DISC at p by q (-1, 0, 1). -1000: BAD.", 9);
        int[] wrongDiscs = {-1, 3, MIN, MAX};
        for (int disc : wrongDiscs) refused(Bound::rich, NO_SIGN, x -> x.sign(disc, 5, 1));
        for (int p : WRONG_P) refused(Bound::rich, NO_SIGN, x -> x.sign(2, p, 1));
        for (int q : WRONG_Q) refused(Bound::rich, NO_SIGN, x -> x.sign(2, 5, q));
        refused(Bound::emptied, NO_SIGN, x -> x.sign(0, 0, 1));
        due(like(3, 2, 4).sign(2, 5, 1), -1); // 1, -6, (8 less 10) times -6 less 16: -4
    }

    private static void nodesAre() {
        sentence("how many changes of sign there are among the SIGNS of all DISCS (0 as above).", 10);
        WhirlShafts x = like(3, 2, 4);
        due(x.nodes(0, 1), 0);
        due(x.nodes(1, 1), 1);                // 1, 2, -4
        due(x.nodes(2, 1), 1);                // 1, 0, -16
        due(x.nodes(3, 1), 1);                // 1, -2, -20
        due(x.nodes(6, 1), 2);                // 1, -8, 16
        due(x.nodes(9999, 1), 2);             // never the last row
        due(x.below(9999, 1), 3);
        due(pair(2, 4).nodes(2, 1), 0);       // 1, 0
        due(pair(2, 4).nodes(3, 1), 1);
        due(single(1, 0).nodes(9999, 16), 0);
        due(bare().nodes(9999, 16), 0);
        due(like(8, 1, 99).nodes(9999, 1), 7);
        sentence("NODES at p by q. BAD.", 10);
        for (int p : WRONG_P) bad(Bound::rich, y -> y.nodes(p, 1));
        for (int q : WRONG_Q) bad(Bound::rich, y -> y.nodes(5, q));
    }

    private static void restIs() {
        sentence("REST of row i (0 .. n): its rest by 10007 (0 or above, also of one below 0).", 11);
        int[] wrongRows = {-1, 4, MIN, MAX};
        for (int row : wrongRows) bad(Bound::rich, x -> x.rest(row, 5, 1));
        due(like(8, 5, 9).rest(8, 0, 1), 0);
        due(like(8, 5, 9).rest(9, 0, 1), BAD);
        WhirlShafts x = single(99, 91);
        due(x.rest(1, 101, 1), 99);           // -9908
        due(x.rest(1, 102, 1), 0);            // -10007
        due(x.rest(1, 103, 1), 9908);         // -10106
        due(x.rest(1, 0, 1), 91);
        due(x.rest(1, 1, 1), 10007 - 8);
        due(single(1, 0).rest(1, 0, 1), 0);
        due(single(1, 0).rest(1, 1, 1), 10006);
        WhirlShafts y = pair(5, 9);           // row 2 at 0: HOLDS multiplied, less 81
        y.set(BEARING, 0, 88);
        y.set(BEARING, 1, 94);
        due(y.rest(2, 0, 1), 9910);
        y.set(BEARING, 1, 95);
        due(y.rest(2, 0, 1), 0);              // 10007
        y.set(BEARING, 0, 89);
        due(y.rest(2, 0, 1), 104);
        sentence("REST of row i at p by q. BAD.", 11);
        for (int p : WRONG_P) bad(Bound::rich, z -> z.rest(3, p, 1));
        for (int q : WRONG_Q) bad(Bound::rich, z -> z.rest(3, 5, q));
    }

    private static void heldIs() {
        sentence("HELD is DISC h: BELOW of those ahead of it and BELOW of those behind it, together.", 14);
        due(single(1, 0).held(0, 9999, 1), 0);    // none ahead, none behind
        WhirlShafts x = bare();
        x.disc(DISC, 1, 0);
        x.disc(DISC, 1, 3);
        x.disc(DISC, 1, 5);
        due(x.held(1, 3, 1), 0);              // RATES 3 and 5
        due(x.held(1, 4, 1), 1);
        due(x.held(1, 5, 1), 1);
        due(x.held(1, 6, 1), 2);
        due(x.held(0, 9999, 1), 2);
        due(x.held(2, 9999, 1), 2);
        due(x.held(0, 0, 1), 0);
        due(x.held(2, 0, 1), 0);
        WhirlShafts y = like(8, 1, 99);
        for (int disc = 0; disc < 8; disc++) due(y.held(disc, 9999, 1), 7);
        sentence("HELD: how many RATES are less than p by q then. BAD.", 14);
        int[] wrongDiscs = {-1, 3, MIN, MAX};
        for (int disc : wrongDiscs) bad(Bound::rich, z -> z.held(disc, 5, 1));
        for (int p : WRONG_P) bad(Bound::rich, z -> z.held(2, p, 1));
        for (int q : WRONG_Q) bad(Bound::rich, z -> z.held(2, 5, q));
        bad(Bound::emptied, z -> z.held(0, 5, 1));
    }

    private static void bandIs() {
        sentence("BAND from l to h by q: how many RATES are l by q or more, but less than h by q (l no more than h).", 15, 18);
        WhirlShafts x = pair(2, 4);           // RATES 0 and 4
        due(x.band(3, 9, 1), 1);
        due(x.band(4, 9, 1), 1);              // 4 or more
        due(x.band(5, 9, 1), 0);
        due(x.band(1, 3, 1), 0);
        due(x.band(1, 4, 1), 0);              // less than 4
        due(x.band(1, 5, 1), 1);
        due(x.band(0, 1, 16), 1);
        due(x.band(0, 0, 16), 0);
        due(x.band(0, 9999, 1), 2);
        due(x.band(4, 4, 1), 0);
        due(x.band(9999, 9999, 1), 0);
        due(x.band(64, 65, 16), 1);
        due(x.band(63, 64, 16), 0);
        bad(Bound::rich, y -> y.band(5, 4, 1));
        bad(Bound::rich, y -> y.band(1, 0, 1));
        bad(Bound::rich, y -> y.band(9999, 9998, 1));
        bad(Bound::rich, y -> y.tune(0, 5, 4, 1));
        due(rich().tune(0, 4, 4, 1), 1);
        sentence("BAND: how many. BAD.", 15);
        for (int p : WRONG_P) {
            bad(Bound::rich, y -> y.band(p, 9999, 1));
            bad(Bound::rich, y -> y.band(0, p, 1));
            bad(Bound::rich, y -> y.band(p, p, 1));
        }
        for (int q : WRONG_Q) bad(Bound::rich, y -> y.band(0, 5, q));
        due(x.band(0, 9999, 16), 2);
    }

    private static void gapIs() {
        sentence("GAP by q: the RATE k for which FENCE of k + 1 less FENCE of k is greatest, of like ones the first; that; NOT: "
            + "fewer than two DISCS.", 16);
        due(pair(2, 4).gap(16, 0), 0);
        due(pair(2, 4).gap(16, 1), 64);
        WhirlShafts like = like(3, 99, 1);    // FENCES by 1 are all 0
        due(like.gap(1, 0), 0);
        due(like.gap(1, 1), 0);
        WhirlShafts x = bare();               // RATES near 40, 80, 90 by 90: FENCES by 2 are 0, 1, 2
        for (int i = 0; i < 3; i++) x.disc(DISC, 90, 1);
        x.set(BEARING, 0, 90);
        x.set(BEARING, 1, 40);
        x.set(BEARING, 2, 80);
        for (int k = 0; k < 3; k++) due(x.fence(k, 2), k);
        due(x.gap(2, 0), 0);                  // like ones: the first
        due(x.gap(2, 1), 1);
        WhirlShafts last = like(3, 5, 10);    // RATES 0, 2, 6: the last is the greatest
        due(last.gap(1, 0), 1);
        due(last.gap(1, 1), 4);
        for (int what = 0; what <= 1; what++) {
            int w = what;
            refused(Bound::bare, NOT, y -> y.gap(1, w));
            refused(Bound::emptied, NOT, y -> y.gap(16, w));
            refused(() -> single(4, 12), NOT, y -> y.gap(1, w));
        }
    }

    private static void gapRefused() {
        sentence("GAP by q: the RATE (what 0), how much (1). BAD; NOT.", 16);
        int[] wrongWhats = {-1, 2, MIN, MAX};
        for (int what : wrongWhats) {
            bad(Bound::rich, x -> x.gap(1, what));
            bad(Bound::emptied, x -> x.gap(1, what));
        }
        for (int q : WRONG_Q) {
            bad(Bound::rich, x -> x.gap(q, 0));
            bad(Bound::emptied, x -> x.gap(q, 0));
        }
        Supplier<WhirlShafts> two = () -> pair(2, 4);
        unchanged(two, x -> x.gap(1, 0));
    }
}
