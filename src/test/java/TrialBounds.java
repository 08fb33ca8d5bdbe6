/** Boundary cases of RATES as they would be, and of FENCES that a ROW tells: promises 17 to 23. */
final class TrialBounds extends Bound {
    private static final int[] WRONG_P = {-1, 10000, MIN, MAX};
    private static final int[] WRONG_Q = {0, 17, -1, MIN, MAX};
    private static final int[] WRONG_OF_3 = {-1, 3, MIN, MAX};

    static void run() {
        trimIs();
        trimOfEach();
        trimRefused();
        tuneIs();
        tuneRefused();
        heavierIs();
        heavierRefused();
        changeIs();
        changeRefused();
        criticalIs();
        criticalRefused();
        fitsPlaces();
        fitsMasses();
        fitsWhats();
        fitsRefused();
        judged();
        judgeRefused();
        inPlaceOf();
        ownTop();
    }

    private static void trimIs() {
        sentence("the MASS (1 .. 99) by which FENCE of k differs least from p, of like ones the least; by how much.", 17);
        WhirlShafts x = single(4, 99);        // FENCE by 1 is 99 by MASS: 99, 49, 33 .. 1
        trims(x, 99, 1, 1, 0);
        trims(x, 100, 1, 1, 1);
        trims(x, 98, 1, 1, 1);
        trims(x, 9999, 1, 1, 9900);
        trims(x, 74, 1, 1, 25);               // 99 and 49 differ alike: the least MASS
        trims(x, 73, 1, 2, 24);
        trims(x, 1, 1, 50, 0);                // 50 .. 99 all have 1
        trims(x, 0, 1, 50, 1);                // none has 0
        trims(x, 16, 16, 94, 0);              // 1584 by 94 .. 99
        trims(x, 0, 16, 94, 16);
        WhirlShafts y = single(4, 98);
        trims(y, 0, 1, 99, 0);                // 99 alone has 0
        trims(y, 1, 1, 50, 0);
        WhirlShafts z = single(4, 97);
        trims(z, 0, 1, 98, 0);                // 98 and 99
        WhirlShafts none = single(4, 0);      // FENCE is 0 by all
        trims(none, 0, 1, 1, 0);
        trims(none, 9999, 16, 1, 9999);
        WhirlShafts free = pair(2, 4);        // RATE 0 is 0 by all, of either DISC
        due(free.trim(0, 0, 7, 1, 0), 1);
        due(free.trim(1, 0, 7, 1, 1), 7);
        due(x.of(MASS, 0), 4);
    }

    private static void trims(WhirlShafts x, int p, int q, int mass, int differs) {
        due(x.trim(0, 0, p, q, 0), mass);
        due(x.trim(0, 0, p, q, 1), differs);
    }

    /** A DISC alone: FENCE by 16 is 16 times BEARING by MASS, so each MASS can be looked at here, too. */
    private static void trimOfEach() {
        sentence("the MASS (1 .. 99) by which FENCE of k differs least from p, of like ones the least;", 17);
        for (int bearing = 1; bearing <= 99; bearing++) {
            WhirlShafts x = single(50, bearing);
            for (int mass = 1; mass <= 99; mass++) {
                int wish = 16 * bearing / mass;
                int least = 1;
                while (16 * bearing / least != wish) least++;
                due(x.trim(0, 0, wish, 16, 0), least);
                due(x.trim(0, 0, wish, 16, 1), 0);
            }
        }
    }

    private static void trimRefused() {
        sentence("TRIM: the MASS (what 0), by how much it differs (1). BAD.", 17);
        for (int number : WRONG_OF_3) {
            bad(Bound::rich, x -> x.trim(number, 0, 5, 1, 0));
            bad(Bound::rich, x -> x.trim(0, number, 5, 1, 0));
        }
        for (int p : WRONG_P) bad(Bound::rich, x -> x.trim(0, 0, p, 1, 0));
        for (int q : WRONG_Q) bad(Bound::rich, x -> x.trim(0, 0, 5, q, 0));
        int[] wrongWhats = {-1, 2, MIN, MAX};
        for (int what : wrongWhats) bad(Bound::rich, x -> x.trim(0, 0, 5, 1, what));
        bad(Bound::emptied, x -> x.trim(0, 0, 5, 1, 0));
        // The last DISC, the last RATE, the last p and q are answered, and nothing changes.
        due(like(3, 2, 4).trim(2, 2, 9999, 16, 0), 1);
        unchanged(Bound::rich, x -> x.trim(2, 2, 9999, 16, 0));
        unchanged(Bound::rich, x -> x.trim(2, 2, 0, 1, 1));
    }

    private static void tuneIs() {
        sentence("the least STIFF (1 .. 99) by which no RATE is in it; NOT.", 18);
        WhirlShafts x = pair(2, 4);           // RATES 0 and STIFF
        due(x.tune(0, 1, 1, 1), 1);           // nothing is in it
        due(x.tune(0, 2, 5, 1), 1);
        due(x.tune(0, 1, 2, 1), 2);
        due(x.tune(0, 1, 98, 1), 98);
        due(x.tune(0, 1, 99, 1), 99);         // less than 99 by 1
        due(x.tune(0, 1, 100, 1), NOT);
        due(x.tune(0, 0, 0, 1), 1);
        due(x.tune(0, 0, 1, 16), NOT);        // RATE 0 is in it by all
        due(x.tune(0, 1, 9999, 16), NOT);
        due(x.tune(0, 1584, 1584, 16), 1);
        due(x.tune(0, 16, 17, 16), 2);        // 16 by 16 is RATE 1 by STIFF 1
        due(x.tune(0, 17, 9999, 16), 1);
        due(x.of(STIFF, 0), 4);
    }

    private static void tuneRefused() {
        sentence("TUNE. BAD; NOT.", 18);
        int[] wrongShafts = {-1, 2, MIN, MAX};
        for (int shaft : wrongShafts) bad(Bound::rich, x -> x.tune(shaft, 1, 5, 1));
        for (int p : WRONG_P) {
            bad(Bound::rich, x -> x.tune(1, p, 9999, 1));
            bad(Bound::rich, x -> x.tune(1, 0, p, 1));
        }
        for (int q : WRONG_Q) bad(Bound::rich, x -> x.tune(1, 1, 5, q));
        bad(Bound::rich, x -> x.tune(1, 6, 5, 1));
        bad(() -> single(4, 12), x -> x.tune(0, 1, 5, 1));    // one DISC has no SHAFT
        bad(Bound::emptied, x -> x.tune(0, 1, 5, 1));
        refused(Bound::rich, NOT, x -> x.tune(1, 0, 9999, 1));
        unchanged(Bound::rich, x -> x.tune(1, 1, 5, 16));
    }

    private static void heavierIs() {
        sentence("the DISC by which, its MASS being 1 more (99 is not more), FENCE of k is least, of like ones the first; that "
            + "FENCE; NOT: all are 99.", 19);
        WhirlShafts x = pair(2, 4);
        due(x.heavier(1, 3, 0), 0);           // like ones: 4 by 3 and 4 by 2 are 10 by 3
        due(x.heavier(1, 3, 1), 10);
        x.set(MASS, 0, 98);
        due(x.heavier(0, 16, 0), 0);          // RATE 0 is 0 by both
        due(x.heavier(0, 16, 1), 0);
        due(x.heavier(1, 16, 0), 1);
        x.set(MASS, 0, 99);
        due(x.heavier(0, 16, 0), 1);          // DISC 0 cannot be
        x.set(MASS, 1, 98);
        due(x.heavier(1, 16, 0), 1);          // 98 can be 99
        due(x.heavier(1, 16, 1), 1);          // 8 by 99, by 16: 128 by 99
        x.set(MASS, 1, 99);
        due(x.heavier(1, 16, 0), NOT);
        due(x.heavier(1, 16, 1), NOT);
        x.set(MASS, 0, 98);
        due(x.heavier(1, 16, 0), 0);
        WhirlShafts one = single(98, 99);
        due(one.heavier(0, 16, 0), 0);
        due(one.heavier(0, 16, 1), 16);
        one.set(MASS, 0, 99);
        due(one.heavier(0, 16, 0), NOT);
        due(one.of(MASS, 0), 99);
    }

    private static void heavierRefused() {
        sentence("HEAVIER: the DISC (what 0), that FENCE (1). BAD; NOT.", 19);
        int[] wrongWhats = {-1, 2, MIN, MAX};
        for (int what : wrongWhats) {
            bad(Bound::rich, x -> x.heavier(0, 1, what));
            bad(() -> pair(99, 4), x -> x.heavier(0, 1, what));
        }
        for (int rate : WRONG_OF_3) bad(Bound::rich, x -> x.heavier(rate, 1, 0));
        for (int q : WRONG_Q) bad(Bound::rich, x -> x.heavier(0, q, 0));
        bad(Bound::emptied, x -> x.heavier(0, 1, 0));
        refused(() -> pair(99, 4), NOT, x -> x.heavier(0, 1, 0));
        refused(() -> pair(99, 4), NOT, x -> x.heavier(1, 16, 1));
        unchanged(Bound::rich, x -> x.heavier(2, 16, 0));
    }

    /** MASSES of three DISCS, SHAFTS of STIFF 10, BEARINGS. */
    private static WhirlShafts three(int[] masses, int[] bearings) {
        WhirlShafts x = bare();
        for (int i = 0; i < 3; i++) x.disc(DISC, masses[i], 10);
        for (int i = 0; i < 3; i++) x.set(BEARING, i, bearings[i]);
        return x;
    }

    private static void changeIs() {
        sentence("the DISC by which, it and the next one having each other's KIND and MASS, FENCE of k is greatest, greater than "
            + "as it is, of like ones the first; NOT.", 20);
        due(single(4, 12).change(0, 16), NOT);    // there is no next one
        due(pair(2, 4).change(1, 16), NOT);       // as it is, not greater
        due(pair(2, 4).change(0, 16), NOT);
        WhirlShafts mirror = bare();              // turned about, it is the same line
        mirror.disc(RIM, 3, 0);
        mirror.disc(HUB, 90, 7);
        due(mirror.change(1, 16), NOT);
        // A heavy DISC between two light ones, the BEARINGS alike: both changes mirror one another.
        WhirlShafts alike = three(new int[] {50, 1, 50}, new int[] {0, 99, 0});
        due(alike.fence(1, 16), 3);               // 10 by 50
        due(alike.change(1, 16), 0);
        // The last one alone is better: the heavy DISC should come to the BEARING.
        WhirlShafts last = three(new int[] {1, 50, 1}, new int[] {0, 0, 99});
        due(last.change(0, 16), 1);
        last.set(BEARING, 2, 0);
        last.set(BEARING, 0, 99);
        due(last.change(0, 16), 0);
        // By KIND alone, and by MASS alone.
        WhirlShafts kind = bare();
        kind.disc(RIM, 8, 0);
        kind.disc(HUB, 8, 10);
        kind.set(BEARING, 1, 80);
        due(kind.change(0, 16), 0);
        WhirlShafts mass = bare();
        mass.disc(RIM, 8, 0);
        mass.disc(RIM, 2, 10);
        mass.set(BEARING, 1, 80);
        due(mass.change(0, 16), 0);
        due(mass.of(MASS, 0), 8);
        due(kind.of(6, 0), RIM);
    }

    private static void changeRefused() {
        sentence("CHANGE. BAD; NOT.", 20);
        for (int rate : WRONG_OF_3) bad(Bound::rich, x -> x.change(rate, 1));
        for (int q : WRONG_Q) bad(Bound::rich, x -> x.change(0, q));
        bad(Bound::emptied, x -> x.change(0, 1));
        refused(() -> single(4, 12), NOT, x -> x.change(0, 1));
        refused(() -> pair(2, 4), NOT, x -> x.change(1, 16));
        unchanged(Bound::rich, x -> x.change(2, 16));
    }

    private static void criticalIs() {
        sentence("CRITICAL of RATE k: the least SPIN (1 .. 9) by which its FENCE by 1 is SPIN times SPIN or less; NOT.", 21);
        due(single(1, 0).critical(0), 1);
        for (int spin = 1; spin <= 9; spin++) {
            due(single(1, spin * spin).critical(0), spin);
            due(single(1, spin * spin + 1).critical(0), spin < 9 ? spin + 1 : NOT);
        }
        due(single(1, 99).critical(0), NOT);
        due(single(50, 99).critical(0), 1);   // FENCE by 1 is cut: 1
        due(pair(1, 99).critical(0), 1);
        due(pair(1, 99).critical(1), NOT);    // 198
        WhirlShafts x = single(1, 16);
        x.set(SPIN, 0, 9);                    // the SPIN that there is does not matter
        due(x.critical(0), 4);
        due(x.count(1), 9);
    }

    private static void criticalRefused() {
        sentence("CRITICAL. BAD; NOT.", 21);
        for (int rate : WRONG_OF_3) bad(Bound::rich, x -> x.critical(rate));
        bad(Bound::emptied, x -> x.critical(0));
        bad(Bound::bare, x -> x.critical(0));
        refused(() -> single(1, 99), NOT, x -> x.critical(0));
        unchanged(Bound::rich, x -> x.critical(2));
    }

    /** ROW 0 of longs. */
    private static void row(WhirlShafts x, long... told) {
        x.row(0, 2, told.length);
        for (int i = 0; i < told.length; i++) x.put(0, i, told[i]);
    }

    private static void fitsPlaces() {
        sentence("(its first m places, 0 .. how many DISCS there are)", 22);
        WhirlShafts x = pair(2, 4);           // FENCES by 1 are 0, 4
        row(x, 0, 4, 77);
        due(x.fits(0, -1, 1, 1, 0), BAD);
        due(x.fits(0, 0, 1, 1, 0), 99);       // nothing is told
        due(x.fits(0, 0, 1, 1, 1), 1);
        due(x.fits(0, 0, 1, 1, 2), 31);
        due(x.fits(0, 1, 1, 1, 0), 99);       // RATE 0 is 0 by all
        due(x.fits(0, 2, 1, 1, 0), 1);        // 4 by 2 and 4 by MASS: 4 by 2 alone, 1 has 6, 3 has 3
        due(x.fits(0, 2, 1, 1, 1), 2);
        due(x.fits(0, 3, 1, 1, 0), BAD);      // there are two
        row(x, 1, 4);
        due(x.fits(0, 1, 1, 1, 0), 0);        // the first place, too
        row(x);
        due(x.fits(0, 0, 1, 1, 0), 99);       // a ROW of none
        due(x.fits(0, 1, 1, 1, 0), OUTSIDE);
        row(x, 0);
        due(x.fits(0, 1, 1, 1, 0), 99);
        due(x.fits(0, 2, 1, 1, 0), OUTSIDE);
        due(x.fits(0, 3, 1, 1, 0), BAD);
        WhirlShafts eight = like(8, 5, 9);
        due(eight.film(0, 2, 16), 8);
        due(eight.fits(0, 8, 16, 7, 1), 5);
        due(eight.fits(0, 9, 16, 7, 1), BAD);
    }

    private static void fitsMasses() {
        sentence("MASSES (1 .. 99) of a DISC by which all of it is so: how many; the least (NOT); KINDS (bits 0 .. 4) of it.", 22);
        WhirlShafts x = single(4, 99);        // FENCE by 1 is 99 by what it WEIGHS
        fit(x, 99, 1, 1);
        fit(x, 100, 0, NOT);
        fit(x, 98, 0, NOT);
        fit(x, 49, 1, 2);
        fit(x, 1, 50, 50);                    // 50 .. 99
        fit(x, 0, 0, NOT);
        fit(x, -1, 0, NOT);
        fit(x, Long.MAX_VALUE, 0, NOT);
        fit(x, Long.MIN_VALUE, 0, NOT);
        fit(x, 1L << 32, 0, NOT);
        fit(x, (1L << 32) + 99, 0, NOT);      // all its bits are told
        WhirlShafts y = single(4, 98);
        fit(y, 0, 1, 99);                     // 99 alone
        WhirlShafts z = single(4, 0);
        fit(z, 0, 99, 1);
        // By MASS 4 the KINDS weigh 4, 8, 2, 11, 2: FENCES 24, 12, 49, 9, 49.
        int[][] kinds = {{24, 1}, {12, 2}, {49, 4 + 16}, {9, 8}, {99, 0}, {0, 0}};
        for (int[] k : kinds) {
            row(x, k[0]);
            due(x.fits(0, 1, 1, 0, 2), k[1]);
        }
        x.set(SPIN, 0, 3);                    // the SHELL weighs 1
        row(x, 99);
        due(x.fits(0, 1, 1, 0, 2), 16);
        row(x, 49);
        due(x.fits(0, 1, 1, 0, 2), 4);
        x.set(BEARING, 0, 0);
        row(x, 0);
        due(x.fits(0, 1, 1, 0, 2), 31);
        due(x.of(6, 0), DISC);
        due(x.of(MASS, 0), 4);
    }

    private static void fitsWhats() {
        sentence("FITS by the first m places of a ROW, of a DISC: MASSES: how many (what 0), the least (1; NOT), KINDS (2).", 22);
        WhirlShafts x = single(4, 12);        // FENCES by MASS 12, 6, 4, 3, 2, 2, 1 ..; by KIND 3, 1, 6, 1, 6
        row(x, 2);
        due(x.fits(0, 1, 1, 0, 0), 2);
        due(x.fits(0, 1, 1, 0, 1), 5);
        due(x.fits(0, 1, 1, 0, 2), 0);
        row(x, 5);                            // none has 5
        due(x.fits(0, 1, 1, 0, 0), 0);
        due(x.fits(0, 1, 1, 0, 1), NOT);
        due(x.fits(0, 1, 1, 0, 2), 0);
        due(x.fits(0, 1, 1, 0, -1), BAD);
        due(x.fits(0, 1, 1, 0, 3), BAD);
        WhirlShafts last = like(8, 5, 9);     // the last DISC, all places
        last.set(MASS, 7, 6);
        last.film(0, 1, 16);
        last.set(MASS, 7, 5);
        due(last.fits(0, 8, 16, 7, 1), 6);
        due(last.fits(0, 8, 16, 8, 1), BAD);
    }

    private static void fit(WhirlShafts x, long told, int howMany, int least) {
        row(x, told);
        due(x.fits(0, 1, 1, 0, 0), howMany);
        due(x.fits(0, 1, 1, 0, 1), least);
    }

    private static void fitsRefused() {
        sentence("BAD: row, m, q, disc, what; -11; -13: it hasn't so many places.", 22);
        for (int row : WRONG_OF_3) bad(Bound::rich, x -> x.fits(row, 1, 1, 0, 0));
        int[] wrongPlaces = {-1, 4, MIN, MAX};
        for (int m : wrongPlaces) bad(Bound::rich, x -> x.fits(0, m, 1, 0, 0));
        for (int q : WRONG_Q) bad(Bound::rich, x -> x.fits(0, 1, q, 0, 0));
        for (int disc : WRONG_OF_3) bad(Bound::rich, x -> x.fits(0, 1, 1, disc, 0));
        for (int what : WRONG_OF_3) bad(Bound::rich, x -> x.fits(0, 1, 1, 0, what));
        bad(Bound::emptied, x -> x.fits(0, 0, 1, 0, 0));           // there is no DISC
        for (int what = 0; what <= 2; what++) {
            int w = what;
            refused(Bound::rich, MISSING, x -> x.fits(2, 0, 1, 0, w));
            refused(Bound::rich, MISSING, x -> x.fits(2, 3, 1, 0, w));
            refused(TrialBounds::richWithTwoPlaces, OUTSIDE, x -> x.fits(0, 3, 1, 0, w));
            unchanged(Bound::rich, x -> x.fits(0, 3, 1, 2, w));
        }
        due(rich().fits(0, 3, 1, 2, 0), 0);
        due(richWithTwoPlaces().fits(0, 2, 1, 2, 0), 0);
    }

    private static WhirlShafts richWithTwoPlaces() {
        WhirlShafts x = rich();
        x.row(0, 1, 2);
        x.put(0, 1, 9000);
        return x;
    }

    private static void judged() {
        sentence("the first RATE of which it is otherwise; -2: none; 100 and how many were looked at, if it ends ahead of that.",
            23);
        WhirlShafts x = like(3, 2, 4);        // FENCES by 1 are 0, 2, 6
        judges(x, NOT, 0, 2, 6);
        judges(x, 0, 1, 2, 6);
        judges(x, 0, -1, 2, 6);
        judges(x, 1, 0, 3, 6);
        judges(x, 1, 0, 1, 7);
        judges(x, 2, 0, 2, 7);
        judges(x, 2, 0, 2, 5);
        judges(x, 2, 0, 2, 6 + (1L << 32));
        judges(x, 100);
        judges(x, 101, 0);
        judges(x, 102, 0, 2);
        judges(x, 0, 5);                      // otherwise ahead of its end
        judges(x, 1, 0, 3);
        judges(x, NOT, 0, 2, 6, 77);          // there is no RATE 3
        WhirlShafts none = bare();
        judges(none, NOT);
        judges(none, NOT, 5);
        WhirlShafts eight = like(8, 5, 9);
        due(eight.film(0, 2, 16), 8);
        due(eight.judge(0, 16), NOT);
        due(eight.cut(), 7);
        due(eight.film(0, 2, 16), 7);
        due(eight.disc(DISC, 5, 9), 7);
        row(eight, 0, eight.fence(1, 16), eight.fence(2, 16), eight.fence(3, 16), eight.fence(4, 16), eight.fence(5, 16),
            eight.fence(6, 16));
        due(eight.judge(0, 16), 107);
    }

    private static void judges(WhirlShafts x, int answer, long... told) {
        row(x, told);
        due(x.judge(0, 1), answer);
    }

    private static void judgeRefused() {
        sentence("JUDGED by a ROW. BAD: row, q; -11.", 23);
        for (int row : WRONG_OF_3) bad(Bound::rich, x -> x.judge(row, 1));
        for (int q : WRONG_Q) {
            bad(Bound::rich, x -> x.judge(0, q));
            bad(Bound::rich, x -> x.judge(2, q));
        }
        refused(Bound::rich, MISSING, x -> x.judge(2, 1));
        refused(Bound::bare, MISSING, x -> x.judge(0, 1));
        refused(Bound::emptied, MISSING, x -> x.judge(2, 16));
        unchanged(Bound::rich, x -> x.judge(0, 1));
    }

    private static void inPlaceOf() {
        sentence("try what they try in place of what there is, all else as it is (CRITICAL by the WAY there is, in place of SPIN; "
            + "a KIND tried keeps MASS);", 17, 18, 19, 20, 21, 22, 25);
        // BEARING 20, MASS 10: by SPIN 1 INERTIA is 10, 10, 11; FENCE 2, 2, 1; by SPIN 2 that is 4 or less by all.
        int[] want = {2, 2, 1};
        for (int way = TWIST; way <= AFT; way++) {
            WhirlShafts x = single(10, 20);
            x.set(WAY, 0, way);
            x.set(SPIN, 0, 9);
            due(x.critical(0), want[way]);
            due(x.count(1), 9);
            due(x.count(2), way);
        }
        // The MASS that there is does not matter to TRIM and to the MASSES that fit; the KIND does.
        for (int mass = 1; mass <= 99; mass += 49) {
            WhirlShafts x = single(mass, 12);
            due(x.trim(0, 0, 3, 1, 0), 4);
            row(x, 3);
            due(x.fits(0, 1, 1, 0, 1), 4);
        }
        WhirlShafts rim = bare();
        rim.disc(RIM, 50, 0);
        rim.set(BEARING, 0, 12);
        due(rim.trim(0, 0, 3, 1, 0), 2);
        // BEARINGS stay where they are as DISCS change places.
        WhirlShafts y = bare();
        y.disc(DISC, 50, 0);
        y.disc(DISC, 1, 10);
        y.set(BEARING, 1, 80);
        due(y.change(0, 16), 0);
        y.set(BEARING, 1, 0);
        y.set(BEARING, 0, 80);
        due(y.change(0, 16), NOT);
        // TUNE by the other SHAFT as it is.
        WhirlShafts z = like(3, 9, 99);
        int least = z.tune(0, 1, 100, 16);
        due(z.of(STIFF, 1), 99);
        due(z.set(STIFF, 0, least), 99);
        due(z.band(1, 100, 16), 0);
        for (int stiff = 1; stiff < least; stiff++) {
            z.set(STIFF, 0, stiff);
            due(z.band(1, 100, 16), 1);
        }
    }

    private static void ownTop() {
        sentence("FENCES by what is tried have their own TOP.", 17, 20, 21, 22, 25);
        WhirlShafts x = single(99, 99);
        due(x.top(), 3);
        due(x.trim(0, 0, 99, 1, 0), 1);       // 99 is far above 3
        due(x.trim(0, 0, 99, 1, 1), 0);
        row(x, 99);
        due(x.fits(0, 1, 1, 0, 0), 1);
        due(x.fits(0, 1, 1, 0, 1), 1);
        x.order(MASS, 0, 1);
        due(x.tried(0, 1), 99);
        // RATE 2 would be some 50 by the first change, some 100 by the second; TOP is 5 as it is.
        WhirlShafts y = bare();
        y.disc(DISC, 99, 0);
        y.disc(DISC, 1, 1);
        y.disc(DISC, 99, 1);
        y.set(BEARING, 0, 49);
        y.set(BEARING, 2, 99);
        due(y.top(), 5);
        due(y.change(2, 1), 1);
        // A SHELL gets lighter by SPIN: FENCES 24, 33, 33, 49, 49, 99 ..; TOP is 50 as it is, and 50 is less than 64.
        WhirlShafts z = bare();
        z.disc(SHELL, 8, 0);
        z.set(BEARING, 0, 99);
        due(z.top(), 50);
        due(z.critical(0), NOT);
        // KINDS: the HUB of 99 weighs 50, the CROWN 201.
        WhirlShafts k = bare();
        k.disc(CROWN, 1, 0);
        k.set(BEARING, 0, 99);
        due(k.top(), 40);
        row(k, 99);
        due(k.fits(0, 1, 1, 0, 2), 1 + 4 + 16);
    }
}
