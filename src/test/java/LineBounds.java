/** Boundary cases of DISCS, SHAFTS, SPIN, WAY and what is told of them: promises 1 to 6. */
final class LineBounds extends Bound {
    private static final int[] FAR = {MIN, MIN + 1, -1000, 1000, MAX - 1, MAX};

    static void run() {
        newObject();
        calls512();
        discsAndShafts();
        firstStiff();
        discRefused();
        kinds();
        masses();
        bearings();
        stiffsAndRatios();
        ratiosMultiplied();
        spinAndWay();
        cutNone();
        clearCounts();
        whatComesAndGoes();
        cutAndClearLeave();
        clearMakesZero();
        setNumbers();
        setRefused();
        numberDoesNotMatter();
        ofRefused();
        hubHalves();
        shellAtLeast();
        crownMore();
        discWeighs();
        inertiaOfWhatItWeighs();
        inertiaCut();
        factorOfFirst();
        quickBehind();
        reduced();
        holdsOneOrTwo();
        firstRefusal();
    }

    private static void newObject() {
        sentence("`WhirlShafts()`: No DISCS.", 1);
        WhirlShafts x = bare();
        due(x.count(0), 0);
        due(x.of(6, 0), BAD);
        WhirlShafts y = bare();
        due(y.disc(RIM, 3, 0), 0);
        due(x.count(0), 0);                   // objects share nothing
        due(bare().count(0), 0);
    }

    private static void calls512() {
        sentence("An object is used for at most 512 calls after it has been made; what later calls answer is free.", 1);
        WhirlShafts x = bare();
        due(x.disc(DISC, 1, 0), 0);
        for (int call = 2; call <= 511; call++) {
            int was = call == 2 ? 1 : 10 + (call - 1) % 7;
            due(x.set(MASS, 0, 10 + call % 7), was);
        }
        due(x.of(MASS, 0), 10);               // the 512th
    }

    private static void discsAndShafts() {
        sentence("DISCS 0 .. n - 1 (8 at most; none at first) stand in a line, SHAFT k (0 .. n - 2) between DISC k and k + 1.",
            1, 2, 5, 6);
        for (int n = 0; n <= 8; n++) {
            int discs = n;
            WhirlShafts x = like(n, 5, 9);
            due(x.count(0), n);
            due(x.of(MASS, -1), BAD);
            due(x.of(MASS, n - 1), n == 0 ? BAD : 5);
            due(x.of(MASS, n), BAD);
            due(x.of(STIFF, -1), BAD);
            due(x.of(STIFF, n - 2), n < 2 ? BAD : 9);
            due(x.of(STIFF, n - 1), BAD);
            bad(() -> like(discs, 5, 9), y -> y.set(MASS, discs, 7));
            bad(() -> like(discs, 5, 9), y -> y.set(STIFF, discs - 1, 7));
            due(x.set(MASS, n - 1, 7), n == 0 ? BAD : 5);
            due(x.set(STIFF, n - 2, 7), n < 2 ? BAD : 9);
            due(x.disc(DISC, 1, 1), n < 8 ? n : FULL);
            due(x.count(0), Math.min(8, n + 1));
        }
        WhirlShafts x = like(3, 5, 9);
        x.set(STIFF, 1, 30);                  // between DISC 1 and DISC 2
        due(x.of(11, 0), 9);
        due(x.of(11, 1), 9 + 30);
        due(x.of(11, 2), 30);
    }

    private static void firstStiff() {
        sentence("(of the first DISC there is none: stiff does not matter)", 2);
        int[] stiffs = {MIN, -1, 0, 1, 99, 100, MAX};
        for (int stiff : stiffs) {
            WhirlShafts x = bare();
            due(x.disc(DISC, 5, stiff), 0);
            due(x.of(11, 0), 0);              // nothing holds it
            due(x.disc(DISC, 5, stiff), stiff >= 1 && stiff <= 99 ? 1 : BAD);
        }
        WhirlShafts x = like(2, 5, 9);
        x.cut();
        due(x.disc(DISC, 5, 0), BAD);         // there is a first one still
        x.cut();
        due(x.disc(DISC, 5, 0), 0);
        due(x.disc(DISC, 5, 0), BAD);
        x.clear();
        due(x.disc(DISC, 5, 100), 0);
        due(x.disc(DISC, 5, 100), BAD);
    }

    private static void discRefused() {
        sentence("BAD: kind, mass, stiff; FULL: 8.", 2);
        int[] wrongKinds = {-1, 5, MIN, MAX};
        for (int kind : wrongKinds) {
            bad(Bound::bare, x -> x.disc(kind, 5, 5));
            bad(Bound::rich, x -> x.disc(kind, 5, 5));
            bad(Bound::crowded, x -> x.disc(kind, 5, 5));
        }
        int[] wrongNumbers = {0, 100, -1, MIN, MAX};
        for (int number : wrongNumbers) {
            bad(Bound::emptied, x -> x.disc(DISC, number, 5));
            bad(Bound::rich, x -> x.disc(DISC, number, 5));
            bad(Bound::crowded, x -> x.disc(DISC, number, 5));
            bad(Bound::rich, x -> x.disc(DISC, 5, number));
            bad(Bound::crowded, x -> x.disc(DISC, 5, number));
        }
        refused(Bound::crowded, FULL, x -> x.disc(DISC, 1, 1));
        refused(Bound::crowded, FULL, x -> x.disc(SHELL, 99, 99));
        due(like(7, 5, 9).disc(SHELL, 99, 99), 7);
        WhirlShafts x = crowded();
        x.cut();
        due(x.disc(DISC, 1, 1), 7);           // there is room again
        due(x.disc(DISC, 1, 1), FULL);
    }

    private static void kinds() {
        sentence("A DISC has a KIND: 0 DISC; 1 RIM under DISC; 2 HUB under DISC; 3 CROWN under RIM; 4 SHELL under HUB;", 2, 6);
        bad(Bound::rich, x -> x.disc(-1, 5, 5));
        bad(Bound::rich, x -> x.disc(5, 5, 5));
        WhirlShafts x = bare();
        for (int kind = 0; kind <= 4; kind++) {
            due(x.disc(kind, 5, 5), kind);
            due(x.of(6, kind), kind);
        }
    }

    private static void masses() {
        sentence("a MASS (1 .. 99)", 2, 5, 6);
        bad(Bound::rich, x -> x.disc(DISC, 0, 5));
        bad(Bound::rich, x -> x.disc(DISC, 100, 5));
        bad(Bound::rich, x -> x.set(MASS, 1, 0));
        bad(Bound::rich, x -> x.set(MASS, 1, 100));
        WhirlShafts x = bare();
        due(x.disc(DISC, 1, 0), 0);
        due(x.disc(DISC, 99, 5), 1);
        due(x.of(MASS, 0), 1);
        due(x.of(MASS, 1), 99);
        due(x.set(MASS, 0, 99), 1);
        due(x.set(MASS, 1, 1), 99);
        due(x.of(MASS, 0), 99);
        due(x.of(MASS, 1), 1);
    }

    private static void bearings() {
        sentence("a BEARING (0 .. 99; 0 at first: none)", 2, 5, 6);
        bad(Bound::rich, x -> x.set(BEARING, 1, -1));
        bad(Bound::rich, x -> x.set(BEARING, 1, 100));
        WhirlShafts x = like(2, 5, 9);
        due(x.of(BEARING, 0), 0);
        due(x.of(BEARING, 1), 0);
        due(x.of(11, 1), 9);
        due(x.set(BEARING, 1, 99), 0);
        due(x.of(11, 1), 9 + 99);
        due(x.set(BEARING, 1, 0), 99);
        due(x.of(11, 1), 9);
    }

    private static void stiffsAndRatios() {
        sentence("A SHAFT has STIFF (1 .. 99), a RATIO (1 .. 6; 1 at first)", 2, 5, 6);
        bad(Bound::rich, x -> x.disc(DISC, 5, 0));
        bad(Bound::rich, x -> x.disc(DISC, 5, 100));
        bad(Bound::rich, x -> x.set(STIFF, 1, 0));
        bad(Bound::rich, x -> x.set(STIFF, 1, 100));
        bad(Bound::rich, x -> x.set(RATIO, 0, 0));
        bad(Bound::rich, x -> x.set(RATIO, 0, 7));
        bad(Bound::rich, x -> x.set(RATIO, 0, -1));
        WhirlShafts x = bare();
        x.disc(DISC, 5, 0);
        due(x.disc(DISC, 5, 1), 1);
        due(x.disc(DISC, 5, 99), 2);
        due(x.of(STIFF, 0), 1);
        due(x.of(STIFF, 1), 99);
        due(x.of(RATIO, 0), 1);
        due(x.of(RATIO, 1), 1);
        due(x.set(STIFF, 0, 99), 1);
        due(x.set(STIFF, 1, 1), 99);
        due(x.set(RATIO, 1, 6), 1);
        due(x.set(RATIO, 1, 1), 6);
    }

    private static void ratiosMultiplied() {
        sentence("all RATIOS, multiplied, are no more than 6", 5);
        for (int first = 1; first <= 6; first++) {
            for (int second = 1; second <= 6; second++) {
                WhirlShafts x = like(3, 5, 9);
                due(x.set(RATIO, 0, first), 1);
                due(x.set(RATIO, 1, second), first * second <= 6 ? 1 : STATE);
                due(x.count(3), first * second <= 6 ? first * second : first);
                due(x.of(RATIO, 1), first * second <= 6 ? second : 1);
            }
        }
        WhirlShafts x = like(8, 5, 9);
        due(x.set(RATIO, 0, 3), 1);
        due(x.set(RATIO, 6, 2), 1);           // the first and the last SHAFT: 6
        due(x.count(3), 6);
        for (int k = 1; k <= 5; k++) due(x.set(RATIO, k, 2), STATE);
        for (int k = 1; k <= 5; k++) due(x.set(RATIO, k, 1), 1);
        due(x.set(RATIO, 0, 4), STATE);       // in place of its 3, not beside it
        due(x.set(RATIO, 0, 3), 3);
        due(x.set(RATIO, 6, 3), STATE);
        due(x.set(RATIO, 6, 1), 2);
        due(x.set(RATIO, 0, 6), 3);
        due(x.cut(), 7);
        due(x.count(3), 6);
    }

    private static void spinAndWay() {
        sentence("SPIN (0 .. 9; 0 at first), WAY (0 TWIST, at first; 1 FORE; 2 AFT).", 1, 5, 6, 44);
        WhirlShafts x = bare();
        due(x.of(SPIN, 0), 0);
        due(x.of(WAY, 0), 0);
        due(x.count(1), 0);
        due(x.count(2), 0);
        bad(Bound::rich, y -> y.set(SPIN, 0, -1));
        bad(Bound::rich, y -> y.set(SPIN, 0, 10));
        bad(Bound::rich, y -> y.set(WAY, 0, -1));
        bad(Bound::rich, y -> y.set(WAY, 0, 3));
        due(x.set(SPIN, 0, 9), 0);
        due(x.set(SPIN, 0, 0), 9);
        due(x.set(WAY, 0, AFT), TWIST);
        due(x.count(2), 2);
        due(x.set(WAY, 0, FORE), AFT);
        due(x.set(WAY, 0, TWIST), FORE);
    }

    private static void cutNone() {
        sentence("The last DISC goes: how many there are. STATE: there is none.", 3);
        refused(Bound::bare, STATE, WhirlShafts::cut);
        refused(Bound::emptied, STATE, WhirlShafts::cut);
        WhirlShafts x = like(8, 5, 9);
        for (int left = 7; left >= 0; left--) due(x.cut(), left);
        due(x.cut(), STATE);
        due(x.count(0), 0);
        due(x.disc(DISC, 5, 0), 0);
        due(x.cut(), 0);
    }

    private static void clearCounts() {
        sentence("No DISCS, SPIN 0, WAY 0: how many DISCS there were.", 4);
        for (int n = 0; n <= 8; n++) {
            WhirlShafts x = like(n, 5, 9);
            x.set(SPIN, 0, 9);
            x.set(WAY, 0, 2);
            due(x.clear(), n);
            for (int what = 0; what <= 2; what++) due(x.count(what), 0);
            due(x.count(3), 1);
            due(x.of(MASS, 0), BAD);
            due(x.clear(), 0);
        }
    }

    private static void whatComesAndGoes() {
        sentence("A DISC that comes has BEARING 0, its SHAFT RATIO 1; the SHAFT of one that goes goes, too.", 2, 3, 4);
        WhirlShafts x = like(3, 5, 9);
        x.set(BEARING, 2, 77);
        x.set(RATIO, 1, 6);
        due(x.cut(), 2);
        due(x.of(STIFF, 1), BAD);
        due(x.of(RATIO, 1), BAD);
        due(x.count(3), 1);                   // its RATIO went with it
        due(x.of(11, 1), 9);                  // and its STIFF
        due(x.set(RATIO, 0, 6), 1);           // 6 more would be too many, if it had not gone
        due(x.set(RATIO, 0, 1), 6);
        due(x.disc(RIM, 4, 13), 2);
        due(x.of(BEARING, 2), 0);
        due(x.of(RATIO, 1), 1);
        due(x.of(STIFF, 1), 13);
        x.set(BEARING, 0, 55);
        x.set(RATIO, 0, 2);
        x.clear();
        x.disc(DISC, 5, 0);
        due(x.of(BEARING, 0), 0);
        x.disc(DISC, 5, 9);
        due(x.of(RATIO, 0), 1);
    }

    private static void cutAndClearLeave() {
        sentence("cut(), clear() leave ORDERS (one of a DISC that isn't there is refused, passed over), ROWS, THE TAPE, "
            + "THE IMAGE, THE TRACE;", 3, 4, 26);
        for (int clears = 0; clears <= 1; clears++) {
            WhirlShafts x = rich();
            due(clears == 1 ? x.clear() : x.cut(), clears == 1 ? 3 : 2);
            due(x.count(4), 3);
            due(x.count(7), 4);
            due(x.count(8), 2);
            for (int i = 0; i < 3; i++) due(x.get(0, i), 50 + i);
            for (int i = 0; i < 4; i++) due(x.get(1, i), 1000 + i);
            int[] trace = {12, 50, 11, 30, 10, 30, 10, NOT};
            for (int i = 0; i < 8; i++) due(x.trace(i), trace[i]);
            due(x.does(), clears == 1 ? 0 : 1);   // MASS of DISC 1; DISC 2 and SHAFT 1 are gone
            x.feed('2');
            due(x.read(), 2);
            due(x.count(1), 3);
            due(x.count(2), 2);
            due(x.back(), 2);
            due(x.of(BEARING, 1), 3);
        }
        WhirlShafts x = rich();
        x.cut();
        due(x.count(1), 2);                   // cut() leaves SPIN and WAY, too
        due(x.count(2), AFT);
    }

    private static void clearMakesZero() {
        sentence("clear() makes SPIN 0, WAY 0.", 4);
        WhirlShafts x = bare();
        x.set(SPIN, 0, 9);
        x.set(WAY, 0, AFT);
        due(x.clear(), 0);                    // with no DISCS, too
        due(x.of(SPIN, 0), 0);
        due(x.of(WAY, 0), 0);
        due(x.disc(SHELL, 9, 0), 0);
        due(x.of(8, 0), 5);
    }

    private static void setNumbers() {
        sentence("MASS of a DISC (what 0), STIFF of a SHAFT (1), BEARING of a DISC (2), RATIO of a SHAFT (3), SPIN (4), "
            + "WAY (5; number does not matter by 4, 5) becomes v: what it was.", 5);
        bad(Bound::rich, x -> x.set(-1, 0, 1));
        bad(Bound::rich, x -> x.set(6, 0, 1));
        for (int what : FAR) bad(Bound::rich, x -> x.set(what, 0, 1));
        int[] numbers = {3, 2, 3, 2};         // of three DISCS, two SHAFTS
        for (int what = 0; what <= 3; what++) {
            int w = what;
            bad(Bound::rich, x -> x.set(w, -1, 1));
            bad(Bound::rich, x -> x.set(w, numbers[w], 1));
            for (int number : FAR) bad(Bound::rich, x -> x.set(w, number, 1));
            WhirlShafts x = rich();
            int first = x.of(what, 0);
            int last = x.of(what, numbers[what] - 1);
            due(x.set(what, 0, 1), first);
            due(x.set(what, numbers[what] - 1, 1), last);
            due(x.of(what, 0), 1);
            due(x.of(what, numbers[what] - 1), 1);
        }
    }

    private static void setRefused() {
        sentence("BAD: what, number, v; STATE: RATIOS, multiplied, would be above 6.", 5);
        int[][] ranges = {{1, 99}, {1, 99}, {0, 99}, {1, 6}, {0, 9}, {0, 2}};
        for (int what = 0; what <= 5; what++) {
            int w = what;
            bad(Bound::rich, x -> x.set(w, 0, ranges[w][0] - 1));
            bad(Bound::rich, x -> x.set(w, 0, ranges[w][1] + 1));
            for (int v : FAR) bad(Bound::rich, x -> x.set(w, 0, v));
            WhirlShafts x = like(2, 5, 9);
            int was = x.of(what, 0);
            due(x.set(what, 0, ranges[what][0]), was);
            due(x.set(what, 0, ranges[what][1]), ranges[what][0]);
            due(x.set(what, 0, ranges[what][0]), ranges[what][1]);
        }
        // RATIO of SHAFT 0 is 2: 3 of SHAFT 1 makes 6, 4 makes 8.
        refused(Bound::rich, STATE, x -> x.set(RATIO, 1, 4));
        refused(Bound::rich, STATE, x -> x.set(RATIO, 1, 6));
        bad(Bound::rich, x -> x.set(RATIO, 1, 7));
        bad(Bound::rich, x -> x.set(RATIO, 2, 4));
        due(rich().set(RATIO, 1, 3), 1);
    }

    private static void numberDoesNotMatter() {
        sentence("number does not matter by 4, 5", 5, 6);
        int[] numbers = {MIN, -1, 0, 7, 8, MAX};
        WhirlShafts x = bare();
        for (int i = 0; i < numbers.length; i++) {
            due(x.set(SPIN, numbers[i], i + 1), i);
            due(x.of(SPIN, numbers[i]), i + 1);
            due(x.set(WAY, numbers[i], (i + 1) % 3), i % 3);
            due(x.of(WAY, numbers[i]), (i + 1) % 3);
            int number = numbers[i];
            bad(Bound::rich, y -> y.set(SPIN, number, 10));
            bad(Bound::rich, y -> y.set(WAY, number, 3));
        }
    }

    private static void ofRefused() {
        sentence("As of set() (what 0 .. 5); of a DISC its KIND (6), what it WEIGHS (7), REDUCED INERTIA (8), REDUCED "
            + "BEARING (9), FACTOR (10), HOLDS (11); of a SHAFT REDUCED STIFF (12). BAD.", 6);
        bad(Bound::rich, x -> x.of(-1, 0));
        bad(Bound::rich, x -> x.of(13, 0));
        for (int what : FAR) bad(Bound::rich, x -> x.of(what, 0));
        for (int what = 0; what <= 12; what++) {
            if (what == SPIN || what == WAY) continue;
            int w = what;
            int beyond = what == STIFF || what == RATIO || what == 12 ? 2 : 3;
            bad(Bound::rich, x -> x.of(w, -1));
            bad(Bound::rich, x -> x.of(w, beyond));
            for (int number : FAR) bad(Bound::rich, x -> x.of(w, number));
            due(bare().of(what, 0), BAD);
        }
        // The first and the last one: SHAFT 0 has RATIO 2, the SHELL of 19 weighs 10 less 2 by 2, SPIN being 2.
        WhirlShafts x = rich();
        int[] first = {7, 11, 8, 2, 2, 2, 3, 17, 17 + 3, 8, 1, 8 + 11, 11};
        int[] last = {19, 12, 0, 1, 2, 2, 4, 9, (9 + 1) * 4, 0, 4, 48, 48};
        for (int what = 0; what <= 12; what++) {
            due(x.of(what, 0), first[what]);
            due(x.of(what, what == STIFF || what == RATIO || what == 12 ? 1 : 2), last[what]);
            int w = what;
            unchanged(Bound::rich, y -> y.of(w, 1));
        }
    }

    private static int weighs(int kind, int mass, int spin) {
        WhirlShafts x = bare();
        x.disc(kind, mass, 0);
        x.set(SPIN, 0, spin);
        return x.of(7, 0);
    }

    private static void hubHalves() {
        sentence("HUB: half of a DISC's (up).", 6);
        int[] masses = {1, 2, 3, 98, 99};
        int[] halves = {1, 1, 2, 49, 50};
        for (int i = 0; i < masses.length; i++) due(weighs(HUB, masses[i], 9), halves[i]);
        sentence("\"up\": cut upward.", 6);
        due(weighs(HUB, 1, 0), 1);
        due(weighs(HUB, 51, 0), 26);
    }

    private static void shellAtLeast() {
        sentence("SHELL: a HUB's less (SPIN by 2, cut), 1 at least.", 6);
        due(weighs(SHELL, 9, 0), 5);
        due(weighs(SHELL, 9, 1), 5);          // 1 by 2 is 0
        due(weighs(SHELL, 9, 2), 4);
        due(weighs(SHELL, 9, 7), 2);
        due(weighs(SHELL, 9, 8), 1);          // 5 less 4
        due(weighs(SHELL, 9, 9), 1);
        due(weighs(SHELL, 8, 7), 1);          // 4 less 3
        due(weighs(SHELL, 8, 8), 1);          // 4 less 4 would be 0
        due(weighs(SHELL, 1, 0), 1);
        due(weighs(SHELL, 1, 9), 1);          // 1 less 4 would be below 0
        due(weighs(SHELL, 99, 9), 46);
        due(weighs(SHELL, 10, 9), 1);
        due(weighs(SHELL, 11, 9), 2);
    }

    private static void crownMore() {
        sentence("RIM: twice a DISC's.", 6);
        due(weighs(RIM, 1, 9), 2);
        due(weighs(RIM, 99, 9), 198);
        sentence("CROWN: 3 more than a RIM's.", 6);
        due(weighs(CROWN, 1, 9), 5);
        due(weighs(CROWN, 99, 9), 201);
    }

    private static int inertia(int mass, int spin, int way) {
        WhirlShafts x = bare();
        x.disc(DISC, mass, 0);
        x.set(SPIN, 0, spin);
        x.set(WAY, 0, way);
        return x.of(8, 0);
    }

    private static void discWeighs() {
        sentence("WEIGHS: DISC: MASS.", 6);
        int[] masses = {1, 2, 50, 98, 99};
        for (int mass : masses) {
            WhirlShafts x = single(mass, 99);
            x.set(SPIN, 0, 9);
            x.set(WAY, 0, AFT);
            due(x.of(7, 0), mass);            // BEARING, SPIN and WAY are no weight
        }
    }

    private static void inertiaOfWhatItWeighs() {
        sentence("INERTIA of a DISC, v being what it WEIGHS:", 6);
        WhirlShafts x = bare();
        for (int kind = 0; kind <= 4; kind++) x.disc(kind, 10, 5);
        x.set(SPIN, 0, 5);
        int[][] byWay = {{10, 20, 5, 23, 3}, {8, 15, 4, 18, 3}, {15, 30, 7, 34, 4}};
        for (int way = TWIST; way <= AFT; way++) {
            x.set(WAY, 0, way);
            for (int kind = 0; kind <= 4; kind++) due(x.of(8, kind), byWay[way][kind]);
        }
    }

    private static void quickBehind() {
        sentence("the DISCS behind it turn so many times as quick;", 5, 6);
        for (int shaft = 0; shaft < 7; shaft++) {
            for (int ratio = 1; ratio <= 6; ratio++) {
                WhirlShafts x = like(8, 5, 9);
                x.set(RATIO, shaft, ratio);
                for (int i = 0; i < 8; i++) due(x.of(10, i), i > shaft ? ratio * ratio : 1);
            }
        }
    }

    private static void reduced() {
        sentence("REDUCED: INERTIA, BEARING of a DISC times its FACTOR; STIFF of SHAFT k times the FACTOR of DISC k.", 6);
        WhirlShafts x = like(4, 5, 9);
        for (int i = 0; i < 4; i++) x.set(BEARING, i, 7);
        x.set(RATIO, 1, 2);
        x.set(RATIO, 2, 3);
        int[] factors = {1, 1, 4, 36};
        for (int i = 0; i < 4; i++) {
            due(x.of(8, i), 5 * factors[i]);
            due(x.of(9, i), 7 * factors[i]);
            due(x.of(12, i), i < 3 ? 9 * factors[i] : BAD);   // by the DISC ahead of it, not the one behind
            due(x.of(MASS, i), 5);
            due(x.of(BEARING, i), 7);
        }
        due(x.of(STIFF, 2), 9);
        int[] holds = {7 + 9, 7 + 9 + 9, 28 + 9 + 36, 252 + 36};
        for (int i = 0; i < 4; i++) due(x.of(11, i), holds[i]);
    }

    private static void inertiaCut() {
        sentence("by WAY 0: v; 1: v less (v times SPIN by 20, cut); 2: v more (v times SPIN by 10, cut).", 6);
        due(inertia(99, 9, TWIST), 99);
        due(inertia(19, 1, FORE), 19);        // 19 by 20
        due(inertia(20, 1, FORE), 19);        // 20 by 20
        due(inertia(39, 1, FORE), 38);
        due(inertia(40, 1, FORE), 38);
        due(inertia(1, 9, FORE), 1);          // never 0
        due(inertia(2, 9, FORE), 2);          // 18 by 20
        due(inertia(3, 9, FORE), 2);          // 27 by 20
        due(inertia(99, 9, FORE), 99 - 44);
        due(inertia(99, 0, FORE), 99);
        due(inertia(9, 1, AFT), 9);           // 9 by 10
        due(inertia(10, 1, AFT), 11);
        due(inertia(19, 1, AFT), 20);
        due(inertia(20, 1, AFT), 22);
        due(inertia(1, 9, AFT), 1);           // 9 by 10
        due(inertia(2, 9, AFT), 3);           // 18 by 10
        due(inertia(99, 9, AFT), 99 + 89);
        due(inertia(99, 0, AFT), 99);
        sentence("By is a division, cut toward 0;", 6, 12);
        due(inertia(13, 3, FORE), 12);        // 39 by 20
        due(inertia(13, 3, AFT), 16);         // 39 by 10
        due(single(7, 3).top(), 1);           // 6 by 7
        due(single(7, 4).top(), 2);           // 8 by 7
    }

    private static void factorOfFirst() {
        sentence("the RATIOS of all SHAFTS ahead of it, multiplied, squared (1 of DISC 0).", 6);
        WhirlShafts x = like(4, 5, 9);
        for (int i = 0; i < 4; i++) due(x.of(10, i), 1);
        x.set(RATIO, 0, 2);
        x.set(RATIO, 2, 3);
        int[] factors = {1, 4, 4, 36};
        for (int i = 0; i < 4; i++) due(x.of(10, i), factors[i]);
        due(single(5, 5).of(10, 0), 1);
        x.set(RATIO, 2, 1);
        x.set(RATIO, 0, 6);
        int[] most = {1, 36, 36, 36};
        for (int i = 0; i < 4; i++) due(x.of(10, i), most[i]);
    }

    private static void holdsOneOrTwo() {
        sentence("HOLDS of a DISC: REDUCED BEARING, and REDUCED STIFF of the SHAFTS (one or two) beside it.", 6);
        WhirlShafts x = single(5, 0);
        due(x.of(11, 0), 0);                  // a lone DISC has no SHAFT beside it
        x.set(BEARING, 0, 99);
        due(x.of(11, 0), 99);
        x.disc(DISC, 5, 10);
        due(x.of(11, 0), 109);
        due(x.of(11, 1), 10);
        x.disc(DISC, 5, 20);
        due(x.of(11, 1), 30);
        due(x.of(11, 2), 20);
        x.set(RATIO, 0, 2);
        due(x.of(11, 0), 109);                // SHAFT 0 has the FACTOR of DISC 0
        due(x.of(11, 1), 10 + 80);
        due(x.of(11, 2), 80);
        x.set(BEARING, 2, 3);
        due(x.of(11, 2), 80 + 12);
    }

    private static void firstRefusal() {
        sentence("ANSWERS that are refusals (nothing changes but where it is told), of several the first as the call's words "
            + "name them", 2, 5, 16, 18, 19, 20, 22, 23, 24, 30, 33, 34, 37, 40);
        bad(Bound::crowded, x -> x.disc(DISC, 0, 1));              // BAD, then FULL
        bad(Bound::crowded, x -> x.disc(DISC, 1, 0));
        bad(Bound::rich, x -> x.set(RATIO, 1, 7));                 // BAD, then STATE
        bad(Bound::emptied, x -> x.gap(0, 0));                     // BAD, then NOT
        bad(Bound::emptied, x -> x.gap(1, 2));
        bad(() -> pair(2, 4), x -> x.tune(0, 0, 10000, 1));
        bad(() -> pair(99, 4), x -> x.heavier(0, 1, 2));
        bad(() -> pair(99, 4), x -> x.heavier(0, 0, 0));
        bad(() -> single(1, 1), x -> x.change(0, 0));
        bad(() -> single(1, 1), x -> x.critical(1));
        bad(Bound::rich, x -> x.fits(2, 0, 1, 0, 3));              // BAD, then -11
        bad(Bound::rich, x -> x.fits(2, 0, 1, 3, 0));
        bad(Bound::rich, x -> x.fits(2, 0, 0, 0, 0));
        bad(Bound::rich, x -> x.fits(2, 4, 1, 0, 0));
        bad(Bound::rich, x -> x.judge(2, 0));
        bad(Bound::crowded, x -> x.order(6, 0, 1));                // BAD, then FULL
        bad(Bound::crowded, x -> x.feed(31));
        bad(Bound::rich, x -> x.row(3, 0, -1));                    // BAD, then -14
        bad(Bound::rich, x -> x.row(0, 3, -1));
        bad(Bound::rich, x -> x.put(3, -1, 1));                    // BAD, then -13
        refused(Bound::rich, MISSING, x -> x.put(2, -1, 1));       // -11, then -13
        bad(Bound::rich, x -> x.copy(2, 0, 3, 0, -1));             // BAD, then -11, then -12, then -13
        refused(Bound::rich, MISSING, x -> x.copy(2, 0, 0, 0, -1));
        refused(Bound::rich, OTHER_SORT, x -> x.copy(0, 0, 1, 0, -1));
        bad(Bound::rich, x -> x.taken(3, 1));                      // BAD, then STATE
        bad(Bound::rich, x -> x.taken(1, 5));
    }
}
