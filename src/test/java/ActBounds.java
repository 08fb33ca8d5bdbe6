/** Boundary cases of ACTS of DISCS, THE TRACE, THE IMAGE and counts: promises 38 to 44. */
final class ActBounds extends Bound {
    private static final int[] WRONG_OF_3 = {-1, 3, MIN, MAX};

    static void run() {
        wraps();
        bodiesAre();
        nextAbove();
        actRefused();
        traceOfLatest();
        traceNone();
        takenFor();
        takenRefused();
        imageHolds();
        alikeIs();
        alikeRefused();
        backIs();
        backLeaves();
        counts();
    }

    /** One DISC of each KIND, number and KIND alike, of MASS 10 and its number. */
    private static WhirlShafts kinds() {
        WhirlShafts x = bare();
        for (int kind = 0; kind <= 4; kind++) x.disc(kind, 10 + kind, 5);
        return x;
    }

    private static void wraps() {
        sentence("ACTS of a DISC with x (an int that wraps): 0 spins, 1 swings, 2 tells;", 38);
        int[] edges = {MIN, MIN + 1, -1, 0, 1, MAX / 2, MAX / 2 + 1, MAX - 1, MAX};
        for (int x : edges) {
            due(kinds().act(0, 0, x), x);
            due(kinds().act(0, 1, x), x * 2);
            due(kinds().act(0, 2, x), x * 2 - 10);
            due(kinds().act(1, 0, x), x + 1);
            due(kinds().act(1, 1, x), (x + 1) * 2 ^ 3);
            due(kinds().act(1, 2, x), ((x + 1) * 2 ^ 3) - 11);
            due(kinds().act(2, 0, x), -(x + 2));
            due(kinds().act(2, 1, x), -(x + 2) * 2);
            due(kinds().act(2, 2, x), -(x + 2) * 2 - 12);
            due(kinds().act(3, 0, x), (x + 3) * 3);
            due(kinds().act(3, 1, x), (x + 3) * 3 * 2 ^ 3);
            due(kinds().act(3, 2, x), ((x + 1 + 3) * 3 * 2 ^ 3) - 13);
            due(kinds().act(4, 0, x), -(x + 4));
            due(kinds().act(4, 1, x), -(x + 4) * 2 - 6);
            due(kinds().act(4, 2, x), -(x + 4) * 2 - 6 - 14);
        }
        due(kinds().act(1, 0, MAX), MIN);
        due(kinds().act(2, 0, MAX - 1), MIN);     // its own opposite
        due(like(8, 99, 9).act(7, 2, MAX), (MIN + 6) * 2 - 99);
    }

    private static void bodiesAre() {
        sentence("i its number, m its MASS. BODIES: DISC: 10 spins: x + i. 11 swings: spins(x) * 2. 12 tells: swings(x) - m. "
            + "RIM: 20 swings: super.swings(x) ^ 3. HUB: 30 spins: -super.spins(x). CROWN: 40 tells: super.tells(x + 1). "
            + "41 spins: super.spins(x) * 3. SHELL: 50 swings: super.swings(x) + spins(2).", 38);
        WhirlShafts x = like(3, 5, 9);
        for (int kind = 0; kind <= 4; kind++) x.disc(kind, 21 + kind, 5);
        int[][] answers = {{103, 206, 185}, {104, 211, 189}, {-105, -210, -233}, {318, 639, 617}, {-107, -223, -248}};
        for (int kind = 0; kind <= 4; kind++) {
            for (int act = 0; act <= 2; act++) due(x.act(3 + kind, act, 100), answers[kind][act]);
        }
        x.set(MASS, 3, 80);                   // the MASS of now
        due(x.act(3, 2, 100), 206 - 80);
        x.set(SPIN, 0, 9);                    // SPIN, WAY and what it WEIGHS do not matter
        x.set(WAY, 0, AFT);
        due(x.act(7, 2, 100), -248);
    }

    private static void nextAbove() {
        sentence("spins(..) and so on: the body of its own KIND, or of the next KIND above that has one; super: from the KIND above "
            + "the body's on; what stands in a body is done from the left on.", 38, 39);
        int[][][] bodies = {
            {{10}, {11, 10}, {12, 11, 10}},
            {{10}, {20, 11, 10}, {12, 20, 11, 10}},
            {{30, 10}, {11, 30, 10}, {12, 11, 30, 10}},
            {{41, 10}, {20, 11, 41, 10}, {40, 12, 20, 11, 41, 10}},
            {{30, 10}, {50, 11, 30, 10, 30, 10}, {12, 50, 11, 30, 10, 30, 10}}};
        for (int kind = 0; kind <= 4; kind++) {
            for (int act = 0; act <= 2; act++) {
                WhirlShafts x = kinds();
                x.act(kind, act, 7);
                traced(x, bodies[kind][act]);
            }
        }
    }

    private static void actRefused() {
        sentence("An ACT (0 .. 2) of a DISC with x. 0, and nothing else, if BAD.", 38, 39);
        for (int disc : WRONG_OF_3) {
            for (int act = 0; act <= 2; act++) {
                int a = act;
                refused(Bound::rich, 0, x -> x.act(disc, a, 5));
            }
        }
        int[] wrongActs = {-1, 3, MIN, MAX};
        for (int act : wrongActs) {
            for (int disc = 0; disc <= 2; disc++) {
                int d = disc;
                refused(Bound::rich, 0, x -> x.act(d, act, 5));
            }
        }
        refused(Bound::emptied, 0, x -> x.act(0, 0, 5));
        refused(Bound::bare, 0, x -> x.act(0, 0, 5));
        due(rich().act(0, 0, 5), 15);
        due(rich().act(2, 2, 5), -(5 + 2) * 2 - 4 - 19);
    }

    private static void traced(WhirlShafts x, int... bodies) {
        for (int i = 0; i < bodies.length; i++) due(x.trace(i), bodies[i]);
        for (int i = bodies.length; i <= 25; i++) due(x.trace(i), NOT);
    }

    private static void traceOfLatest() {
        sentence("numbers of the bodies that ran in the latest act() that was not BAD, as they began; the first 24 are kept.", 38, 39);
        WhirlShafts x = kinds();
        traced(x);
        x.act(4, 2, 7);
        traced(x, 12, 50, 11, 30, 10, 30, 10);    // the longest that there is
        x.act(5, 2, 7);
        x.act(4, 3, 7);
        traced(x, 12, 50, 11, 30, 10, 30, 10);    // BAD: the latest that was not
        x.act(0, 0, 7);
        traced(x, 10);                            // nothing is left of the longer one
        x.act(3, 2, 7);
        traced(x, 40, 12, 20, 11, 41, 10);
        x.act(3, 2, 7);
        traced(x, 40, 12, 20, 11, 41, 10);        // begun anew, not behind the last
        x.act(1, 2, 7);
        traced(x, 12, 20, 11, 10);
        x.act(2, 2, 7);
        traced(x, 12, 11, 30, 10);
        WhirlShafts two = bare();                 // two of one KIND
        two.disc(HUB, 3, 0);
        two.disc(HUB, 4, 5);
        two.act(0, 1, 1);
        traced(two, 11, 30, 10);
        two.act(1, 0, 1);
        traced(two, 30, 10);
    }

    private static void traceNone() {
        sentence("THE TRACE's i-th body. NOT: none such.", 39);
        int[] none = {MIN, -1, 0, 1, 23, 24, 25, MAX};
        for (int i : none) refused(Bound::bare, NOT, x -> x.trace(i));
        int[] beyond = {MIN, -1, 7, 8, 23, 24, 25, MAX};
        for (int i : beyond) refused(Bound::rich, NOT, x -> x.trace(i));
        due(rich().trace(0), 12);
        due(rich().trace(6), 10);
        unchanged(Bound::rich, x -> x.trace(6));
    }

    private static void takenFor() {
        sentence("A DISC taken for one of KIND k (0 .. 4), or one under that: its MASS.", 40);
        String[] under = {"0", "01", "02", "013", "024"};
        WhirlShafts x = kinds();
        for (int disc = 0; disc <= 4; disc++) {
            for (int k = 0; k <= 4; k++) due(x.taken(disc, k), under[disc].indexOf('0' + k) >= 0 ? 10 + disc : STATE);
            due(x.taken(disc, -1), BAD);
            due(x.taken(disc, 5), BAD);
        }
        WhirlShafts y = bare();
        y.disc(SHELL, 1, 0);
        y.disc(CROWN, 99, 5);
        due(y.taken(0, DISC), 1);
        due(y.taken(1, RIM), 99);
    }

    private static void takenRefused() {
        sentence("its MASS. BAD; STATE: it is none.", 40);
        for (int disc : WRONG_OF_3) {
            bad(Bound::rich, x -> x.taken(disc, 0));
            bad(Bound::rich, x -> x.taken(disc, 4));
        }
        int[] wrongKinds = {-1, 5, MIN, MAX};
        for (int k : wrongKinds) bad(Bound::rich, x -> x.taken(1, k));
        bad(Bound::emptied, x -> x.taken(0, 0));
        refused(Bound::rich, STATE, x -> x.taken(1, RIM));         // a DISC is no RIM
        refused(Bound::rich, STATE, x -> x.taken(0, HUB));         // a CROWN is no HUB
        refused(Bound::rich, STATE, x -> x.taken(2, CROWN));
        unchanged(Bound::rich, x -> x.taken(2, HUB));
        due(rich().taken(2, HUB), 19);
    }

    private static void imageHolds() {
        sentence("THE IMAGE: DISCS and SHAFTS with all that is theirs, SPIN, WAY, ORDERS.", 41, 43);
        due(bare().image(), 0);
        due(crowded().image(), 8);
        WhirlShafts x = crowded();
        due(x.image(), 8);
        int[][] was = new int[6][8];
        for (int what = 0; what <= 5; what++) {
            for (int i = 0; i < 8; i++) was[what][i] = x.of(what, i);
        }
        x.does();
        for (int i = 0; i < 8; i++) x.set(BEARING, i, 0);
        for (int i = 0; i < 7; i++) x.set(STIFF, i, 1);
        x.set(RATIO, 0, 6);
        x.set(SPIN, 0, 9);
        x.set(WAY, 0, 1);
        due(x.back(), 8);
        for (int what = 0; what <= 5; what++) {
            for (int i = 0; i < 8; i++) due(x.of(what, i), was[what][i]);
        }
        for (int i = 0; i < 8; i++) due(x.of(6, i), i % 5);
        due(x.count(4), 8);
        due(x.does(), 8);
        for (int i = 0; i < 8; i++) due(x.of(MASS, i), 51 + i);
        due(x.back(), 8);                     // it is there still
        due(x.count(4), 8);
        sentence("THE IMAGE is taken: how many DISCS.", 41);
        for (int n = 0; n <= 8; n++) due(like(n, 5, 9).image(), n);
        WhirlShafts y = rich();
        due(y.image(), 3);                    // the later one in place of the one ahead
        due(y.clear(), 3);
        due(y.back(), 3);
        due(y.of(MASS, 2), 19);
        due(y.count(4), 3);
    }

    private static void alikeIs() {
        sentence("whether THE IMAGE has as many DISCS, and all REDUCED INERTIAS, BEARINGS, STIFFS by it, its SPIN, its WAY, are those "
            + "of now (SPIN, WAY themselves are not compared).", 42);
        WhirlShafts none = bare();
        none.image();
        due(none.alike(), 1);                 // none and none
        none.set(SPIN, 0, 9);
        none.set(WAY, 0, 2);
        due(none.alike(), 1);
        none.disc(DISC, 1, 0);
        due(none.alike(), 0);
        WhirlShafts x = crowded();
        x.image();
        due(x.alike(), 1);
        x.cut();
        due(x.alike(), 0);                    // one fewer
        x.back();
        due(x.alike(), 1);
        for (int i = 0; i < 8; i++) {         // each one of them
            differs(MASS, i, 99);
            differs(BEARING, i, 98);
            if (i < 7) differs(STIFF, i, 97);
        }
        WhirlShafts spun = single(10, 5);
        spun.image();
        spun.set(SPIN, 0, 9);
        due(spun.alike(), 1);                 // TWIST: SPIN changes no DISC
        spun.set(WAY, 0, AFT);
        due(spun.alike(), 0);
        spun.set(SPIN, 0, 0);
        due(spun.alike(), 1);                 // AFT without SPIN
        spun.set(SPIN, 0, 1);
        due(spun.alike(), 0);                 // 11
        spun.set(WAY, 0, FORE);
        due(spun.alike(), 1);                 // 10 by 20 is 0
        WhirlShafts kind = bare();            // another KIND that has its INERTIA: a RIM of 4, a DISC of 8
        kind.disc(DISC, 8, 0);
        kind.image();
        kind.clear();
        kind.disc(RIM, 4, 0);
        due(kind.alike(), 1);
        kind.clear();
        kind.disc(HUB, 15, 0);
        due(kind.alike(), 1);
        kind.set(MASS, 0, 17);
        due(kind.alike(), 0);
        WhirlShafts geared = pair(4, 7);      // REDUCED: RATIO 2 and a quarter of MASS and BEARING
        geared.set(BEARING, 1, 8);
        geared.image();
        geared.set(RATIO, 0, 2);
        due(geared.alike(), 0);
        geared.set(MASS, 1, 1);
        due(geared.alike(), 0);
        geared.set(BEARING, 1, 2);
        due(geared.alike(), 1);
        WhirlShafts shaft = like(3, 4, 8);    // and of STIFF behind it
        shaft.image();
        shaft.set(RATIO, 0, 2);
        shaft.set(MASS, 1, 1);
        shaft.set(MASS, 2, 1);
        due(shaft.alike(), 0);
        shaft.set(STIFF, 1, 2);
        due(shaft.alike(), 1);
        WhirlShafts gone = pair(4, 7);        // nothing is left of a SHAFT that came and went
        gone.image();
        gone.disc(DISC, 9, 50);
        gone.cut();
        due(gone.alike(), 1);
        WhirlShafts orders = rich();
        orders.image();
        orders.drop();
        due(orders.alike(), 1);               // ORDERS are not compared
    }

    private static void differs(int what, int number, int v) {
        WhirlShafts x = crowded();
        x.image();
        int was = x.set(what, number, v);
        due(x.alike(), 0);
        x.set(what, number, was);
        due(x.alike(), 1);
    }

    private static void alikeRefused() {
        sentence("ALIKE (1, 0). STATE: there is no IMAGE.", 42);
        refused(Bound::bare, STATE, WhirlShafts::alike);
        refused(() -> pair(2, 4), STATE, WhirlShafts::alike);
        unchanged(Bound::rich, WhirlShafts::alike);
        WhirlShafts x = bare();
        due(x.alike(), STATE);
        x.image();
        due(x.alike(), 1);                    // of no DISCS it is one, too
        x.clear();
        due(x.alike(), 1);
    }

    private static void backIs() {
        sentence("All is as THE IMAGE: how many DISCS. STATE: there is none.", 43);
        refused(Bound::bare, STATE, WhirlShafts::back);
        refused(() -> pair(2, 4), STATE, WhirlShafts::back);
        refused(ActBounds::withoutImage, STATE, WhirlShafts::back);
        for (int n = 0; n <= 8; n++) {
            WhirlShafts x = like(n, 5, 9);
            x.image();
            if (n > 0) x.cut();
            else x.disc(DISC, 1, 0);
            due(x.back(), n);
            due(x.count(0), n);
            due(x.alike(), 1);
            due(x.back(), n);                 // as often as one likes
        }
        WhirlShafts y = rich();               // from three to the two of THE IMAGE
        due(y.back(), 2);
        due(y.of(MASS, 2), BAD);
        due(y.of(STIFF, 1), BAD);
        due(y.of(RATIO, 0), 1);
        due(y.count(1), 2);
        due(y.count(2), TWIST);
        due(y.count(4), 1);
        due(y.does(), 1);
        due(y.of(STIFF, 0), 33);
        WhirlShafts z = crowded();            // from none to the eight of THE IMAGE
        z.clear();
        due(z.back(), 8);
        due(z.of(MASS, 7), 18);
        due(z.disc(DISC, 1, 1), FULL);
    }

    private static WhirlShafts withoutImage() {
        WhirlShafts x = pair(2, 4);
        x.set(SPIN, 0, 3);
        x.set(SPIN, 0, 4);
        x.undo();
        x.order(MASS, 0, 9);
        feed(x, "n5");
        x.row(0, 1, 2);
        x.act(0, 2, 1);
        return x;
    }

    private static void backLeaves() {
        sentence("back() leaves ROWS and THE TAPE.", 43);
        WhirlShafts x = rich();
        due(x.back(), 2);
        due(x.count(7), 4);
        due(x.count(8), 2);
        for (int i = 0; i < 3; i++) due(x.get(0, i), 50 + i);
        for (int i = 0; i < 4; i++) due(x.get(1, i), 1000 + i);
        due(x.put(2, 0, 1), MISSING);
        due(x.feed('1'), 5);
        due(x.read(), 2);
        due(x.count(1), 3);
        WhirlShafts y = crowded();
        y.image();
        y.wipe();
        y.row(0, -1, 0);
        due(y.back(), 8);
        due(y.count(7), 0);                   // THE IMAGE has none of them
        due(y.count(8), 2);
    }

    private static void counts() {
        sentence("0 DISCS, 1 SPIN, 2 WAY, 3 all RATIOS multiplied, 4 ORDERS, 5 CHANGES that can be UNDONE, 6 that can be DONE AGAIN, "
            + "7 bytes of THE TAPE, 8 ROWS that are there. BAD.", 44);
        int[] wrongWhats = {-1, 9, MIN, MAX};
        for (int what : wrongWhats) {
            bad(Bound::rich, x -> x.count(what));
            bad(Bound::bare, x -> x.count(what));
        }
        int[] none = {0, 0, 0, 1, 0, 0, 0, 0, 0};
        int[] some = {3, 2, 2, 2, 3, 3, 3, 4, 2};
        int[] most = {8, 0, 0, 1, 8, 12, 0, 80, 3};
        for (int what = 0; what <= 8; what++) {
            int w = what;
            due(bare().count(what), none[what]);
            due(rich().count(what), some[what]);
            due(crowded().count(what), most[what]);
            unchanged(Bound::rich, x -> x.count(w));
        }
        WhirlShafts x = crowded();
        for (int i = 0; i < 12; i++) x.undo();
        due(x.count(5), 0);
        due(x.count(6), 12);
        due(x.set(RATIO, 6, 6), 1);
        due(x.count(3), 6);
        due(x.cut(), 7);
        due(x.count(3), 1);
        due(single(5, 5).count(3), 1);
    }
}
