/** Boundary cases of ORDERS and CHANGES: promises 24 to 29. */
final class OrderBounds extends Bound {
    private static final int[] WRONG_Q = {0, 17, -1, MIN, MAX};

    static void run() {
        eightOrders();
        orderRefused();
        orderMore();
        lookedAtAsDone();
        triedPasses();
        triedRefused();
        doesAll();
        doesPasses();
        dropsAll();
        changesOf();
        twelveAtMost();
        eldestOfUnlikeOnes();
        doneAgain();
        soAlready();
        leaveNone();
        undoRefused();
        redoRefused();
        redoBehindChange();
    }

    private static void eightOrders() {
        sentence("ORDERS (8 at most) wait one behind another: what, number, v as of set().", 24, 26, 27);
        WhirlShafts x = like(2, 5, 9);
        due(x.count(4), 0);
        for (int i = 1; i <= 8; i++) {
            due(x.order(MASS, 0, 10 + i), i);
            due(x.count(4), i);
        }
        due(x.order(MASS, 0, 19), FULL);
        due(x.count(4), 8);
        due(x.does(), 8);
        due(x.of(MASS, 0), 18);               // the eighth was the last
        due(x.order(MASS, 0, 20), 1);         // there is room again
        due(x.drop(), 1);
        for (int i = 1; i <= 8; i++) due(x.order(WAY, 0, i % 3), i);
        due(x.order(WAY, 0, 0), FULL);
        due(x.drop(), 8);
        due(x.order(WAY, 0, 1), 1);
    }

    private static void orderRefused() {
        sentence("BAD: what (0 .. 5); FULL: 8.", 24);
        int[] wrongWhats = {-1, 6, MIN, MAX};
        for (int what : wrongWhats) {
            bad(Bound::rich, x -> x.order(what, 0, 1));
            bad(Bound::crowded, x -> x.order(what, 0, 1));
        }
        for (int what = 0; what <= 5; what++) {
            int w = what;
            due(bare().order(what, 0, 1), 1);
            due(rich().order(what, 0, 1), 4);
            refused(Bound::crowded, FULL, x -> x.order(w, 0, 1));
        }
        WhirlShafts seven = like(2, 5, 9);
        for (int i = 0; i < 7; i++) seven.order(MASS, 0, 10);
        due(seven.order(MASS, 1, 77), 8);
        due(seven.order(MASS, 1, 78), FULL);
        due(seven.does(), 8);
        due(seven.of(MASS, 1), 77);
    }

    private static void orderMore() {
        sentence("An ORDER more: how many wait.", 24);
        WhirlShafts x = bare();               // with no DISCS, too
        for (int i = 1; i <= 8; i++) due(x.order(MASS, i - 1, 10 + i), i);
        due(x.order(MASS, 8, 19), FULL);
        due(x.count(4), 8);
        for (int i = 0; i < 8; i++) x.disc(DISC, 5, 9);
        due(x.does(), 8);
        for (int i = 0; i < 8; i++) due(x.of(MASS, i), 11 + i);
    }

    private static void lookedAtAsDone() {
        sentence("(number, v are looked at as it is done.)", 24, 25, 26);
        WhirlShafts x = bare();
        due(x.order(MASS, MIN, MAX), 1);
        due(x.order(STIFF, MAX, MIN), 2);
        due(x.order(MASS, 1, 50), 3);         // there is no DISC 1 yet
        due(x.order(SPIN, MIN, 10), 4);
        due(x.order(SPIN, MAX, 9), 5);        // number does not matter
        x.disc(DISC, 5, 0);
        x.disc(DISC, 5, 9);
        due(x.does(), 2);
        due(x.of(MASS, 1), 50);
        due(x.count(1), 9);
        WhirlShafts y = like(3, 5, 9);        // RATIO 6 of SHAFT 0: the second is refused but for the first
        y.set(RATIO, 0, 6);
        y.order(RATIO, 1, 2);
        y.order(RATIO, 0, 3);
        y.order(RATIO, 1, 2);
        due(y.does(), 2);
        due(y.count(3), 6);
    }

    private static void triedPasses() {
        sentence("FENCE of RATE k by q, all ORDERS having been done one behind another (one that set() would refuse is passed "
            + "over).", 25);
        WhirlShafts x = single(4, 12);
        due(x.tried(0, 1), 3);                // no ORDERS: as it is
        x.order(BEARING, 0, 40);
        due(x.tried(0, 1), 10);
        x.order(BEARING, 0, 100);             // BAD
        x.order(BEARING, 1, 50);              // BAD
        x.order(RATIO, 0, 2);                 // BAD: there is no SHAFT
        x.order(MASS, 0, 0);                  // BAD
        due(x.tried(0, 1), 10);
        x.order(MASS, 0, 1);
        due(x.tried(0, 1), 40);
        x.order(BEARING, 0, 99);              // the last one holds
        due(x.tried(0, 1), 99);
        x.order(BEARING, 0, 0);
        due(x.tried(0, 1), 0);
        due(x.fence(0, 1), 3);
        due(x.count(4), 8);
        WhirlShafts y = pair(2, 4);           // STATE
        y.disc(DISC, 2, 4);
        y.set(RATIO, 0, 6);
        y.order(RATIO, 1, 2);
        for (int k = 0; k < 3; k++) due(y.tried(k, 16), y.fence(k, 16));
        due(y.count(3), 6);
        y.drop();
        y.order(RATIO, 0, 1);                 // 6 of SHAFT 1 is refused but for this one
        y.order(RATIO, 1, 6);
        WhirlShafts want = like(3, 2, 4);
        want.set(RATIO, 1, 6);
        for (int k = 0; k < 3; k++) due(y.tried(k, 16), want.fence(k, 16));
        due(y.tried(2, 16) == y.fence(2, 16) ? 1 : 0, 0);
    }

    private static void triedRefused() {
        sentence("`int tried(int rate, int q)`: TRIED. BAD.", 25);
        int[] wrongRates = {-1, 3, MIN, MAX};
        for (int rate : wrongRates) bad(Bound::rich, x -> x.tried(rate, 1));
        for (int q : WRONG_Q) bad(Bound::rich, x -> x.tried(2, q));
        bad(Bound::emptied, x -> x.tried(0, 1));
        bad(Bound::bare, x -> x.tried(0, 1));
        unchanged(Bound::rich, x -> x.tried(2, 16));
        unchanged(Bound::crowded, x -> x.tried(7, 1));
        due(crowded().tried(8, 1), BAD);
    }

    private static void doesAll() {
        sentence("All ORDERS are done, one behind another, and none waits then: how many were done.", 26);
        due(bare().does(), 0);
        unchanged(Bound::bare, WhirlShafts::does);
        WhirlShafts x = crowded();
        due(x.does(), 8);
        due(x.count(4), 0);
        for (int i = 0; i < 8; i++) due(x.of(MASS, i), 51 + i);
        due(x.does(), 0);
        for (int i = 0; i < 8; i++) due(x.of(MASS, i), 51 + i);
        WhirlShafts none = rich();
        none.drop();
        due(none.does(), 0);
        due(none.count(5), 3);                // what can be UNDONE and DONE AGAIN stays
        due(none.count(6), 3);
    }

    private static void doesPasses() {
        sentence("does(): each ORDER that set() would refuse is passed over, all are none then.", 26);
        WhirlShafts x = like(2, 5, 9);
        x.set(SPIN, 0, 3);
        x.undo();
        x.order(MASS, 2, 7);
        x.order(MASS, 0, 100);
        x.order(STIFF, 1, 7);
        x.order(RATIO, 0, 7);
        x.order(WAY, 0, 3);
        due(x.does(), 0);
        due(x.count(4), 0);                   // refused ones are none, too
        due(x.count(6), 1);                   // no CHANGE came
        due(x.redo(), 0);
        due(x.count(1), 3);
        x.order(MASS, 2, 7);
        x.order(MASS, 1, 7);                  // behind a refused one
        due(x.does(), 1);
        due(x.of(MASS, 1), 7);
        x.order(BEARING, 0, 0);               // what was 0 and is 0
        x.order(SPIN, 0, 0);
        due(x.does(), 2);
        due(x.count(1), 0);
    }

    private static void dropsAll() {
        sentence("No ORDER waits: how many did.", 27);
        due(bare().drop(), 0);
        unchanged(Bound::bare, WhirlShafts::drop);
        WhirlShafts x = crowded();
        due(x.drop(), 8);
        due(x.drop(), 0);
        due(x.count(4), 0);
        due(x.does(), 0);
        for (int i = 0; i < 8; i++) due(x.of(MASS, i), 11 + i);
        due(x.count(5), 12);
        due(rich().drop(), 3);
    }

    private static void changesOf() {
        sentence("what set() (by read(), does(), too) made otherwise can be UNDONE, the latest first", 26, 28, 32);
        WhirlShafts x = like(2, 5, 9);
        due(x.count(5), 0);
        x.set(MASS, 0, 6);
        due(read(x, "i1,7;k0,8;b0,3;g0,2;n4;w1"), 6);
        x.order(MASS, 1, 50);
        x.order(MASS, 1, 100);
        x.order(STIFF, 0, 60);
        x.does();
        due(x.count(5), 9);
        int[][] undone = {{STIFF, 0, 8}, {MASS, 1, 7}, {WAY, 0, 0}, {SPIN, 0, 0}, {RATIO, 0, 1}, {BEARING, 0, 0}, {STIFF, 0, 9},
            {MASS, 1, 5}, {MASS, 0, 5}};
        for (int i = 0; i < 9; i++) {
            due(x.undo(), 8 - i);
            due(x.of(undone[i][0], undone[i][1]), undone[i][2]);
            due(x.count(5), 8 - i);
            due(x.count(6), i + 1);
        }
        due(x.undo(), STATE);
    }

    private static void twelveAtMost() {
        sentence("12 at most (then the eldest is none any more)", 5, 28, 44);
        for (int sets = 11; sets <= 14; sets++) {
            WhirlShafts x = like(2, 5, 9);
            for (int i = 1; i <= sets; i++) due(x.set(STIFF, 0, 9 + i), 8 + i);
            int can = Math.min(12, sets);
            due(x.count(5), can);
            for (int left = can - 1; left >= 0; left--) due(x.undo(), left);
            due(x.of(STIFF, 0), 9 + sets - can);
            due(x.undo(), STATE);
            due(x.of(STIFF, 0), 9 + sets - can);
            due(x.count(6), can);
            for (int left = can - 1; left >= 0; left--) due(x.redo(), left);
            due(x.of(STIFF, 0), 9 + sets);
            due(x.redo(), STATE);
            due(x.count(5), can);
        }
        WhirlShafts x = bare();               // by read() and does(), too
        due(read(x, "n1;n2;n3;n4;n5;n6;n7;n8"), 8);
        for (int i = 1; i <= 5; i++) x.order(SPIN, 0, 8 - i);
        due(x.does(), 5);
        due(x.count(5), 12);
        for (int left = 11; left >= 0; left--) due(x.undo(), left);
        due(x.count(1), 1);
        WhirlShafts y = crowded();            // one that is none, and one that is refused, push none out
        y.set(STIFF, 4, 45);
        y.set(STIFF, 4, 100);
        for (int left = 11; left >= 0; left--) due(y.undo(), left);
        due(y.of(BEARING, 0), 0);
    }

    private static void eldestOfUnlikeOnes() {
        sentence("(then the eldest is none any more)", 28, 29);
        WhirlShafts x = like(8, 5, 9);        // MASS 0, BEARING 0, MASS 1, BEARING 1 .. MASS 7: 15 CHANGES
        for (int i = 0; i < 15; i++) due(x.set(i % 2 == 0 ? MASS : BEARING, i / 2, 20 + i), i % 2 == 0 ? 5 : 0);
        for (int i = 14; i >= 3; i--) {
            due(x.undo(), i - 3);
            due(x.of(i % 2 == 0 ? MASS : BEARING, i / 2), i % 2 == 0 ? 5 : 0);
        }
        due(x.undo(), STATE);
        for (int i = 0; i < 15; i++) {        // the first three stay as they are
            due(x.of(i % 2 == 0 ? MASS : BEARING, i / 2), i < 3 ? 20 + i : i % 2 == 0 ? 5 : 0);
        }
        for (int i = 3; i < 15; i++) {
            due(x.redo(), 14 - i);
            due(x.of(i % 2 == 0 ? MASS : BEARING, i / 2), 20 + i);
        }
        due(x.redo(), STATE);
        for (int i = 0; i < 15; i++) due(x.of(i % 2 == 0 ? MASS : BEARING, i / 2), 20 + i);
    }

    private static void doneAgain() {
        sentence("and DONE AGAIN, as long as no other one came behind", 29);
        WhirlShafts x = like(2, 5, 9);
        x.set(MASS, 0, 6);
        x.set(MASS, 1, 7);
        x.set(SPIN, 0, 8);
        x.undo();
        x.undo();
        due(x.redo(), 1);
        due(x.of(MASS, 1), 7);
        due(x.undo(), 1);
        due(x.redo(), 1);
        due(x.redo(), 0);
        due(x.count(1), 8);
        due(x.redo(), STATE);
        x.undo();
        due(x.set(WAY, 0, 1), 0);             // another one came
        due(x.redo(), STATE);
        due(x.count(6), 0);
        due(x.count(5), 3);
        due(x.count(1), 0);
        WhirlShafts byText = like(2, 5, 9);
        byText.set(MASS, 0, 6);
        byText.undo();
        read(byText, "n1");
        due(byText.redo(), STATE);
        WhirlShafts byOrder = like(2, 5, 9);
        byOrder.set(MASS, 0, 6);
        byOrder.undo();
        byOrder.order(SPIN, 0, 1);
        due(byOrder.count(6), 1);             // waiting is none
        byOrder.does();
        due(byOrder.redo(), STATE);
    }

    private static void soAlready() {
        sentence("telling what is so already is none.", 5, 26, 28, 29, 32);
        WhirlShafts x = like(2, 5, 9);
        int[] now = {5, 9, 0, 1, 0, 0};
        for (int what = 0; what <= 5; what++) due(x.set(what, 0, now[what]), now[what]);
        due(x.count(5), 0);
        due(x.undo(), STATE);
        x.set(MASS, 0, 6);
        x.set(MASS, 1, 7);
        x.undo();
        due(x.set(MASS, 0, 6), 6);            // what was UNDONE can still be DONE AGAIN
        due(read(x, "i0,6;n0;w0;g0,1"), 4);
        x.order(BEARING, 1, 0);
        due(x.does(), 1);
        due(x.count(5), 1);
        due(x.count(6), 1);
        due(x.redo(), 0);
        due(x.of(MASS, 1), 7);
    }

    /** A CHANGE to be UNDONE, one to be DONE AGAIN, an IMAGE. */
    private static WhirlShafts changed(int discs) {
        WhirlShafts x = like(discs, 5, 9);
        x.image();
        x.set(SPIN, 0, 3);
        x.set(SPIN, 0, 4);
        x.undo();
        return x;
    }

    private static void leaves(WhirlShafts x, int done, int undone) {
        due(x.count(5), done);
        due(x.count(6), undone);
        due(x.undo(), done == 0 ? STATE : done - 1);
    }

    private static void leaveNone() {
        sentence("disc(), cut(), clear(), back() leave none (where they are not refused).", 2, 3, 4, 28, 29, 43);
        for (int n = 0; n <= 8; n++) {
            int discs = n;
            WhirlShafts come = changed(n);
            due(come.disc(DISC, 5, 9), n < 8 ? n : FULL);
            leaves(come, n < 8 ? 0 : 1, n < 8 ? 0 : 1);
            WhirlShafts cut = changed(n);
            due(cut.cut(), n > 0 ? n - 1 : STATE);
            leaves(cut, n > 0 ? 0 : 1, n > 0 ? 0 : 1);
            WhirlShafts clear = changed(n);
            due(clear.clear(), n);
            leaves(clear, 0, 0);
            WhirlShafts back = changed(n);
            due(back.back(), n);
            leaves(back, 0, 0);
            bad(() -> changed(discs), x -> x.disc(5, 5, 9));
            bad(() -> changed(discs), x -> x.disc(DISC, 0, 9));
        }
        WhirlShafts noImage = like(1, 5, 9);
        noImage.set(SPIN, 0, 3);
        noImage.set(SPIN, 0, 4);
        noImage.undo();
        due(noImage.back(), STATE);
        leaves(noImage, 1, 1);
        WhirlShafts text = changed(2);
        due(read(text, "d0,5,9"), 1);
        leaves(text, 0, 0);
        WhirlShafts textCut = changed(2);
        due(read(textCut, "n7;x;n8"), 3);
        leaves(textCut, 1, 0);                // the n8 behind it
        WhirlShafts refusedText = changed(2);
        due(read(refusedText, "d9,5,9"), -200);
        leaves(refusedText, 1, 1);
        WhirlShafts image = changed(2);
        due(image.image(), 2);                // is none of those
        leaves(image, 1, 1);
    }

    private static void undoRefused() {
        sentence("The latest CHANGE is UNDONE: how many can still be. STATE: there is none.", 28);
        refused(Bound::bare, STATE, WhirlShafts::undo);
        refused(OrderBounds::allUndone, STATE, WhirlShafts::undo);
        WhirlShafts x = like(1, 5, 9);
        x.set(SPIN, 0, 3);
        due(x.undo(), 0);
        due(x.undo(), STATE);
        due(x.count(1), 0);
        due(rich().undo(), 2);
        due(crowded().undo(), 11);
    }

    private static WhirlShafts allUndone() {
        WhirlShafts x = rich();
        for (int i = 0; i < 3; i++) x.undo();
        return x;
    }

    private static void redoRefused() {
        sentence("The CHANGE UNDONE last is DONE AGAIN: how many can still be. STATE: there is none.", 29);
        refused(Bound::bare, STATE, WhirlShafts::redo);
        refused(Bound::crowded, STATE, WhirlShafts::redo);
        WhirlShafts x = rich();
        due(x.redo(), 2);
        due(x.count(1), 5);                   // the one UNDONE last
        due(x.redo(), 1);
        due(x.of(MASS, 2), 20);
        due(x.redo(), 0);
        due(x.of(STIFF, 1), 44);
        due(x.redo(), STATE);
        due(x.count(5), 6);
        due(x.count(6), 0);
    }

    private static void redoBehindChange() {
        sentence("redo() behind a CHANGE that came since: STATE.", 29);
        refused(OrderBounds::cameSince, STATE, WhirlShafts::redo);
        WhirlShafts x = cameSince();
        due(x.undo(), 3);
        due(x.redo(), 0);                     // the one that came can be DONE AGAIN itself
        due(x.count(2), FORE);
        due(x.redo(), STATE);
    }

    private static WhirlShafts cameSince() {
        WhirlShafts x = rich();
        x.set(WAY, 0, FORE);
        return x;
    }
}
