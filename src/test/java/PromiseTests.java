/** For each promise, calls whose answers were worked out by hand from the document. */
public final class PromiseTests {
    private static final int BAD = -1, NOT = -2, FULL = -3, STATE = -5;
    private static final int MIN = Integer.MIN_VALUE, MAX = Integer.MAX_VALUE;
    private static int wrong = 0;
    private static int promise;
    private static int place;

    private static void due(long got, long want) {
        place++;
        if (got != want) {
            wrong++;
            System.out.println("promise " + promise + ", check " + place + ": answered " + got + ", due is " + want);
        }
    }

    private static void begin(int number) {
        promise = number;
        place = 0;
    }

    /** Two like DISCS of MASS 2 by a SHAFT of STIFF 4: RATES 0 and 4. */
    private static WhirlShafts pair() {
        WhirlShafts x = new WhirlShafts();
        x.disc(0, 2, 0);
        x.disc(0, 2, 4);
        return x;
    }

    /** One DISC of MASS 4 in a BEARING of 12: RATE 3. */
    private static WhirlShafts single() {
        WhirlShafts x = new WhirlShafts();
        x.disc(0, 4, 0);
        x.set(2, 0, 12);
        return x;
    }

    private static WhirlShafts line(int discs) {
        WhirlShafts x = new WhirlShafts();
        for (int i = 0; i < discs; i++) x.disc(i % 5, 10 + i, 20 + i);
        return x;
    }

    private static int text(WhirlShafts x, String text) {
        for (int i = 0; i < text.length(); i++) x.feed(text.charAt(i));
        return x.read();
    }

    public static void main(String[] args) {
        newObject();
        disc();
        cutAndClear();
        set();
        of();
        weights();
        transfer();
        rests();
        topAndFence();
        heldBandGap();
        trimTune();
        heavierChangeCritical();
        fitsJudge();
        orders();
        changes();
        tape();
        faults();
        refusedActs();
        rows();
        film();
        copy();
        acts();
        taken();
        image();
        count();
        eight();
        wide();
        System.out.println(wrong == 0 ? "all promises are kept" : wrong + " answers are not as due");
        if (wrong != 0) System.exit(1);
    }

    private static void newObject() {
        begin(1);
        WhirlShafts x = new WhirlShafts();
        for (int what = 0; what <= 8; what++) due(x.count(what), what == 3 ? 1 : 0);
        due(x.undo(), STATE);
        due(x.redo(), STATE);
        due(x.alike(), STATE);
        due(x.back(), STATE);
        due(x.trace(0), NOT);
        due(x.get(0, 0), WhirlShafts.VOID);
        due(WhirlShafts.VOID, Long.MIN_VALUE);
        due(x.top(), 0);
        due(x.drop(), 0);
        due(x.does(), 0);
    }

    private static void disc() {
        begin(2);
        WhirlShafts x = new WhirlShafts();
        due(x.disc(-1, 5, 5), BAD);
        due(x.disc(5, 5, 5), BAD);
        due(x.disc(0, 0, 5), BAD);
        due(x.disc(0, 100, 5), BAD);
        due(x.count(0), 0);
        due(x.disc(4, 99, MIN), 0);
        due(x.disc(0, 5, 0), BAD);
        due(x.disc(0, 5, 100), BAD);
        due(x.disc(0, 1, 1), 1);
        due(x.of(1, 0), 1);
        due(x.of(3, 0), 1);
        due(x.of(2, 1), 0);
        for (int i = 2; i < 8; i++) due(x.disc(0, 1, 99), i);
        due(x.disc(0, 1, 99), FULL);
        due(x.disc(0, 1, 0), BAD);
        due(x.disc(5, 1, 1), BAD);
        due(x.disc(0, 0, 1), BAD);
        due(x.count(0), 8);
    }

    private static void cutAndClear() {
        begin(3);
        WhirlShafts x = line(3);
        due(x.set(3, 1, 5), 1);
        due(x.set(2, 2, 7), 0);
        due(x.cut(), 2);
        due(x.count(3), 1);
        due(x.count(5), 0);
        due(x.of(1, 1), BAD);
        due(x.of(11, 1), 21);                 // nothing is left of the SHAFT that went
        due(x.of(11, 0), 21);
        due(x.image(), 2);
        due(x.disc(0, 9, 50), 2);
        due(x.cut(), 2);
        due(x.alike(), 1);
        due(x.disc(0, 9, 9), 2);
        due(x.of(3, 1), 1);
        due(x.of(2, 2), 0);
        due(x.cut(), 2);
        due(x.cut(), 1);
        due(x.cut(), 0);
        due(x.cut(), STATE);
        begin(4);
        x = line(4);
        x.set(4, 0, 3);
        x.set(5, 0, 2);
        x.order(0, 0, 5);
        x.feed('x');
        x.row(1, 0, 3);
        x.act(0, 0, 1);
        x.image();
        due(x.clear(), 4);
        due(x.count(0), 0);
        due(x.count(1), 0);
        due(x.count(2), 0);
        due(x.count(4), 1);
        due(x.count(5), 0);
        due(x.count(7), 1);
        due(x.count(8), 1);
        due(x.trace(0), 10);
        due(x.clear(), 0);
        due(x.back(), 4);
    }

    private static void set() {
        begin(5);
        WhirlShafts x = line(3);
        due(x.set(-1, 0, 1), BAD);
        due(x.set(6, 0, 1), BAD);
        int[][] edges = {{1, 99}, {1, 99}, {0, 99}, {1, 6}, {0, 9}, {0, 2}};
        for (int what = 0; what <= 5; what++) {
            due(x.set(what, 0, edges[what][0] - 1), BAD);
            due(x.set(what, 0, edges[what][1] + 1), BAD);
            int was = x.of(what, 0);
            due(x.set(what, 0, edges[what][0]), was);
            due(x.set(what, 0, edges[what][1]), edges[what][0]);
            due(x.of(what, 0), edges[what][1]);
        }
        due(x.set(0, 3, 5), BAD);
        due(x.set(0, -1, 5), BAD);
        due(x.set(1, 2, 5), BAD);
        due(x.set(1, -1, 5), BAD);
        due(x.set(2, 3, 5), BAD);
        due(x.set(3, 2, 1), BAD);
        due(x.set(4, MAX, 1), 9);
        due(x.set(5, MIN, 1), 2);
        // RATIO of SHAFT 0 is 6
        due(x.set(3, 1, 2), STATE);
        due(x.set(3, 1, 7), BAD);
        due(x.set(3, 1, 1), 1);
        due(x.set(3, 0, 3), 6);
        due(x.set(3, 1, 2), 1);
        due(x.set(3, 1, 3), STATE);
        due(x.set(3, 0, 4), STATE);
        due(x.count(3), 6);
    }

    private static void of() {
        begin(6);
        WhirlShafts x = new WhirlShafts();
        due(x.of(4, 77), 0);
        due(x.of(5, -7), 0);
        due(x.of(0, 0), BAD);
        x.disc(0, 10, 0);
        x.disc(1, 10, 7);
        x.disc(2, 11, 8);
        x.set(3, 0, 2);
        x.set(3, 1, 3);
        x.set(2, 0, 5);
        x.set(2, 1, 6);
        x.set(2, 2, 7);
        due(x.of(6, 0), 0);
        due(x.of(6, 2), 2);
        due(x.of(10, 0), 1);
        due(x.of(10, 1), 4);
        due(x.of(10, 2), 36);
        due(x.of(8, 0), 10);
        due(x.of(8, 1), 80);
        due(x.of(8, 2), 216);
        due(x.of(9, 0), 5);
        due(x.of(9, 1), 24);
        due(x.of(9, 2), 252);
        due(x.of(12, 0), 7);
        due(x.of(12, 1), 32);
        due(x.of(12, 2), BAD);
        due(x.of(12, -1), BAD);
        due(x.of(11, 0), 12);
        due(x.of(11, 1), 24 + 7 + 32);
        due(x.of(11, 2), 252 + 32);
        due(x.of(1, 2), BAD);
        due(x.of(3, 1), 3);
        for (int what = 6; what <= 11; what++) {
            due(x.of(what, 3), BAD);
            due(x.of(what, -1), BAD);
        }
        due(x.of(13, 0), BAD);
        due(x.of(-1, 0), BAD);
    }

    private static void weights() {
        begin(6);
        int[] want = {7, 14, 4, 17, 4};
        for (int kind = 0; kind < 5; kind++) {
            WhirlShafts x = new WhirlShafts();
            x.disc(kind, 7, 0);
            due(x.of(7, 0), want[kind]);
            x.set(4, 0, 5);
            int weighs = kind == 4 ? 2 : want[kind];
            due(x.of(7, 0), weighs);
            due(x.of(8, 0), weighs);
            x.set(5, 0, 1);
            due(x.of(8, 0), weighs - weighs * 5 / 20);
            x.set(5, 0, 2);
            due(x.of(8, 0), weighs + weighs * 5 / 10);
            due(x.of(7, 0), weighs);
        }
        WhirlShafts x = new WhirlShafts();
        x.disc(4, 8, 0);
        x.set(4, 0, 6);
        due(x.of(7, 0), 1);
        x.set(4, 0, 9);
        due(x.of(7, 0), 1);
        x.set(5, 0, 2);
        due(x.of(8, 0), 1);
        x.set(5, 0, 1);
        due(x.of(8, 0), 1);
    }

    private static void transfer() {
        begin(7);
        WhirlShafts x = pair();
        due(x.below(0, 1), 0);
        due(x.below(1, 16), 1);
        due(x.below(2, 1), 1);   // rows 1, 0, -16
        due(x.below(4, 1), 1);   // rows 1, -4, 0
        due(x.below(5, 1), 2);
        due(x.below(64, 16), 1);
        due(x.below(65, 16), 2);
        due(x.below(9999, 1), 2);
        int[][] bad = {{-1, 1}, {10000, 1}, {0, 0}, {0, 17}, {MIN, 1}, {0, MAX}};
        for (int[] b : bad) due(x.below(b[0], b[1]), BAD);
        due(new WhirlShafts().below(9999, 16), 0);
        due(new WhirlShafts().below(10000, 16), BAD);
        begin(8);
        due(x.isRate(0, 5), 1);
        due(x.isRate(4, 1), 1);
        due(x.isRate(64, 16), 1);
        due(x.isRate(2, 1), 0);
        due(x.isRate(63, 16), 0);
        for (int[] b : bad) due(x.isRate(b[0], b[1]), BAD);
        due(single().isRate(3, 1), 1);
        due(single().isRate(3, 2), 0);
        due(new WhirlShafts().isRate(0, 1), 0);
        begin(9);
        due(x.sign(0, 9999, 1), 1);
        due(x.sign(1, 1, 1), 1);
        due(x.sign(1, 2, 1), 0);
        due(x.sign(1, 3, 1), -1);
        due(x.sign(2, 3, 1), -1000);
        due(x.sign(-1, 3, 1), -1000);
        for (int[] b : bad) due(x.sign(0, b[0], b[1]), -1000);
        begin(10);
        due(x.nodes(1, 1), 0);
        due(x.nodes(2, 1), 0);
        due(x.nodes(3, 1), 1);
        due(x.nodes(9999, 1), 1);
        for (int[] b : bad) due(x.nodes(b[0], b[1]), BAD);
        due(single().nodes(9999, 1), 0);
        due(new WhirlShafts().nodes(9999, 1), 0);
    }

    private static void rests() {
        begin(11);
        WhirlShafts x = pair();
        due(x.rest(0, 4, 1), 1);
        due(x.rest(1, 4, 1), 10007 - 4);
        due(x.rest(2, 4, 1), 0);
        due(x.rest(2, 2, 1), 10007 - 16);
        due(x.rest(2, 1, 2), 10007 - 28);    // 6 times 6, less 8 times 8
        due(x.rest(3, 4, 1), BAD);
        due(x.rest(-1, 4, 1), BAD);
        due(x.rest(0, 10000, 1), BAD);
        due(x.rest(0, -1, 1), BAD);
        due(x.rest(0, 0, 0), BAD);
        due(x.rest(0, 0, 17), BAD);
        due(new WhirlShafts().rest(0, 0, 1), 1);
        due(new WhirlShafts().rest(1, 0, 1), BAD);
    }

    private static void topAndFence() {
        begin(12);
        due(single().top(), 7);
        due(pair().top(), 5);
        WhirlShafts y = new WhirlShafts();
        y.disc(0, 99, 0);
        due(y.top(), 1);
        begin(13);
        WhirlShafts x = pair();
        due(x.fence(0, 1), 0);
        due(x.fence(0, 16), 0);
        due(x.fence(1, 1), 4);
        due(x.fence(1, 3), 12);
        due(x.fence(2, 1), BAD);
        due(x.fence(-1, 1), BAD);
        due(x.fence(0, 0), BAD);
        due(x.fence(0, 17), BAD);
        due(single().fence(0, 16), 48);
        y.set(2, 0, 50);
        due(y.fence(0, 1), 0);
        due(y.fence(0, 2), 1);   // 50 by 99
        due(y.fence(0, 16), 8);
        due(new WhirlShafts().fence(0, 1), BAD);
        // The highest RATE that there can be: MASS 1 between BEARING 99 and two SHAFTS of 99.
        WhirlShafts z = new WhirlShafts();
        z.disc(0, 99, 0);
        z.disc(0, 1, 99);
        z.disc(0, 99, 99);
        z.set(2, 1, 99);
        due(z.top(), 595);
        due(z.below(16 * 297, 16), 2);
        due(z.below(9520, 16), 3);
    }

    private static void heldBandGap() {
        begin(14);
        WhirlShafts x = pair();
        due(x.held(0, 2, 1), 0);
        due(x.held(0, 3, 1), 1);
        due(x.held(1, 3, 1), 1);
        due(x.held(2, 3, 1), BAD);
        due(x.held(-1, 3, 1), BAD);
        due(x.held(0, 10000, 1), BAD);
        due(x.held(0, 0, 17), BAD);
        due(single().held(0, 9999, 1), 0);
        WhirlShafts y = new WhirlShafts();
        y.disc(0, 1, 0);
        y.disc(0, 1, 3);
        y.disc(0, 1, 5);
        due(y.held(1, 3, 1), 0);
        due(y.held(1, 4, 1), 1);
        due(y.held(1, 5, 1), 1);
        due(y.held(1, 6, 1), 2);
        begin(15);
        due(x.band(0, 4, 1), 1);
        due(x.band(0, 5, 1), 2);
        due(x.band(1, 5, 1), 1);
        due(x.band(4, 5, 1), 1);
        due(x.band(4, 4, 1), 0);
        due(x.band(5, 4, 1), BAD);
        due(x.band(-1, 4, 1), BAD);
        due(x.band(0, 10000, 1), BAD);
        due(x.band(0, 1, 0), BAD);
        due(new WhirlShafts().band(0, 9999, 16), 0);
        begin(16);
        due(x.gap(1, 0), 0);
        due(x.gap(1, 1), 4);
        due(x.gap(16, 1), 64);
        due(x.gap(0, 0), BAD);
        due(x.gap(17, 0), BAD);
        due(x.gap(1, 2), BAD);
        due(x.gap(1, -1), BAD);
        due(single().gap(1, 0), NOT);
        due(single().gap(1, 2), BAD);
        due(new WhirlShafts().gap(0, 0), BAD);
        // Three like DISCS by like SHAFTS: RATES 0, 1, 3 times STIFF by MASS.
        WhirlShafts z = new WhirlShafts();
        z.disc(0, 5, 0);
        z.disc(0, 5, 10);
        z.disc(0, 5, 10);
        due(z.fence(1, 4), 8);
        due(z.fence(2, 4), 24);
        due(z.gap(4, 0), 1);
        due(z.gap(4, 1), 16);
        // RATES too near to one another for q: all gaps are 0, the first is told.
        WhirlShafts w = new WhirlShafts();
        for (int i = 0; i < 3; i++) w.disc(3, 99, 1);
        due(w.gap(1, 0), 0);
        due(w.gap(1, 1), 0);
        // RATES near 0, 40 and 80 by 90, the SHAFTS being weak.
        WhirlShafts v = new WhirlShafts();
        for (int i = 0; i < 3; i++) v.disc(0, 90, 1);
        v.set(2, 1, 40);
        v.set(2, 2, 80);
        due(v.fence(0, 2), 0);
        due(v.fence(1, 2), 0);
        due(v.fence(2, 2), 1);
        due(v.gap(2, 0), 1);
        due(v.gap(2, 1), 1);
        v.set(2, 0, 90);                      // FENCES by 2 are 0, 1, 2: like gaps, the first is told
        for (int k = 0; k < 3; k++) due(v.fence(k, 2), k);
        due(v.gap(2, 0), 0);
        due(v.gap(2, 1), 1);
    }

    private static void trimTune() {
        begin(17);
        WhirlShafts x = single();
        due(x.trim(0, 0, 3, 1, 0), 4);    // 12 by 4
        due(x.trim(0, 0, 3, 1, 1), 0);
        due(x.trim(0, 0, 2, 1, 0), 5);    // 5 and 6 do: 5
        due(x.trim(0, 0, 5, 1, 0), 2);    // 12 by 2 and 12 by 3 differ alike
        due(x.trim(0, 0, 5, 1, 1), 1);
        due(x.trim(0, 0, 9999, 1, 0), 1);
        due(x.trim(0, 0, 9999, 1, 1), 9999 - 12);
        due(x.trim(0, 0, 0, 1, 0), 13);
        due(x.trim(0, 0, 0, 1, 1), 0);
        due(x.trim(0, 0, 11, 1, 0), 1);
        due(x.trim(0, 0, 7, 1, 0), 2);
        due(x.trim(0, 0, 9, 1, 0), 1);        // 12 and 6 differ alike
        x.set(2, 0, 99);
        due(x.trim(0, 0, 1, 1, 0), 50);
        due(x.trim(0, 0, 16, 16, 0), 94);     // 1584 by 94 is 16
        x.set(2, 0, 98);
        due(x.trim(0, 0, 0, 1, 0), 99);
        due(x.trim(0, 0, 0, 1, 1), 0);
        x.set(2, 0, 99);
        due(x.trim(0, 0, 0, 1, 0), 50);       // never below 1: the least MASS that has 1
        due(x.trim(0, 0, 0, 1, 1), 1);
        due(x.of(0, 0), 4);
        due(x.trim(1, 0, 3, 1, 0), BAD);
        due(x.trim(0, 1, 3, 1, 0), BAD);
        due(x.trim(0, 0, -1, 1, 0), BAD);
        due(x.trim(0, 0, 10000, 1, 0), BAD);
        due(x.trim(0, 0, 3, 0, 0), BAD);
        due(x.trim(0, 0, 3, 1, 2), BAD);
        due(x.trim(0, 0, 3, 1, -1), BAD);
        due(pair().trim(1, 0, 7, 1, 0), 1);   // RATE 0 is 0 by any MASS
        due(pair().trim(1, 0, 7, 1, 1), 7);
        begin(18);
        WhirlShafts y = pair();               // RATES 0 and STIFF
        due(y.tune(0, 1, 10, 1), 10);
        due(y.tune(0, 5, 10, 1), 1);
        due(y.tune(0, 0, 10, 1), NOT);
        due(y.tune(0, 0, 0, 1), 1);
        due(y.tune(0, 1, 9999, 1), NOT);
        due(y.tune(0, 1, 99, 1), 99);
        due(y.tune(0, 1, 100, 1), NOT);
        due(y.of(1, 0), 4);
        due(y.tune(1, 1, 10, 1), BAD);
        due(y.tune(-1, 1, 10, 1), BAD);
        due(y.tune(0, 10, 1, 1), BAD);
        due(y.tune(0, 1, 10000, 1), BAD);
        due(y.tune(0, 1, 10, 17), BAD);
        due(single().tune(0, 1, 10, 1), BAD);
    }

    private static void heavierChangeCritical() {
        begin(19);
        WhirlShafts x = pair();
        due(x.heavier(1, 3, 0), 0);           // like ones: the first; 4 by 3 and 4 by 2 are 10 by 3
        due(x.heavier(1, 3, 1), 10);
        x.set(0, 0, 99);
        due(x.heavier(1, 1, 0), 1);
        x.set(0, 1, 99);
        due(x.heavier(1, 1, 0), NOT);
        due(x.heavier(1, 1, 1), NOT);
        due(x.heavier(2, 1, 0), BAD);
        due(x.heavier(-1, 1, 0), BAD);
        due(x.heavier(0, 0, 0), BAD);
        due(x.heavier(0, 1, 2), BAD);
        due(x.of(0, 0), 99);
        begin(20);
        // A light DISC in a BEARING and a heavy one without: they had better change.
        WhirlShafts y = new WhirlShafts();
        y.disc(0, 50, 0);
        y.disc(1, 1, 10);
        y.set(2, 1, 80);
        due(y.change(1, 16), NOT);
        due(y.change(0, 16), 0);
        due(y.of(6, 0), 0);
        due(y.of(0, 1), 1);
        due(y.change(2, 16), BAD);
        due(y.change(0, 17), BAD);
        due(pair().change(1, 16), NOT);
        due(single().change(0, 16), NOT);
        // By KIND alone: MASSES are like, but the HUB weighs a quarter of the RIM.
        WhirlShafts k = new WhirlShafts();
        k.disc(1, 8, 0);
        k.disc(2, 8, 10);
        k.set(2, 1, 80);
        due(k.change(0, 16), 0);
        WhirlShafts done = new WhirlShafts();
        done.disc(2, 8, 0);
        done.disc(1, 8, 10);
        done.set(2, 1, 80);
        due(done.change(0, 16), NOT);
        begin(21);
        WhirlShafts z = single();             // RATE 3: 2 times 2 is the first above it
        due(z.critical(0), 2);
        z.set(2, 0, 4);                       // RATE 1
        due(z.critical(0), 1);
        z.set(0, 0, 1);
        z.set(2, 0, 82);                      // by TWIST 82 is above 81
        due(z.critical(0), NOT);
        z.set(2, 0, 81);
        due(z.critical(0), 9);
        z.set(5, 0, 2);
        z.set(0, 0, 10);                      // by AFT INERTIA is 10 and SPIN: 81 by 13 and SPIN 3: 6
        due(z.critical(0), 3);
        z.set(5, 0, 1);                       // by FORE 10 less 1 by SPIN 3: 9
        due(z.critical(0), 3);
        due(z.critical(1), BAD);
        due(z.critical(-1), BAD);
        due(z.count(1), 0);
    }

    private static void fitsJudge() {
        begin(22);
        WhirlShafts x = single();             // FENCE by 1: 12 by MASS
        due(x.fits(0, 1, 1, 0, 0), -11);
        x.row(0, 1, 1);
        x.put(0, 0, 2);
        due(x.fits(0, 1, 1, 0, 0), 2);        // 5, 6
        due(x.fits(0, 1, 1, 0, 1), 5);
        due(x.fits(0, 1, 1, 0, 2), 0);        // 4 weighs 4, 8, 2, 11, 2: FENCES 3, 1, 6, 1, 6
        x.put(0, 0, 6);
        due(x.fits(0, 1, 1, 0, 2), 4 + 16);
        x.put(0, 0, 1);
        due(x.fits(0, 1, 1, 0, 2), 2 + 8);
        x.put(0, 0, 5);
        due(x.fits(0, 1, 1, 0, 0), 0);
        due(x.fits(0, 1, 1, 0, 1), NOT);
        due(x.fits(0, 0, 1, 0, 0), 99);
        due(x.fits(0, 0, 1, 0, 1), 1);
        due(x.fits(0, 0, 1, 0, 2), 31);
        x.put(0, 0, -1);
        due(x.fits(0, 1, 1, 0, 0), 0);
        x.row(0, 2, 1);
        x.put(0, 0, Long.MAX_VALUE);
        due(x.fits(0, 1, 1, 0, 0), 0);
        x.put(0, 0, 3L + (1L << 32));
        due(x.fits(0, 1, 1, 0, 0), 0);
        x.row(0, 1, 0);
        due(x.fits(0, 1, 1, 0, 0), -13);
        due(x.fits(0, 2, 1, 0, 0), BAD);
        due(x.fits(0, -1, 1, 0, 0), BAD);
        due(x.fits(3, 1, 1, 0, 0), BAD);
        due(x.fits(-1, 1, 1, 0, 0), BAD);
        due(x.fits(0, 1, 0, 0, 0), BAD);
        due(x.fits(0, 1, 1, 1, 0), BAD);
        due(x.fits(0, 1, 1, 0, 3), BAD);
        due(x.fits(1, 1, 1, 0, 3), BAD);
        due(x.of(0, 0), 4);
        due(x.of(6, 0), 0);
        begin(23);
        WhirlShafts y = pair();
        due(y.judge(0, 1), -11);
        due(y.judge(3, 1), BAD);
        due(y.judge(-1, 1), BAD);
        due(y.judge(0, 0), BAD);
        y.row(0, 0, 0);
        due(y.judge(0, 1), 100);
        y.row(0, 0, 1);
        due(y.judge(0, 1), 101);
        y.put(0, 0, 1);
        due(y.judge(0, 1), 0);
        y.row(0, 2, 2);
        due(y.judge(0, 1), 1);
        y.put(0, 1, 4);
        due(y.judge(0, 1), -2);
        y.row(0, 2, 40);
        y.put(0, 1, 4);
        y.put(0, 2, 77);
        due(y.judge(0, 1), -2);
        y.clear();
        due(y.judge(0, 1), -2);
        y.row(0, 0, 0);
        due(y.judge(0, 1), -2);
    }

    private static void orders() {
        begin(24);
        WhirlShafts x = pair();
        due(x.order(-1, 0, 0), BAD);
        due(x.order(6, 0, 0), BAD);
        due(x.order(0, MIN, MAX), 1);
        due(x.order(5, MIN, MAX), 2);
        due(x.drop(), 2);
        due(x.order(0, MIN, MAX), 1);
        for (int i = 2; i <= 8; i++) due(x.order(0, 0, i), i);
        due(x.order(0, 0, 9), FULL);
        due(x.order(6, 0, 9), BAD);
        due(x.count(4), 8);
        begin(27);
        due(x.drop(), 8);
        due(x.drop(), 0);
        due(x.count(4), 0);
        due(x.of(0, 0), 2);
        begin(25);
        x.order(1, 0, 8);
        x.order(3, 0, 7);                     // refused
        x.order(1, 1, 9);                     // refused
        x.order(1, 0, 6);
        due(x.tried(1, 1), 6);
        due(x.fence(1, 1), 4);
        due(x.tried(2, 1), BAD);
        due(x.tried(-1, 1), BAD);
        due(x.tried(0, 0), BAD);
        due(x.count(4), 4);
        due(x.count(5), 0);
        begin(26);
        due(x.does(), 2);
        due(x.fence(1, 1), 6);
        due(x.count(4), 0);
        due(x.count(5), 2);
        due(x.does(), 0);
        x.order(1, 0, 6);                     // so already: done, but no CHANGE
        due(x.does(), 1);
        due(x.count(5), 2);
        due(x.undo(), 1);
        due(x.of(1, 0), 8);
        due(x.undo(), 0);
        due(x.of(1, 0), 4);
        // An ORDER is looked at as it is done: the second is refused only while the first isn't.
        WhirlShafts y = line(3);
        y.set(3, 0, 6);
        y.order(3, 0, 2);
        y.order(3, 1, 3);
        due(y.does(), 2);
        due(y.count(3), 6);
        y.order(0, 2, 50);
        y.cut();
        due(y.tried(0, 1), y.fence(0, 1));
        due(y.does(), 0);
        // What was 0 is done, too; the first ORDER counts.
        WhirlShafts z = single();
        z.order(4, 0, 5);
        z.order(2, 0, 20);
        due(z.tried(0, 1), 5);
        due(z.does(), 2);
        z.order(2, 0, 40);
        due(z.tried(0, 1), 10);
    }

    private static void changes() {
        begin(28);
        WhirlShafts x = pair();
        due(x.undo(), STATE);
        due(x.set(0, 0, 5), 2);
        due(x.set(0, 0, 5), 5);
        due(x.count(5), 1);
        due(x.set(0, 0, 100), BAD);
        due(x.set(4, 1, 3), 0);
        due(x.set(5, 1, 2), 0);
        due(x.count(5), 3);
        due(x.undo(), 2);
        due(x.count(2), 0);
        due(x.undo(), 1);
        due(x.count(1), 0);
        due(x.undo(), 0);
        due(x.of(0, 0), 2);
        due(x.undo(), STATE);
        begin(29);
        due(x.redo(), 2);
        due(x.of(0, 0), 5);
        due(x.set(0, 0, 5), 5);               // no CHANGE
        due(x.set(0, 0, 0), BAD);
        due(x.redo(), 1);
        due(x.count(1), 3);
        due(x.count(6), 1);
        due(x.set(0, 1, 9), 2);
        due(x.redo(), STATE);
        due(x.count(6), 0);
        due(x.count(5), 3);
        due(x.undo(), 2);
        due(x.redo(), 0);
        due(x.of(0, 1), 9);
        // 12 at most
        for (int v = 11; v <= 30; v++) x.set(1, 0, v);
        due(x.count(5), 12);
        for (int left = 11; left >= 0; left--) due(x.undo(), left);
        due(x.of(1, 0), 18);
        due(x.undo(), STATE);
        due(x.count(6), 12);
        for (int left = 11; left >= 0; left--) due(x.redo(), left);
        due(x.of(1, 0), 30);
        due(x.redo(), STATE);
        // Those that leave none, where they are not refused.
        x = pair();
        for (int v = 11; v <= 30; v++) x.set(v % 2, 0, v);
        x.set(0, 1, 50);
        x.set(4, 0, 5);
        x.undo();
        x.set(1, 0, 31);
        x.undo();
        for (int left = 10; left >= 0; left--) due(x.undo(), left);
        due(x.of(0, 0), 20);
        due(x.of(1, 0), 19);
        due(x.of(0, 1), 2);
        due(x.redo(), 11);
        due(x.of(1, 0), 21);
        due(x.redo(), 10);
        due(x.of(0, 0), 22);
        for (int left = 9; left >= 0; left--) due(x.redo(), left);
        due(x.of(0, 0), 30);
        due(x.of(1, 0), 31);
        due(x.of(0, 1), 50);
        x = pair();
        due(x.back(), STATE);
        x.image();
        x.set(0, 0, 5);
        x.set(0, 0, 6);
        x.undo();
        due(x.disc(0, 0, 1), BAD);
        due(x.count(5), 1);
        due(x.count(6), 1);
        due(x.disc(0, 1, 1), 2);
        due(x.count(5), 0);
        due(x.count(6), 0);
        x.set(0, 0, 7);
        x.cut();
        due(x.count(5), 0);
        x.set(0, 0, 8);
        x.undo();
        x.back();
        due(x.count(6), 0);
        x.set(4, 0, 8);
        x.clear();
        due(x.count(5), 0);
        x.set(4, 0, 8);
        due(x.cut(), STATE);
        due(x.count(5), 1);
    }

    private static void tape() {
        begin(30);
        WhirlShafts x = new WhirlShafts();
        due(x.feed(31), BAD);
        due(x.feed(127), BAD);
        due(x.feed(-1), BAD);
        due(x.feed(32), 1);
        due(x.feed(126), 2);
        for (int i = 3; i <= 80; i++) due(x.feed('x'), i);
        due(x.feed('x'), FULL);
        due(x.feed(31), BAD);
        due(x.count(7), 80);
        begin(31);
        due(x.wipe(), 80);
        due(x.wipe(), 0);
        due(x.count(7), 0);
    }

    private static void faults() {
        begin(32);
        WhirlShafts x = new WhirlShafts();
        String[] texts = {"", "d", "d1", "d1,", "d1,2", "d1,2,", "d1,2,3;", "x;", "n", "n;", "n1,", "x1", "x,", ";", "d,1,2",
            "d1,2,3,", "d123", "d12,345", "i1", "i1,2,", "i1,2;k", "k1;", " x", "x ", "n 1", "D1,2,3", "w-1", "x;;x", "n1;2",
            "n111", "g1,234", "b1,,2", "d12,34,567"};
        int[] at = {0, 1, 2, 3, 4, 5, 7, 2, 1, 1, 2, 1, 1, 0, 1,
            6, 3, 6, 2, 4, 6, 2, 0, 1, 1, 0, 1, 2, 3,
            3, 5, 3, 9};
        for (int i = 0; i < texts.length; i++) {
            due(text(x, texts[i]), -100 - at[i]);
            due(x.count(7), 0);
        }
        due(text(x, "d0,5,1;d0,5,1;?"), -114);
        due(x.count(0), 0);
        StringBuilder full = new StringBuilder();
        for (int i = 0; i < 27; i++) full.append("n5;");
        due(text(x, full.substring(0, 80)), 27);
        due(x.count(5), 1);
        StringBuilder cut = new StringBuilder();
        for (int i = 0; i < 40; i++) cut.append("x;");
        due(text(x, cut.toString()), -180);
    }

    private static void refusedActs() {
        begin(32);
        WhirlShafts x = new WhirlShafts();
        due(text(x, "d0,05,00;d01,6,7;i0,9;k0,8;b1,10;g0,3;n7;w2"), 8);
        due(x.of(0, 0), 9);
        due(x.of(6, 1), 1);
        due(x.of(1, 0), 8);
        due(x.of(2, 1), 10);
        due(x.of(3, 0), 3);
        due(x.count(1), 7);
        due(x.count(2), 2);
        due(x.count(5), 6);
        due(text(x, "i0,10;g0,7;i0,11"), -201);
        due(x.of(0, 0), 10);
        due(text(x, "w3"), -200);
        due(text(x, "n10"), -200);
        due(text(x, "i2,5"), -200);
        due(text(x, "k1,5"), -200);
        due(text(x, "b0,1;d5,1,1"), -201);
        due(text(x, "d0,1,5;g1,3"), -201);
        due(x.count(0), 3);
        due(x.count(5), 0);
        due(text(x, "x;x;x;x"), -203);
        due(text(x, "d0,1,1;d0,1,1;d0,1,1;d0,1,1;d0,1,1;d0,1,1;d0,1,1;d0,1,1;d0,1,1"), -208);
        due(x.count(7), 0);
        due(x.count(0), 8);
        due(text(x, "x"), 1);
        due(x.count(0), 7);
    }

    private static void rows() {
        begin(33);
        WhirlShafts x = new WhirlShafts();
        due(x.row(-1, 0, 1), BAD);
        due(x.row(3, 0, 1), BAD);
        due(x.row(0, -2, 1), BAD);
        due(x.row(0, 3, 1), BAD);
        due(x.row(0, 0, 41), BAD);
        due(x.row(0, 0, -1), -14);
        due(x.row(0, 3, -1), BAD);
        due(x.row(0, 0, MIN), -14);
        due(x.row(0, -1, MIN), 1);
        due(x.count(8), 0);
        due(x.row(0, 0, 0), 1);
        due(x.row(1, 1, 40), 1);
        due(x.row(2, 2, 1), 1);
        due(x.count(8), 3);
        begin(34);
        due(x.put(3, 0, 1), BAD);
        due(x.put(-1, 0, 1), BAD);
        due(x.put(0, 0, 1), -13);
        due(x.put(1, 40, 1), -13);
        due(x.put(1, -1, 1), -13);
        due(x.put(1, 39, Long.MAX_VALUE), 1);
        due(x.get(1, 39), -1);
        due(x.put(1, 0, 1L << 31), 1);
        due(x.get(1, 0), Integer.MIN_VALUE);
        due(x.put(2, 0, Long.MIN_VALUE + 1), 1);
        due(x.get(2, 0), Long.MIN_VALUE + 1);
        x.row(0, 0, 2);
        due(x.put(0, 0, 128), 1);
        due(x.get(0, 0), -128);
        due(x.put(0, 1, 255 + 256), 1);
        due(x.get(0, 1), -1);
        due(x.row(0, 0, 2), 1);
        due(x.get(0, 1), 0);
        x.row(0, -1, 0);
        due(x.put(0, 0, 1), -11);
        begin(35);
        due(x.get(0, 0), WhirlShafts.VOID);
        due(x.get(3, 0), WhirlShafts.VOID);
        due(x.get(-1, 0), WhirlShafts.VOID);
        due(x.get(1, 40), WhirlShafts.VOID);
        due(x.get(1, -1), WhirlShafts.VOID);
        due(x.get(1, 1), 0);
    }

    private static void film() {
        begin(36);
        WhirlShafts x = pair();
        x.set(1, 0, 99);
        x.row(0, 2, 40);
        due(x.film(0, 0, 2), 2);
        due(x.get(0, 0), 0);
        due(x.get(0, 1), (byte) 198);
        due(x.get(0, 2), WhirlShafts.VOID);
        due(x.put(0, 1, 256), 1);
        due(x.get(0, 1), 0);
        due(x.film(2, 1, 2), 2);
        due(x.get(2, 0), 0);
        due(x.get(2, 1), 198);
        due(x.film(3, 1, 2), BAD);
        due(x.film(-1, 1, 2), BAD);
        due(x.film(0, -1, 2), BAD);
        due(x.film(0, 3, 2), BAD);
        due(x.film(0, 1, 0), BAD);
        due(x.film(0, 1, 17), BAD);
        x.clear();
        due(x.film(1, 2, 1), 0);
        due(x.count(8), 3);
        due(x.get(1, 0), WhirlShafts.VOID);
        due(x.put(1, 0, 0), -13);
        WhirlShafts y = single();
        due(y.film(0, 0, 16), 1);
        due(y.get(0, 0), 48);
    }

    private static void copy() {
        begin(37);
        WhirlShafts x = new WhirlShafts();
        x.row(0, 1, 6);
        x.row(1, 1, 3);
        for (int i = 0; i < 6; i++) x.put(0, i, i + 1);
        due(x.copy(3, 0, 0, 0, 1), BAD);
        due(x.copy(0, 0, -1, 0, 1), BAD);
        due(x.copy(0, 0, 2, 0, 1), -11);
        due(x.copy(2, 0, 0, 0, -1), -11);
        x.row(2, 2, 6);
        due(x.copy(0, 0, 2, 0, -1), -12);
        due(x.copy(0, 0, 1, 0, 4), -13);
        due(x.copy(1, 0, 0, 0, 4), -13);
        due(x.copy(0, 0, 1, 0, -1), -13);
        due(x.copy(0, -1, 1, 0, 1), -13);
        due(x.copy(0, 0, 1, -1, 1), -13);
        due(x.copy(0, MAX, 1, 0, MAX), -13);
        due(x.copy(0, 1, 1, 0, MAX), -13);
        due(x.copy(0, 4, 1, 0, 3), -13);
        due(x.copy(0, 0, 1, 1, 3), -13);
        due(x.copy(0, 7, 1, 0, 0), -13);
        due(x.copy(0, 6, 1, 3, 0), 0);
        due(x.copy(0, 3, 1, 0, 3), 3);
        due(x.get(1, 0), 4);
        due(x.get(1, 2), 6);
        due(x.copy(0, 0, 0, 2, 4), 4);
        int[] moved = {1, 2, 1, 2, 3, 4};
        for (int i = 0; i < 6; i++) due(x.get(0, i), moved[i]);
        due(x.copy(0, 1, 0, 0, 5), 5);
        int[] down = {2, 1, 2, 3, 4, 4};
        for (int i = 0; i < 6; i++) due(x.get(0, i), down[i]);
    }

    private static void traced(WhirlShafts x, int... bodies) {
        for (int i = 0; i < bodies.length; i++) due(x.trace(i), bodies[i]);
        due(x.trace(bodies.length), NOT);
    }

    private static void acts() {
        begin(38);
        WhirlShafts x = new WhirlShafts();
        for (int kind = 0; kind < 5; kind++) x.disc(kind, 10 + kind, 5);
        due(x.act(0, 0, 7), 7);
        traced(x, 10);
        due(x.act(0, 1, 7), 14);
        traced(x, 11, 10);
        due(x.act(0, 2, 7), 4);
        traced(x, 12, 11, 10);
        due(x.act(1, 0, 7), 8);
        traced(x, 10);
        due(x.act(1, 1, 7), 16 ^ 3);
        traced(x, 20, 11, 10);
        due(x.act(1, 2, 7), 19 - 11);
        traced(x, 12, 20, 11, 10);
        due(x.act(2, 0, 7), -9);
        traced(x, 30, 10);
        due(x.act(2, 1, 7), -18);
        traced(x, 11, 30, 10);
        due(x.act(2, 2, 7), -30);
        traced(x, 12, 11, 30, 10);
        due(x.act(3, 0, 7), 30);
        traced(x, 41, 10);
        due(x.act(3, 1, 7), 60 ^ 3);
        traced(x, 20, 11, 41, 10);
        due(x.act(3, 2, 7), (66 ^ 3) - 13);
        traced(x, 40, 12, 20, 11, 41, 10);
        due(x.act(4, 0, 7), -11);
        traced(x, 30, 10);
        due(x.act(4, 1, 7), -22 - 6);
        traced(x, 50, 11, 30, 10, 30, 10);
        due(x.act(4, 2, 7), -28 - 14);
        traced(x, 12, 50, 11, 30, 10, 30, 10);
        due(x.act(1, 0, MAX), MIN);
        due(x.act(3, 2, MAX), ((MIN + 3) * 3 * 2 ^ 3) - 13);
        begin(39);
        due(x.act(5, 0, 7), 0);
        due(x.act(-1, 0, 7), 0);
        due(x.act(0, 3, 7), 0);
        due(x.act(0, -1, 7), 0);
        traced(x, 40, 12, 20, 11, 41, 10);
        due(x.trace(-1), NOT);
        due(x.trace(24), NOT);
        due(x.trace(MAX), NOT);
        x.image();
        x.back();
        x.cut();
        x.clear();
        traced(x, 40, 12, 20, 11, 41, 10);
    }

    private static void taken() {
        begin(40);
        WhirlShafts x = new WhirlShafts();
        for (int kind = 0; kind < 5; kind++) x.disc(kind, 10 + kind, 5);
        boolean[][] under = {{true, false, false, false, false}, {true, true, false, false, false},
            {true, false, true, false, false}, {true, true, false, true, false}, {true, false, true, false, true}};
        for (int d = 0; d < 5; d++) {
            for (int k = 0; k < 5; k++) due(x.taken(d, k), under[d][k] ? 10 + d : STATE);
        }
        due(x.taken(5, 0), BAD);
        due(x.taken(-1, 0), BAD);
        due(x.taken(0, 5), BAD);
        due(x.taken(0, -1), BAD);
    }

    private static void image() {
        begin(41);
        WhirlShafts x = new WhirlShafts();
        due(x.image(), 0);
        due(x.alike(), 1);
        x.disc(0, 6, 0);
        due(x.alike(), 0);
        x.disc(2, 4, 8);
        x.set(2, 0, 7);
        x.set(3, 0, 2);
        x.set(4, 0, 5);
        x.set(5, 0, 1);
        x.order(0, 0, 9);
        x.feed('n');
        x.row(1, 1, 1);
        due(x.image(), 2);
        begin(42);
        due(x.alike(), 1);
        x.set(0, 1, 3);                       // a HUB of 3 weighs as one of 4
        due(x.alike(), 1);
        x.set(0, 1, 5);
        due(x.alike(), 0);
        x.set(0, 1, 4);
        x.set(4, 0, 4);                       // 6 less 6 times SPIN by 20: 5 by both, 2 less 2 times SPIN by 20: 2
        due(x.alike(), 1);
        x.set(5, 0, 0);
        due(x.alike(), 0);
        x.set(5, 0, 1);
        x.set(2, 0, 6);
        due(x.alike(), 0);
        x.set(2, 0, 7);
        x.set(1, 0, 9);
        due(x.alike(), 0);
        x.set(1, 0, 8);
        x.drop();
        due(x.alike(), 1);
        begin(43);
        x.disc(0, 1, 1);
        x.feed('5');
        x.row(0, 0, 1);
        due(x.back(), 2);
        due(x.count(0), 2);
        due(x.count(1), 5);
        due(x.count(2), 1);
        due(x.count(3), 2);
        due(x.count(4), 1);
        due(x.count(5), 0);
        due(x.count(6), 0);
        due(x.count(7), 2);
        due(x.count(8), 2);
        due(x.of(2, 0), 7);
        due(x.does(), 1);
        due(x.of(0, 0), 9);
        due(x.back(), 2);
        due(x.of(0, 0), 6);
        due(x.count(4), 1);
        x.clear();
        due(x.alike(), 0);
        due(x.back(), 2);
        due(x.alike(), 1);
        // REDUCED are compared, not what they are made of: a RATIO of the last SHAFT, made up for by MASS.
        WhirlShafts y = pair();
        y.set(0, 1, 4);
        y.image();
        y.set(3, 0, 2);
        due(y.alike(), 0);
        y.set(0, 1, 1);
        due(y.alike(), 1);
    }

    private static void count() {
        begin(44);
        WhirlShafts x = line(4);
        x.set(4, 0, 3);
        x.set(5, 0, 2);
        x.set(3, 0, 2);
        x.set(3, 2, 3);
        x.undo();
        x.order(0, 0, 1);
        x.feed('x');
        x.row(2, 0, 0);
        int[] want = {4, 3, 2, 2, 1, 3, 1, 1, 1};
        for (int what = 0; what <= 8; what++) due(x.count(what), want[what]);
        due(x.count(9), BAD);
        due(x.count(-1), BAD);
        x.redo();
        due(x.count(3), 6);
    }

    /** As many DISCS as there can be: like ones by like SHAFTS, RATES 4 sin(pi k / 16) squared times STIFF by MASS. */
    private static void eight() {
        begin(13);
        WhirlShafts x = new WhirlShafts();
        for (int i = 0; i < 8; i++) x.disc(0, 1, 10);
        due(x.top(), 41);
        for (int k = 0; k < 8; k++) {
            double sine = Math.sin(Math.PI * k / 16);
            int want = k == 4 ? 320 : (int) (4 * sine * sine * 10 * 16);
            due(x.fence(k, 16), want);
        }
        begin(14);
        due(x.held(7, 9999, 1), 7);
        due(x.held(0, 9999, 1), 7);
        begin(16);
        due(x.gap(1, 0), 3);                  // FENCES 0, 1, 5, 12, 20, 27, 34, 38
        due(x.gap(1, 1), 8);
        begin(20);
        due(x.change(7, 16), NOT);
        begin(36);
        due(x.film(0, 2, 16), 8);
        due(x.get(0, 4), 320);
        due(x.judge(0, 16), -2);
        begin(42);
        due(x.image(), 8);
        due(x.alike(), 1);
        x.set(2, 7, 1);
        due(x.alike(), 0);
    }

    /** The widest rows that there can be, by BigInteger. */
    private static void wide() {
        begin(11);
        for (int q = 1; q <= 16; q++) wide(q);
    }

    private static void wide(int q) {
        WhirlShafts x = new WhirlShafts();
        Model m = new Model(true);
        for (int i = 0; i < 8; i++) {
            x.disc(3, 99, 99);
            m.disc(3, 99, 99);
        }
        int[][] sets = {{3, 0, 6}, {4, 0, 9}, {5, 0, 2}};
        for (int[] s : sets) due(x.set(s[0], s[1], s[2]), m.set(s[0], s[1], s[2]));
        for (int i = 0; i < 8; i++) due(x.set(2, i, 99), m.set(2, i, 99));
        for (int i = 0; i <= 8; i++) {
            for (int p = 0; p <= 9999; p += 1111) {
                due(x.rest(i, p, q), m.rest(i, p, q));
                due(x.sign(i, p, q), m.sign(i, p, q));
            }
        }
    }
}
