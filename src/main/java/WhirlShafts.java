/** A bench for shafts that twist and whirl. What each call promises stands in DOC.md; its words are used here. */
public final class WhirlShafts {
    public static final int BAD = -1, NOT = -2, FULL = -3, STATE = -5;
    public static final long VOID = Long.MIN_VALUE;

    private static final int MISSING = -11, OTHER_SORT = -12, OUTSIDE = -13, SIZE_BELOW_0 = -14;
    private static final int NO_SIGN = -1000, FAULT_BASE = -100, REFUSED_BASE = -200, ENDED_BASE = 100;
    private static final int MOST_DISCS = 8, MOST_MASS = 99, MOST_STIFF = 99, MOST_SPIN = 9, MOST_RATIOS = 6;
    private static final int MOST_P = 9999, MOST_Q = 16;
    private static final int MOST_ORDERS = 8, MOST_CHANGES = 12, MOST_BYTES = 80, MOST_BODIES = 24;
    private static final int ROWS = 3, MOST_PLACES = 40, NO_SORT = -1, BYTES = 0, INTS = 1, LONGS = 2;

    private static final int MASS = 0, STIFF = 1, BEARING = 2, RATIO = 3, SPIN = 4, WAY = 5;
    private static final int[] LEAST = {1, 1, 0, 1, 0, 0};
    private static final int[] MOST = {99, 99, 99, 6, 9, 2};
    private static final int FORE = 1, AFT = 2;

    /** By KIND: the KIND that it stands under; -1: none. */
    private static final int[] ABOVE = {-1, 0, 0, 1, 2};

    /** One object for each KIND, lent to a DISC as it acts or is weighed. */
    private final Disc[] kinds;
    /** The KIND whose object holds THE TRACE; null: no ACT yet. */
    private Disc latest;
    private final Line line;
    private final Line trial;
    private final Line image;
    private boolean imaged;
    private final Orders orders;
    private final Orders imageOrders;
    private final Changes changes;
    private final Rates rates;
    private final Tape tape;
    private final Row[] rows;

    public WhirlShafts() {
        kinds = new Disc[ABOVE.length];
        kinds[0] = new Disc();
        kinds[1] = new Rim();
        kinds[2] = new Hub();
        kinds[3] = new Crown();
        kinds[4] = new Shell();
        line = new Line(kinds);
        trial = new Line(kinds);
        image = new Line(kinds);
        orders = new Orders();
        imageOrders = new Orders();
        changes = new Changes();
        rates = new Rates();
        tape = new Tape();
        rows = new Row[ROWS];
        for (int i = 0; i < ROWS; i++) {
            rows[i] = new Row();
        }
    }

    // ---- the line and what is told of it

    public int disc(int kind, int mass, int stiff) {
        if (!isKind(kind) || !inRange(MASS, mass)) {
            return BAD;
        }
        if (line.discs > 0 && !inRange(STIFF, stiff)) {
            return BAD;
        }
        if (line.discs >= MOST_DISCS) {
            return FULL;
        }
        changes.forget();
        return line.join(kind, mass, stiff);
    }

    public int cut() {
        if (line.discs == 0) {
            return STATE;
        }
        changes.forget();
        line.discs--;
        return line.discs;
    }

    public int clear() {
        int were = line.discs;
        changes.forget();
        line.discs = 0;
        line.spin = 0;
        line.way = 0;
        return were;
    }

    public int set(int what, int number, int v) {
        int refusal = line.refusal(what, number, v);
        if (refusal != 0) {
            return refusal;
        }
        int was = line.told(what, number);
        if (was != v) {
            line.tell(what, number, v);
            changes.add(what, number, was, v);
        }
        return was;
    }

    public int of(int what, int number) {
        if (what <= WAY) {
            return line.hasPlace(what, number) ? line.told(what, number) : BAD;
        }
        if (what == 12) {
            return line.hasShaft(number) ? line.reducedStiff(number) : BAD;
        }
        if (!line.hasDisc(number)) {
            return BAD;
        }
        switch (what) {
            case 6: return line.kind[number];
            case 7: return line.weight(number);
            case 8: return line.reducedInertia(number);
            case 9: return line.reducedBearing(number);
            case 10: return line.factor(number);
            case 11: return line.holds(number);
            default: return BAD;
        }
    }

    // ---- rates as they are

    public int below(int p, int q) {
        if (!isPoint(p, q)) {
            return BAD;
        }
        rates.take(line);
        return rates.belowAll(p, q);
    }

    public int isRate(int p, int q) {
        if (!isPoint(p, q)) {
            return BAD;
        }
        rates.take(line);
        rates.belowAll(p, q);
        return rates.signOfRow(line.discs) == 0 ? 1 : 0;
    }

    public int sign(int disc, int p, int q) {
        if (!line.hasDisc(disc) || !isPoint(p, q)) {
            return NO_SIGN;
        }
        rates.take(line);
        rates.belowPart(0, disc - 1, p, q);
        return rates.signOfRow(disc);
    }

    public int nodes(int p, int q) {
        if (!isPoint(p, q)) {
            return BAD;
        }
        rates.take(line);
        // The SIGNS of all DISCS are those of all rows but the last.
        return rates.belowPart(0, line.discs - 2, p, q);
    }

    public int rest(int i, int p, int q) {
        if (i < 0 || i > line.discs || !isPoint(p, q)) {
            return BAD;
        }
        rates.take(line);
        rates.belowPart(0, i - 1, p, q);
        return rates.restOfRow(i);
    }

    public int top() {
        rates.take(line);
        return rates.highest();
    }

    public int fence(int rate, int q) {
        if (!line.hasDisc(rate) || !isQ(q)) {
            return BAD;
        }
        return fenceBy(line, rate, q);
    }

    public int held(int disc, int p, int q) {
        if (!line.hasDisc(disc) || !isPoint(p, q)) {
            return BAD;
        }
        rates.take(line);
        return rates.belowPart(0, disc - 1, p, q) + rates.belowPart(disc + 1, line.discs - 1, p, q);
    }

    public int band(int low, int high, int q) {
        if (!isBand(low, high, q)) {
            return BAD;
        }
        rates.take(line);
        return rates.between(low, high, q);
    }

    public int gap(int q, int what) {
        if (!isQ(q) || what < 0 || what > 1) {
            return BAD;
        }
        if (line.discs < 2) {
            return NOT;
        }
        rates.take(line);
        int rate = 0;
        int most = -1;
        int last = rates.fenceOf(0, q);
        for (int k = 1; k < line.discs; k++) {
            int next = rates.fenceOf(k, q);
            if (next - last > most) {
                most = next - last;
                rate = k - 1;
            }
            last = next;
        }
        return what == 0 ? rate : most;
    }

    // ---- rates as they would be

    public int trim(int disc, int rate, int p, int q, int what) {
        if (!line.hasDisc(disc) || !line.hasDisc(rate) || !isPoint(p, q) || what < 0 || what > 1) {
            return BAD;
        }
        trial.takeFrom(line);
        int mass = leastMassWithin(disc, rate, p, q);
        int differs = mass > MOST_MASS ? MOST_P + 1 : p - fenceByMass(disc, mass, rate, q);
        if (mass > 1) {
            // FENCES never rise with MASS: the nearest one above the wish belongs to the next lighter MASS.
            int over = fenceByMass(disc, mass - 1, rate, q);
            if (over - p <= differs) {
                differs = over - p;
                mass = leastMassWithin(disc, rate, over, q);
            }
        }
        return what == 0 ? mass : differs;
    }

    public int tune(int shaft, int low, int high, int q) {
        if (!line.hasShaft(shaft) || !isBand(low, high, q)) {
            return BAD;
        }
        trial.takeFrom(line);
        for (int stiff = 1; stiff <= MOST_STIFF; stiff++) {
            trial.stiff[shaft] = stiff;
            rates.take(trial);
            if (rates.between(low, high, q) == 0) {
                return stiff;
            }
        }
        return NOT;
    }

    public int heavier(int rate, int q, int what) {
        if (!line.hasDisc(rate) || !isQ(q) || what < 0 || what > 1) {
            return BAD;
        }
        trial.takeFrom(line);
        int disc = NOT;
        int least = NOT;
        for (int i = 0; i < line.discs; i++) {
            if (line.mass[i] < MOST_MASS) {
                int fence = fenceByMass(i, line.mass[i] + 1, rate, q);
                trial.mass[i] = line.mass[i];
                if (disc < 0 || fence < least) {
                    disc = i;
                    least = fence;
                }
            }
        }
        return what == 0 ? disc : least;
    }

    public int change(int rate, int q) {
        if (!line.hasDisc(rate) || !isQ(q)) {
            return BAD;
        }
        trial.takeFrom(line);
        int disc = NOT;
        int most = fenceBy(line, rate, q);
        for (int i = 0; i + 1 < line.discs; i++) {
            trial.swap(i);
            int fence = fenceBy(trial, rate, q);
            trial.swap(i);
            if (fence > most) {
                disc = i;
                most = fence;
            }
        }
        return disc;
    }

    public int critical(int rate) {
        if (!line.hasDisc(rate)) {
            return BAD;
        }
        trial.takeFrom(line);
        for (int spin = 1; spin <= MOST_SPIN; spin++) {
            trial.spin = spin;
            if (fenceBy(trial, rate, 1) <= spin * spin) {
                return spin;
            }
        }
        return NOT;
    }

    public int fits(int row, int m, int q, int disc, int what) {
        if (!isRow(row) || m < 0 || m > line.discs || !isQ(q) || !line.hasDisc(disc) || what < 0 || what > 2) {
            return BAD;
        }
        if (rows[row].isMissing()) {
            return MISSING;
        }
        if (m > rows[row].size) {
            return OUTSIDE;
        }
        trial.takeFrom(line);
        if (what == 2) {
            return kindsThatFit(rows[row], m, q, disc);
        }
        return massesThatFit(rows[row], m, q, disc, what == 1);
    }

    public int judge(int row, int q) {
        if (!isRow(row) || !isQ(q)) {
            return BAD;
        }
        Row told = rows[row];
        if (told.isMissing()) {
            return MISSING;
        }
        rates.take(line);
        for (int k = 0; k < line.discs; k++) {
            if (k >= told.size) {
                return ENDED_BASE + k;
            }
            if (!rates.fenceIs(k, q, told.places[k])) {
                return k;
            }
        }
        return NOT;
    }

    // ---- orders and changes

    public int order(int what, int number, int v) {
        if (what < MASS || what > WAY) {
            return BAD;
        }
        if (orders.waiting >= MOST_ORDERS) {
            return FULL;
        }
        return orders.add(what, number, v);
    }

    public int tried(int rate, int q) {
        if (!line.hasDisc(rate) || !isQ(q)) {
            return BAD;
        }
        trial.takeFrom(line);
        for (int i = 0; i < orders.waiting; i++) {
            if (trial.refusal(orders.what[i], orders.number[i], orders.v[i]) == 0) {
                trial.tell(orders.what[i], orders.number[i], orders.v[i]);
            }
        }
        return fenceBy(trial, rate, q);
    }

    public int does() {
        int done = 0;
        for (int i = 0; i < orders.waiting; i++) {
            if (set(orders.what[i], orders.number[i], orders.v[i]) >= 0) {
                done++;
            }
        }
        orders.waiting = 0;
        return done;
    }

    public int drop() {
        int waited = orders.waiting;
        orders.waiting = 0;
        return waited;
    }

    public int undo() {
        return changes.done == 0 ? STATE : changes.stepBack(line);
    }

    public int redo() {
        return changes.undone == 0 ? STATE : changes.stepOn(line);
    }

    // ---- the tape

    public int feed(int letter) {
        if (letter < 32 || letter > 126) {
            return BAD;
        }
        if (tape.length >= MOST_BYTES) {
            return FULL;
        }
        return tape.add(letter);
    }

    public int wipe() {
        int had = tape.length;
        tape.length = 0;
        return had;
    }

    public int read() {
        int fault = tape.fault();
        int answer = fault >= 0 ? FAULT_BASE - fault : doActs();
        tape.length = 0;
        return answer;
    }

    // ---- rows

    public int row(int row, int sort, int n) {
        if (!isRow(row) || sort < NO_SORT || sort > LONGS) {
            return BAD;
        }
        if (sort == NO_SORT) {
            rows[row].become(NO_SORT, 0);
            return 1;
        }
        if (n > MOST_PLACES) {
            return BAD;
        }
        if (n < 0) {
            return SIZE_BELOW_0;
        }
        rows[row].become(sort, n);
        return 1;
    }

    public int put(int row, int i, long v) {
        if (!isRow(row)) {
            return BAD;
        }
        if (rows[row].isMissing()) {
            return MISSING;
        }
        if (!rows[row].hasPlace(i)) {
            return OUTSIDE;
        }
        rows[row].store(i, v);
        return 1;
    }

    public long get(int row, int i) {
        // A missing ROW has no places.
        return isRow(row) && rows[row].hasPlace(i) ? rows[row].places[i] : VOID;
    }

    public int film(int row, int sort, int q) {
        if (!isRow(row) || sort < BYTES || sort > LONGS || !isQ(q)) {
            return BAD;
        }
        rates.take(line);
        rows[row].become(sort, line.discs);
        for (int k = 0; k < line.discs; k++) {
            rows[row].store(k, rates.fenceOf(k, q));
        }
        return line.discs;
    }

    public int copy(int row, int i, int other, int j, int n) {
        if (!isRow(row) || !isRow(other)) {
            return BAD;
        }
        Row from = rows[row];
        Row to = rows[other];
        if (from.isMissing() || to.isMissing()) {
            return MISSING;
        }
        if (from.sort != to.sort) {
            return OTHER_SORT;
        }
        if (!from.hasSpan(i, n) || !to.hasSpan(j, n)) {
            return OUTSIDE;
        }
        System.arraycopy(from.places, i, to.places, j, n);
        return n;
    }

    // ---- what discs do, the image, counts

    public int act(int disc, int act, int x) {
        if (!line.hasDisc(disc) || act < 0 || act > 2) {
            return 0;
        }
        latest = kinds[line.kind[disc]];
        latest.begin(disc, line.mass[disc]);
        switch (act) {
            case 0: return latest.spins(x);
            case 1: return latest.swings(x);
            default: return latest.tells(x);
        }
    }

    public int trace(int i) {
        if (latest == null || i < 0 || i >= latest.ran) {
            return NOT;
        }
        return latest.bodies[i];
    }

    public int taken(int disc, int k) {
        if (!line.hasDisc(disc) || !isKind(k)) {
            return BAD;
        }
        return isUnder(line.kind[disc], k) ? line.mass[disc] : STATE;
    }

    public int image() {
        image.takeFrom(line);
        imageOrders.takeFrom(orders);
        imaged = true;
        return image.discs;
    }

    public int alike() {
        if (!imaged) {
            return STATE;
        }
        return line.reducesLike(image) ? 1 : 0;
    }

    public int back() {
        if (!imaged) {
            return STATE;
        }
        line.takeFrom(image);
        orders.takeFrom(imageOrders);
        changes.forget();
        return line.discs;
    }

    public int count(int what) {
        switch (what) {
            case 0: return line.discs;
            case 1: return line.spin;
            case 2: return line.way;
            case 3: return line.ratios(line.discs - 1);
            case 4: return orders.waiting;
            case 5: return changes.done;
            case 6: return changes.undone;
            case 7: return tape.length;
            case 8: return rowsThere();
            default: return BAD;
        }
    }

    // ---- what the calls share

    private static boolean isKind(int kind) {
        return kind >= 0 && kind < ABOVE.length;
    }

    /** what: one of MASS .. WAY. */
    private static boolean inRange(int what, int v) {
        return v >= LEAST[what] && v <= MOST[what];
    }

    private static boolean isQ(int q) {
        return q >= 1 && q <= MOST_Q;
    }

    private static boolean isPoint(int p, int q) {
        return p >= 0 && p <= MOST_P && isQ(q);
    }

    private static boolean isBand(int low, int high, int q) {
        return isPoint(low, q) && isPoint(high, q) && low <= high;
    }

    private static boolean isRow(int row) {
        return row >= 0 && row < ROWS;
    }

    private static boolean isUnder(int kind, int upper) {
        int at = kind;
        for (int steps = 0; steps < ABOVE.length && at >= 0; steps++) {
            if (at == upper) {
                return true;
            }
            at = ABOVE[at];
        }
        return false;
    }

    private int rowsThere() {
        int there = 0;
        for (int i = 0; i < ROWS; i++) {
            if (!rows[i].isMissing()) {
                there++;
            }
        }
        return there;
    }

    private int fenceBy(Line tested, int rate, int q) {
        rates.take(tested);
        return rates.fenceOf(rate, q);
    }

    private int fenceByMass(int disc, int mass, int rate, int q) {
        trial.mass[disc] = mass;
        return fenceBy(trial, rate, q);
    }

    /** The least MASS of a DISC of the trial by which FENCE of a RATE is p or less; one above MOST_MASS: none. */
    private int leastMassWithin(int disc, int rate, int p, int q) {
        int lighter = 0;
        for (int bit = 64; bit > 0; bit >>= 1) {
            int mass = lighter + bit;
            if (mass <= MOST_MASS) {
                trial.mass[disc] = mass;
                rates.take(trial);
                // FENCES never rise with MASS, so halving finds the least.
                if (rates.belowAll(p + 1, q) <= rate) {
                    lighter = mass;
                }
            }
        }
        return lighter + 1;
    }

    private boolean trialFits(Row told, int m, int q) {
        rates.take(trial);
        for (int k = 0; k < m; k++) {
            if (!rates.fenceIs(k, q, told.places[k])) {
                return false;
            }
        }
        return true;
    }

    private int massesThatFit(Row told, int m, int q, int disc, boolean first) {
        int fit = 0;
        for (int mass = 1; mass <= MOST_MASS; mass++) {
            trial.mass[disc] = mass;
            if (trialFits(told, m, q)) {
                if (first) {
                    return mass;
                }
                fit++;
            }
        }
        return first ? NOT : fit;
    }

    private int kindsThatFit(Row told, int m, int q, int disc) {
        int bits = 0;
        for (int kind = 0; kind < ABOVE.length; kind++) {
            trial.kind[disc] = kind;
            if (trialFits(told, m, q)) {
                bits |= 1 << kind;
            }
        }
        return bits;
    }

    /** The tape has no FAULT. */
    private int doActs() {
        int done = 0;
        tape.at = 0;
        for (int acts = 0; acts < MOST_BYTES && tape.at < tape.length; acts++) {
            if (doAct(tape.nextAct()) < 0) {
                return REFUSED_BASE - done;
            }
            done++;
        }
        return done;
    }

    private int doAct(int letter) {
        int[] numbers = tape.numbers;
        switch (letter) {
            case 'd': return disc(numbers[0], numbers[1], numbers[2]);
            case 'i': return set(MASS, numbers[0], numbers[1]);
            case 'k': return set(STIFF, numbers[0], numbers[1]);
            case 'b': return set(BEARING, numbers[0], numbers[1]);
            case 'g': return set(RATIO, numbers[0], numbers[1]);
            case 'n': return set(SPIN, 0, numbers[0]);
            case 'w': return set(WAY, 0, numbers[0]);
            default: return cut();
        }
    }

    /** KIND 0, and what all KINDS share. */
    private static class Disc {
        final int[] bodies = new int[MOST_BODIES];
        int ran;
        int number;
        int mass;

        void begin(int actor, int actorsMass) {
            ran = 0;
            number = actor;
            mass = actorsMass;
        }

        void note(int body) {
            if (ran < MOST_BODIES) {
                bodies[ran] = body;
                ran++;
            }
        }

        int weighs(int ofMass, int spin) {
            return ofMass;
        }

        int spins(int x) {
            note(10);
            return x + number;
        }

        int swings(int x) {
            note(11);
            return spins(x) * 2;
        }

        int tells(int x) {
            note(12);
            return swings(x) - mass;
        }
    }

    /** KIND 1. */
    private static class Rim extends Disc {
        int weighs(int ofMass, int spin) {
            return ofMass * 2;
        }

        int swings(int x) {
            note(20);
            return super.swings(x) ^ 3;
        }
    }

    /** KIND 2. */
    private static class Hub extends Disc {
        int weighs(int ofMass, int spin) {
            return (ofMass + 1) / 2;
        }

        int spins(int x) {
            note(30);
            return -super.spins(x);
        }
    }

    /** KIND 3. */
    private static final class Crown extends Rim {
        int weighs(int ofMass, int spin) {
            return super.weighs(ofMass, spin) + 3;
        }

        int tells(int x) {
            note(40);
            return super.tells(x + 1);
        }

        int spins(int x) {
            note(41);
            return super.spins(x) * 3;
        }
    }

    /** KIND 4. */
    private static final class Shell extends Hub {
        int weighs(int ofMass, int spin) {
            return Math.max(1, super.weighs(ofMass, spin) - spin / 2);
        }

        int swings(int x) {
            note(50);
            return super.swings(x) + spins(2);
        }
    }

    /** DISCS and SHAFTS with all that is theirs, SPIN, WAY: as they are, as tried, or as THE IMAGE has them. */
    private static final class Line {
        final Disc[] kinds;
        final int[] kind = new int[MOST_DISCS];
        final int[] mass = new int[MOST_DISCS];
        final int[] bearing = new int[MOST_DISCS];
        final int[] stiff = new int[MOST_DISCS];
        final int[] ratio = new int[MOST_DISCS];
        int discs;
        int spin;
        int way;

        Line(Disc[] kinds) {
            this.kinds = kinds;
        }

        void takeFrom(Line other) {
            discs = other.discs;
            spin = other.spin;
            way = other.way;
            System.arraycopy(other.kind, 0, kind, 0, MOST_DISCS);
            System.arraycopy(other.mass, 0, mass, 0, MOST_DISCS);
            System.arraycopy(other.bearing, 0, bearing, 0, MOST_DISCS);
            System.arraycopy(other.stiff, 0, stiff, 0, MOST_DISCS);
            System.arraycopy(other.ratio, 0, ratio, 0, MOST_DISCS);
        }

        /** There are fewer than MOST_DISCS. */
        int join(int newKind, int newMass, int newStiff) {
            kind[discs] = newKind;
            mass[discs] = newMass;
            bearing[discs] = 0;
            if (discs > 0) {
                stiff[discs - 1] = newStiff;
                ratio[discs - 1] = 1;
            }
            discs++;
            return discs - 1;
        }

        void swap(int disc) {
            int hisKind = kind[disc];
            int hisMass = mass[disc];
            kind[disc] = kind[disc + 1];
            mass[disc] = mass[disc + 1];
            kind[disc + 1] = hisKind;
            mass[disc + 1] = hisMass;
        }

        boolean hasDisc(int number) {
            return number >= 0 && number < discs;
        }

        boolean hasShaft(int number) {
            return number >= 0 && number < discs - 1;
        }

        boolean hasPlace(int what, int number) {
            switch (what) {
                case MASS: case BEARING: return hasDisc(number);
                case STIFF: case RATIO: return hasShaft(number);
                case SPIN: case WAY: return true;
                default: return false;
            }
        }

        /** 0: it is not refused. */
        int refusal(int what, int number, int v) {
            if (!hasPlace(what, number) || !inRange(what, v)) {
                return BAD;
            }
            if (what == RATIO && ratiosBut(number) * v > MOST_RATIOS) {
                return STATE;
            }
            return 0;
        }

        /** The place is there. */
        int told(int what, int number) {
            switch (what) {
                case MASS: return mass[number];
                case STIFF: return stiff[number];
                case BEARING: return bearing[number];
                case RATIO: return ratio[number];
                case SPIN: return spin;
                default: return way;
            }
        }

        /** The place is there. */
        void tell(int what, int number, int v) {
            switch (what) {
                case MASS: mass[number] = v; break;
                case STIFF: stiff[number] = v; break;
                case BEARING: bearing[number] = v; break;
                case RATIO: ratio[number] = v; break;
                case SPIN: spin = v; break;
                default: way = v; break;
            }
        }

        /** RATIOS of the first SHAFTS, multiplied. */
        int ratios(int shafts) {
            int product = 1;
            for (int k = 0; k < shafts; k++) {
                product *= ratio[k];
            }
            return product;
        }

        int ratiosBut(int shaft) {
            int product = 1;
            for (int k = 0; k < discs - 1; k++) {
                if (k != shaft) {
                    product *= ratio[k];
                }
            }
            return product;
        }

        int factor(int disc) {
            int ahead = ratios(disc);
            return ahead * ahead;
        }

        int weight(int disc) {
            return kinds[kind[disc]].weighs(mass[disc], spin);
        }

        int reducedInertia(int disc) {
            int v = weight(disc);
            if (way == FORE) {
                v -= v * spin / 20;
            } else if (way == AFT) {
                v += v * spin / 10;
            }
            return v * factor(disc);
        }

        int reducedBearing(int disc) {
            return bearing[disc] * factor(disc);
        }

        int reducedStiff(int shaft) {
            return stiff[shaft] * factor(shaft);
        }

        int holds(int disc) {
            int sum = reducedBearing(disc);
            if (disc > 0) {
                sum += reducedStiff(disc - 1);
            }
            if (disc < discs - 1) {
                sum += reducedStiff(disc);
            }
            return sum;
        }

        boolean reducesLike(Line other) {
            if (discs != other.discs) {
                return false;
            }
            for (int i = 0; i < discs; i++) {
                if (reducedInertia(i) != other.reducedInertia(i) || reducedBearing(i) != other.reducedBearing(i)) {
                    return false;
                }
                if (i < discs - 1 && reducedStiff(i) != other.reducedStiff(i)) {
                    return false;
                }
            }
            return true;
        }
    }

    /**
     * TRANSFER rows of a line. Row r is kept in limbs of 30 bits, the lowest first, limb r (of all but row 0, which
     * is 1) holding nothing but the sign, 0 or -1: with p at most 10000 and q at most 16 the greatest multiplier is
     * 10000 times 36 times 381 and the greatest square (16 times 99 times 36) squared, so row r is below 2 to the
     * 28th to the r, and what is summed for one limb stays below 2 to the 62nd.
     */
    private static final class Rates {
        private static final int LIMB_BITS = 30;
        private static final long LIMB_MASK = (1L << LIMB_BITS) - 1;
        private static final long REST_BY = 10007;
        /** TOP times q is below twice this: 1 and 2 times 3 times 99, times 16. */
        private static final int HIGHEST_BIT = 8192;

        int discs;
        final long[] inertia = new long[MOST_DISCS];
        final long[] holds = new long[MOST_DISCS];
        final long[] stiff = new long[MOST_DISCS];
        final long[][] limbs = new long[MOST_DISCS + 1][MOST_DISCS + 1];

        void take(Line line) {
            discs = line.discs;
            for (int i = 0; i < discs; i++) {
                inertia[i] = line.reducedInertia(i);
                holds[i] = line.holds(i);
                stiff[i] = i < discs - 1 ? line.reducedStiff(i) : 0;
            }
        }

        int belowAll(int p, int q) {
            return belowPart(0, discs - 1, p, q);
        }

        /** BELOW of the DISCS from first to last; the rows stay behind it. */
        int belowPart(int first, int last, int p, int q) {
            int changes = 0;
            int sign = 1;
            limbs[0][0] = 1;
            for (int i = first; i <= last; i++) {
                long times = q * holds[i] - p * inertia[i];
                long link = i > first ? q * stiff[i - 1] : 0;
                addRow(i - first, times, link * link);
                int next = signOfRow(i - first + 1);
                if (next == -sign) {
                    changes++;
                    sign = next;
                }
            }
            return changes;
        }

        /** The row behind row r: times row r, less timesBefore (0 for r 0) row r - 1. */
        void addRow(int r, long times, long timesBefore) {
            long[] last = limbs[r];
            long[] before = limbs[r > 0 ? r - 1 : 0];
            long[] next = limbs[r + 1];
            long carry = 0;
            for (int j = 0; j <= r; j++) {
                long sum = carry + times * last[j] - timesBefore * before[j];
                next[j] = sum & LIMB_MASK;
                carry = sum >> LIMB_BITS;
            }
            next[r + 1] = carry;
        }

        int signOfRow(int r) {
            long[] row = limbs[r];
            if (row[r] < 0) {
                return -1;
            }
            for (int j = 0; j <= r; j++) {
                if (row[j] != 0) {
                    return 1;
                }
            }
            return 0;
        }

        int restOfRow(int r) {
            long rest = 0;
            for (int j = r; j >= 0; j--) {
                rest = Math.floorMod((rest << LIMB_BITS) + limbs[r][j], REST_BY);
            }
            return (int) rest;
        }

        /** TOP. */
        int highest() {
            if (discs == 0) {
                return 0;
            }
            long most = 0;
            for (int i = 0; i < discs; i++) {
                if (inertia[i] > 0) {
                    most = Math.max(most, 2 * holds[i] / inertia[i]);
                }
            }
            return (int) (1 + most);
        }

        /** BELOW never falls as p rises, so each bit of FENCE is found from the highest on. */
        int fenceOf(int rate, int q) {
            int limit = highest() * q;
            int p = 0;
            for (int bit = HIGHEST_BIT; bit > 0; bit >>= 1) {
                if (p + bit <= limit && belowAll(p + bit, q) <= rate) {
                    p += bit;
                }
            }
            return p;
        }

        /** All RATES are below TOP, so FENCE is the one p that has BELOW rise above the RATE's number behind it. */
        boolean fenceIs(int rate, int q, long p) {
            if (p < 0 || p > MOST_P) {
                return false;
            }
            return belowAll((int) p, q) <= rate && belowAll((int) p + 1, q) > rate;
        }

        int between(int low, int high, int q) {
            return belowAll(high, q) - belowAll(low, q);
        }
    }

    /** ORDERS, one behind another. */
    private static final class Orders {
        final int[] what = new int[MOST_ORDERS];
        final int[] number = new int[MOST_ORDERS];
        final int[] v = new int[MOST_ORDERS];
        int waiting;

        /** There are fewer than MOST_ORDERS. */
        int add(int newWhat, int newNumber, int newV) {
            what[waiting] = newWhat;
            number[waiting] = newNumber;
            v[waiting] = newV;
            waiting++;
            return waiting;
        }

        void takeFrom(Orders other) {
            waiting = other.waiting;
            System.arraycopy(other.what, 0, what, 0, MOST_ORDERS);
            System.arraycopy(other.number, 0, number, 0, MOST_ORDERS);
            System.arraycopy(other.v, 0, v, 0, MOST_ORDERS);
        }
    }

    /** CHANGES, the eldest first: those that can be UNDONE, and behind them those that can be DONE AGAIN. */
    private static final class Changes {
        final int[] what = new int[MOST_CHANGES];
        final int[] number = new int[MOST_CHANGES];
        final int[] was = new int[MOST_CHANGES];
        final int[] became = new int[MOST_CHANGES];
        int done;
        int undone;

        void forget() {
            done = 0;
            undone = 0;
        }

        void add(int newWhat, int newNumber, int old, int v) {
            undone = 0;
            if (done >= MOST_CHANGES) {
                forgetEldest();
            }
            what[done] = newWhat;
            number[done] = newNumber;
            was[done] = old;
            became[done] = v;
            done++;
        }

        void forgetEldest() {
            done = MOST_CHANGES - 1;
            System.arraycopy(what, 1, what, 0, done);
            System.arraycopy(number, 1, number, 0, done);
            System.arraycopy(was, 1, was, 0, done);
            System.arraycopy(became, 1, became, 0, done);
        }

        /** There is one that can be UNDONE: how many still can be. */
        int stepBack(Line line) {
            done--;
            undone++;
            line.tell(what[done], number[done], was[done]);
            return done;
        }

        /** There is one that can be DONE AGAIN: how many still can be. */
        int stepOn(Line line) {
            line.tell(what[done], number[done], became[done]);
            done++;
            undone--;
            return undone;
        }
    }

    /** A ROW: numbers of a sort, each held as the long that it is. */
    private static final class Row {
        final long[] places = new long[MOST_PLACES];
        int sort = NO_SORT;
        int size;

        boolean isMissing() {
            return sort == NO_SORT;
        }

        void become(int newSort, int newSize) {
            sort = newSort;
            size = newSize;
            for (int i = 0; i < MOST_PLACES; i++) {
                places[i] = 0;
            }
        }

        boolean hasPlace(int i) {
            return i >= 0 && i < size;
        }

        boolean hasSpan(int i, int n) {
            return n >= 0 && i >= 0 && n <= size && i <= size - n;
        }

        /** The place is there. */
        void store(int i, long v) {
            if (sort == BYTES) {
                places[i] = (byte) v;
            } else if (sort == INTS) {
                places[i] = (int) v;
            } else {
                places[i] = v;
            }
        }
    }

    /** THE TAPE, and how a TEXT on it is read. */
    private static final class Tape {
        private static final int WANTS_LETTER = 0, WANTS_FIGURE = 1, HAS_FIGURE = 2, IS_WHOLE = 3;

        final int[] bytes = new int[MOST_BYTES];
        int length;
        int at;
        final int[] numbers = new int[3];

        /** There are fewer than MOST_BYTES. */
        int add(int letter) {
            bytes[length] = letter;
            length++;
            return length;
        }

        /** How many numbers stand behind a letter; -1: no ACT begins with it. */
        static int numbersBehind(int letter) {
            switch (letter) {
                case 'd': return 3;
                case 'i': case 'k': case 'b': case 'g': return 2;
                case 'n': case 'w': return 1;
                case 'x': return 0;
                default: return -1;
            }
        }

        static boolean isFigure(int letter) {
            return letter >= '0' && letter <= '9';
        }

        /** Where the FAULT is; -1: there is none. */
        int fault() {
            int wants = WANTS_LETTER;
            int toCome = 0;
            for (int i = 0; i < length; i++) {
                int letter = bytes[i];
                if (wants == WANTS_LETTER) {
                    toCome = numbersBehind(letter);
                    if (toCome < 0) {
                        return i;
                    }
                    wants = toCome == 0 ? IS_WHOLE : WANTS_FIGURE;
                } else if (wants == WANTS_FIGURE) {
                    if (!isFigure(letter)) {
                        return i;
                    }
                    toCome--;
                    wants = HAS_FIGURE;
                } else if (wants == HAS_FIGURE && isFigure(letter)) {
                    wants = IS_WHOLE;
                } else if (letter == (toCome > 0 ? ',' : ';')) {
                    wants = toCome > 0 ? WANTS_FIGURE : WANTS_LETTER;
                } else {
                    return i;
                }
            }
            boolean ends = wants >= HAS_FIGURE && toCome == 0;
            return ends ? -1 : length;
        }

        /** The letter of the ACT that begins here; its numbers are put down. There is no FAULT, and no end yet. */
        int nextAct() {
            int letter = bytes[at];
            int wanted = numbersBehind(letter);
            at++;
            for (int i = 0; i < wanted && i < numbers.length; i++) {
                numbers[i] = nextNumber();
            }
            if (wanted == 0) {
                at++;
            }
            return letter;
        }

        /** What parts it from the next one is passed, too. */
        int nextNumber() {
            int number = 0;
            while (at < length && isFigure(bytes[at])) {
                number = number * 10 + bytes[at] - '0';
                at++;
            }
            at++;
            return number;
        }
    }
}
