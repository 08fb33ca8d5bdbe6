import java.math.BigInteger;
import java.util.ArrayDeque;
import java.util.ArrayList;
import java.util.List;
import java.util.regex.Matcher;
import java.util.regex.Pattern;

/**
 * The document once more, as slowly and plainly as it can be said, with all of the Java library: what WhirlShafts is
 * compared with. It shares no line with it on purpose.
 */
final class Model {
    static final int BAD = -1, NOT = -2, FULL = -3, STATE = -5;
    static final String ACT =
        "(?:d\\d{1,2},\\d{1,2},\\d{1,2}|[ikbg]\\d{1,2},\\d{1,2}|[nw]\\d{1,2}|x)";
    static final Pattern TEXT = Pattern.compile(ACT + "(?:;" + ACT + ")*");

    /** One line of discs, made anew whenever something is tried. */
    static final class State {
        List<int[]> discs = new ArrayList<>();   // kind, mass, bearing
        List<int[]> shafts = new ArrayList<>();  // stiff, ratio
        List<int[]> orders = new ArrayList<>();  // what, number, v
        int spin, way;

        State twin() {
            State s = new State();
            for (int[] d : discs) s.discs.add(d.clone());
            for (int[] h : shafts) s.shafts.add(h.clone());
            for (int[] o : orders) s.orders.add(o.clone());
            s.spin = spin;
            s.way = way;
            return s;
        }

        int n() { return discs.size(); }

        int weighs(int kind, int mass) {
            switch (kind) {
                case 0: return mass;
                case 1: return 2 * weighs(0, mass);
                case 2: return (int) Math.ceil(weighs(0, mass) / 2.0);
                case 3: return weighs(1, mass) + 3;
                default: return Math.max(1, weighs(2, mass) - spin / 2);
            }
        }

        int weighs(int i) { return weighs(discs.get(i)[0], discs.get(i)[1]); }

        int inertia(int i) {
            int v = weighs(i);
            return way == 0 ? v : way == 1 ? v - v * spin / 20 : v + v * spin / 10;
        }

        int factor(int i) {
            int f = 1;
            for (int[] h : shafts.subList(0, i)) f *= h[1] * h[1];
            return f;
        }

        int reducedInertia(int i) { return inertia(i) * factor(i); }
        int reducedBearing(int i) { return discs.get(i)[2] * factor(i); }
        int reducedStiff(int k) { return shafts.get(k)[0] * factor(k); }

        int holds(int i) {
            int h = reducedBearing(i);
            for (int k = i - 1; k <= i; k++) if (k >= 0 && k < shafts.size()) h += reducedStiff(k);
            return h;
        }

        List<BigInteger> transfer(int a, int b, int p, int q) {
            List<BigInteger> e = new ArrayList<>();
            e.add(BigInteger.ONE);
            for (int i = a; i <= b; i++) {
                BigInteger last = e.get(e.size() - 1);
                BigInteger next = BigInteger.valueOf((long) q * holds(i))
                    .subtract(BigInteger.valueOf(p).multiply(BigInteger.valueOf(reducedInertia(i)))).multiply(last);
                if (i != a) {
                    BigInteger link = BigInteger.valueOf(q).multiply(BigInteger.valueOf(reducedStiff(i - 1)));
                    next = next.subtract(link.pow(2).multiply(e.get(e.size() - 2)));
                }
                e.add(next);
            }
            return e;
        }

        static int changes(List<BigInteger> e) {
            List<Integer> signs = new ArrayList<>();
            for (BigInteger x : e) {
                signs.add(x.signum() != 0 || signs.isEmpty() ? x.signum() : signs.get(signs.size() - 1));
            }
            int c = 0;
            for (int i = 1; i < signs.size(); i++) if (!signs.get(i).equals(signs.get(i - 1))) c++;
            return c;
        }

        int below(int a, int b, int p, int q) { return changes(transfer(a, b, p, q)); }
        int below(int p, int q) { return below(0, n() - 1, p, q); }

        int top() {
            if (n() == 0) return 0;
            int most = 0;
            for (int i = 0; i < n(); i++) most = Math.max(most, 2 * holds(i) / reducedInertia(i));
            return 1 + most;
        }

        int fence(int k, int q, boolean halving) {
            if (!halving) {
                for (int p = top() * q; p > 0; p--) if (below(p, q) <= k) return p;
                return 0;
            }
            int low = 0, high = top() * q;
            while (low < high) {
                int mid = (low + high + 1) / 2;
                if (below(mid, q) <= k) low = mid; else high = mid - 1;
            }
            return low;
        }

        int ratios() {
            int r = 1;
            for (int[] h : shafts) r *= h[1];
            return r;
        }

        /** The int[] and place in it that set() speaks of; null for SPIN and WAY. */
        int set(int what, int number, int v) {
            int[][] ranges = {{1, 99}, {1, 99}, {0, 99}, {1, 6}, {0, 9}, {0, 2}};
            if (what < 0 || what > 5) return BAD;
            int many = what == 0 || what == 2 ? n() : what == 1 || what == 3 ? shafts.size() : Integer.MAX_VALUE;
            if (what < 4 && (number < 0 || number >= many)) return BAD;
            if (v < ranges[what][0] || v > ranges[what][1]) return BAD;
            int was;
            switch (what) {
                case 0: was = discs.get(number)[1]; discs.get(number)[1] = v; return was;
                case 1: was = shafts.get(number)[0]; shafts.get(number)[0] = v; return was;
                case 2: was = discs.get(number)[2]; discs.get(number)[2] = v; return was;
                case 3:
                    was = shafts.get(number)[1];
                    shafts.get(number)[1] = v;
                    if (ratios() > 6) { shafts.get(number)[1] = was; return STATE; }
                    return was;
                case 4: was = spin; spin = v; return was;
                default: was = way; way = v; return was;
            }
        }
    }

    final boolean halving;
    State now = new State();
    State image;
    ArrayDeque<State> undo = new ArrayDeque<>();   // lines as they were, the latest first
    ArrayDeque<State> redo = new ArrayDeque<>();
    StringBuilder tape = new StringBuilder();
    int[] sorts = {-1, -1, -1};
    List<List<Long>> rows = new ArrayList<>(List.of(new ArrayList<>(), new ArrayList<>(), new ArrayList<>()));
    List<Integer> trace = new ArrayList<>();
    List<Integer> running = new ArrayList<>();

    Model(boolean halving) { this.halving = halving; }

    int fence(State s, int k, int q) { return s.fence(k, q, halving); }

    static boolean in(int v, int least, int most) { return v >= least && v <= most; }
    boolean isDisc(int d) { return in(d, 0, now.n() - 1); }
    boolean isShaft(int d) { return in(d, 0, now.n() - 2); }
    static boolean isQ(int q) { return in(q, 1, 16); }
    static boolean isP(int p) { return in(p, 0, 9999); }

    int disc(int kind, int mass, int stiff) {
        if (!in(kind, 0, 4) || !in(mass, 1, 99)) return BAD;
        if (now.n() > 0 && !in(stiff, 1, 99)) return BAD;
        if (now.n() == 8) return FULL;
        undo.clear();
        redo.clear();
        if (now.n() > 0) now.shafts.add(new int[] {stiff, 1});
        now.discs.add(new int[] {kind, mass, 0});
        return now.n() - 1;
    }

    int cut() {
        if (now.n() == 0) return STATE;
        undo.clear();
        redo.clear();
        now.discs.remove(now.n() - 1);
        if (!now.shafts.isEmpty()) now.shafts.remove(now.shafts.size() - 1);
        return now.n();
    }

    int clear() {
        int were = now.n();
        undo.clear();
        redo.clear();
        List<int[]> orders = now.orders;
        now = new State();
        now.orders = orders;
        return were;
    }

    int set(int what, int number, int v) {
        State before = now.twin();
        int was = now.set(what, number, v);
        if (was >= 0 && was != v) {
            undo.addFirst(before);
            if (undo.size() > 12) undo.removeLast();
            redo.clear();
        }
        return was;
    }

    int undo() {
        if (undo.isEmpty()) return STATE;
        redo.addFirst(now.twin());
        List<int[]> orders = now.orders;
        now = undo.removeFirst();
        now.orders = orders;
        return undo.size();
    }

    int redo() {
        if (redo.isEmpty()) return STATE;
        undo.addFirst(now.twin());
        List<int[]> orders = now.orders;
        now = redo.removeFirst();
        now.orders = orders;
        return redo.size();
    }

    int of(int what, int number) {
        if (what == 4) return now.spin;
        if (what == 5) return now.way;
        if (what < 0 || what > 12) return BAD;
        boolean shaft = what == 1 || what == 3 || what == 12;
        if (shaft ? !isShaft(number) : !isDisc(number)) return BAD;
        int[] d = now.discs.get(number);
        switch (what) {
            case 0: return d[1];
            case 1: return now.shafts.get(number)[0];
            case 2: return d[2];
            case 3: return now.shafts.get(number)[1];
            case 6: return d[0];
            case 7: return now.weighs(number);
            case 8: return now.reducedInertia(number);
            case 9: return now.reducedBearing(number);
            case 10: return now.factor(number);
            case 11: return now.holds(number);
            default: return now.reducedStiff(number);
        }
    }

    int below(int p, int q) { return isP(p) && isQ(q) ? now.below(p, q) : BAD; }

    int isRate(int p, int q) {
        if (!isP(p) || !isQ(q)) return BAD;
        return now.transfer(0, now.n() - 1, p, q).get(now.n()).signum() == 0 ? 1 : 0;
    }

    int sign(int disc, int p, int q) {
        if (!isDisc(disc) || !isP(p) || !isQ(q)) return -1000;
        return now.transfer(0, now.n() - 1, p, q).get(disc).signum();
    }

    int nodes(int p, int q) {
        if (!isP(p) || !isQ(q)) return BAD;
        return State.changes(now.transfer(0, now.n() - 1, p, q).subList(0, now.n()));
    }

    int rest(int i, int p, int q) {
        if (!in(i, 0, now.n()) || !isP(p) || !isQ(q)) return BAD;
        return now.transfer(0, now.n() - 1, p, q).get(i).mod(BigInteger.valueOf(10007)).intValue();
    }

    int top() { return now.top(); }

    int fence(int rate, int q) { return isDisc(rate) && isQ(q) ? fence(now, rate, q) : BAD; }

    int held(int disc, int p, int q) {
        if (!isDisc(disc) || !isP(p) || !isQ(q)) return BAD;
        return now.below(0, disc - 1, p, q) + now.below(disc + 1, now.n() - 1, p, q);
    }

    int band(int low, int high, int q) {
        if (!isP(low) || !isP(high) || low > high || !isQ(q)) return BAD;
        return now.below(high, q) - now.below(low, q);
    }

    int gap(int q, int what) {
        if (!isQ(q) || !in(what, 0, 1)) return BAD;
        if (now.n() < 2) return NOT;
        int best = 0, most = Integer.MIN_VALUE;
        for (int k = 0; k + 1 < now.n(); k++) {
            int g = fence(now, k + 1, q) - fence(now, k, q);
            if (g > most) { most = g; best = k; }
        }
        return what == 0 ? best : most;
    }

    int trim(int disc, int rate, int p, int q, int what) {
        if (!isDisc(disc) || !isDisc(rate) || !isP(p) || !isQ(q) || !in(what, 0, 1)) return BAD;
        int best = 0, least = Integer.MAX_VALUE;
        for (int m = 1; m <= 99; m++) {
            State t = now.twin();
            t.discs.get(disc)[1] = m;
            int d = Math.abs(fence(t, rate, q) - p);
            if (d < least) { least = d; best = m; }
        }
        return what == 0 ? best : least;
    }

    int tune(int shaft, int low, int high, int q) {
        if (!isShaft(shaft) || !isP(low) || !isP(high) || low > high || !isQ(q)) return BAD;
        for (int s = 1; s <= 99; s++) {
            State t = now.twin();
            t.shafts.get(shaft)[0] = s;
            if (t.below(high, q) == t.below(low, q)) return s;
        }
        return NOT;
    }

    int heavier(int rate, int q, int what) {
        if (!isDisc(rate) || !isQ(q) || !in(what, 0, 1)) return BAD;
        int best = NOT, least = Integer.MAX_VALUE;
        for (int i = 0; i < now.n(); i++) {
            State t = now.twin();
            if (++t.discs.get(i)[1] > 99) continue;
            int f = fence(t, rate, q);
            if (f < least) { least = f; best = i; }
        }
        return best == NOT ? NOT : what == 0 ? best : least;
    }

    int change(int rate, int q) {
        if (!isDisc(rate) || !isQ(q)) return BAD;
        int best = NOT, most = fence(now, rate, q);
        for (int i = 0; i + 1 < now.n(); i++) {
            State t = now.twin();
            int[] a = t.discs.get(i), b = t.discs.get(i + 1);
            t.discs.set(i, new int[] {b[0], b[1], a[2]});
            t.discs.set(i + 1, new int[] {a[0], a[1], b[2]});
            int f = fence(t, rate, q);
            if (f > most) { most = f; best = i; }
        }
        return best;
    }

    int critical(int rate) {
        if (!isDisc(rate)) return BAD;
        for (int s = 1; s <= 9; s++) {
            State t = now.twin();
            t.spin = s;
            if (fence(t, rate, 1) <= s * s) return s;
        }
        return NOT;
    }

    boolean tells(State t, List<Long> row, int m, int q) {
        for (int k = 0; k < m; k++) if (row.get(k) != fence(t, k, q)) return false;
        return true;
    }

    int fits(int row, int m, int q, int disc, int what) {
        if (!in(row, 0, 2) || !in(m, 0, now.n()) || !isQ(q) || !isDisc(disc) || !in(what, 0, 2)) return BAD;
        if (sorts[row] < 0) return -11;
        if (m > rows.get(row).size()) return -13;
        int many = 0, least = NOT, bits = 0;
        for (int mass = 99; mass >= 1; mass--) {
            State t = now.twin();
            t.discs.get(disc)[1] = mass;
            if (tells(t, rows.get(row), m, q)) { many++; least = mass; }
        }
        for (int kind = 0; kind < 5; kind++) {
            State t = now.twin();
            t.discs.get(disc)[0] = kind;
            if (tells(t, rows.get(row), m, q)) bits += 1 << kind;
        }
        return what == 0 ? many : what == 1 ? least : bits;
    }

    int judge(int row, int q) {
        if (!in(row, 0, 2) || !isQ(q)) return BAD;
        if (sorts[row] < 0) return -11;
        List<Long> r = rows.get(row);
        int both = Math.min(r.size(), now.n());
        for (int k = 0; k < both; k++) if (r.get(k) != fence(now, k, q)) return k;
        return both < now.n() ? 100 + both : -2;
    }

    int order(int what, int number, int v) {
        if (!in(what, 0, 5)) return BAD;
        if (now.orders.size() == 8) return FULL;
        now.orders.add(new int[] {what, number, v});
        return now.orders.size();
    }

    int tried(int rate, int q) {
        if (!isDisc(rate) || !isQ(q)) return BAD;
        State t = now.twin();
        for (int[] o : now.orders) t.set(o[0], o[1], o[2]);
        return fence(t, rate, q);
    }

    int does() {
        int done = 0;
        for (int[] o : now.orders) if (set(o[0], o[1], o[2]) >= 0) done++;
        now.orders.clear();
        return done;
    }

    int drop() {
        int n = now.orders.size();
        now.orders.clear();
        return n;
    }

    int feed(int letter) {
        if (!in(letter, 32, 126)) return BAD;
        if (tape.length() == 80) return FULL;
        tape.append((char) letter);
        return tape.length();
    }

    int wipe() {
        int n = tape.length();
        tape.setLength(0);
        return n;
    }

    int read() {
        String text = tape.toString();
        tape.setLength(0);
        for (int i = 1; i <= text.length(); i++) {
            Matcher m = TEXT.matcher(text.substring(0, i));
            if (!m.matches() && !m.hitEnd()) return -100 - (i - 1);
        }
        if (!TEXT.matcher(text).matches()) return -100 - text.length();
        int done = 0;
        for (String act : text.split(";")) {
            String[] parts = act.substring(1).split(",");
            int[] v = new int[3];
            for (int i = 0; i < parts.length && !parts[i].isEmpty(); i++) v[i] = Integer.parseInt(parts[i]);
            int answer;
            switch (act.charAt(0)) {
                case 'd': answer = disc(v[0], v[1], v[2]); break;
                case 'n': answer = set(4, 0, v[0]); break;
                case 'w': answer = set(5, 0, v[0]); break;
                case 'x': answer = cut(); break;
                default: answer = set("ikbg".indexOf(act.charAt(0)), v[0], v[1]);
            }
            if (answer < 0) return -200 - done;
            done++;
        }
        return done;
    }

    int row(int row, int sort, int n) {
        if (!in(row, 0, 2) || !in(sort, -1, 2)) return BAD;
        if (sort >= 0 && n > 40) return BAD;
        if (sort >= 0 && n < 0) return -14;
        sorts[row] = sort;
        rows.set(row, new ArrayList<>());
        for (int i = 0; sort >= 0 && i < n; i++) rows.get(row).add(0L);
        return 1;
    }

    static long lowest(int sort, long v) { return sort == 0 ? (byte) v : sort == 1 ? (int) v : v; }

    int put(int row, int i, long v) {
        if (!in(row, 0, 2)) return BAD;
        if (sorts[row] < 0) return -11;
        if (!in(i, 0, rows.get(row).size() - 1)) return -13;
        rows.get(row).set(i, lowest(sorts[row], v));
        return 1;
    }

    long get(int row, int i) {
        if (!in(row, 0, 2) || sorts[row] < 0 || !in(i, 0, rows.get(row).size() - 1)) return Long.MIN_VALUE;
        return rows.get(row).get(i);
    }

    int film(int row, int sort, int q) {
        if (!in(row, 0, 2) || !in(sort, 0, 2) || !isQ(q)) return BAD;
        sorts[row] = sort;
        rows.set(row, new ArrayList<>());
        for (int k = 0; k < now.n(); k++) rows.get(row).add(lowest(sort, fence(now, k, q)));
        return now.n();
    }

    int copy(int row, int i, int other, int j, int n) {
        if (!in(row, 0, 2) || !in(other, 0, 2)) return BAD;
        if (sorts[row] < 0 || sorts[other] < 0) return -11;
        if (sorts[row] != sorts[other]) return -12;
        if (n < 0 || i < 0 || j < 0) return -13;
        if ((long) i + n > rows.get(row).size() || (long) j + n > rows.get(other).size()) return -13;
        List<Long> moved = new ArrayList<>(rows.get(row).subList(i, i + n));
        for (int k = 0; k < n; k++) rows.get(other).set(j + k, moved.get(k));
        return n;
    }

    static int above(int kind) { return new int[] {-1, 0, 0, 1, 2}[kind]; }

    /** Runs the body of an act that the KIND "from", or the next above it, has; own: the DISC's own KIND. */
    int run(int own, int from, int act, int x, int i, int m) {
        switch (from * 10 + act) {
            case 0: running.add(10); return x + i;
            case 1: running.add(11); return run(own, own, 0, x, i, m) * 2;
            case 2: running.add(12); return run(own, own, 1, x, i, m) - m;
            case 11: running.add(20); return run(own, 0, 1, x, i, m) ^ 3;
            case 20: running.add(30); return -run(own, 0, 0, x, i, m);
            case 32: running.add(40); return run(own, 1, 2, x + 1, i, m);
            case 30: running.add(41); return run(own, 1, 0, x, i, m) * 3;
            case 41: {
                running.add(50);
                int first = run(own, 2, 1, x, i, m);
                return first + run(own, own, 0, 2, i, m);
            }
            default: return run(own, above(from), act, x, i, m);
        }
    }

    int act(int disc, int act, int x) {
        if (!isDisc(disc) || !in(act, 0, 2)) return 0;
        running = new ArrayList<>();
        int kind = now.discs.get(disc)[0];
        int answer = run(kind, kind, act, x, disc, now.discs.get(disc)[1]);
        trace = running.subList(0, Math.min(24, running.size()));
        return answer;
    }

    int trace(int i) { return in(i, 0, trace.size() - 1) ? trace.get(i) : NOT; }

    int taken(int disc, int k) {
        if (!isDisc(disc) || !in(k, 0, 4)) return BAD;
        for (int kind = now.discs.get(disc)[0]; kind >= 0; kind = above(kind)) {
            if (kind == k) return now.discs.get(disc)[1];
        }
        return STATE;
    }

    int image() {
        image = now.twin();
        return image.n();
    }

    static String reduced(State s) {
        StringBuilder b = new StringBuilder();
        for (int i = 0; i < s.n(); i++) b.append(s.reducedInertia(i)).append(' ').append(s.reducedBearing(i)).append(' ');
        b.append('/');
        for (int k = 0; k < s.shafts.size(); k++) b.append(s.reducedStiff(k)).append(' ');
        return b.toString();
    }

    int alike() {
        if (image == null) return STATE;
        return image.n() == now.n() && reduced(image).equals(reduced(now)) ? 1 : 0;
    }

    int back() {
        if (image == null) return STATE;
        now = image.twin();
        undo.clear();
        redo.clear();
        return now.n();
    }

    int count(int what) {
        switch (what) {
            case 0: return now.n();
            case 1: return now.spin;
            case 2: return now.way;
            case 3: return now.ratios();
            case 4: return now.orders.size();
            case 5: return undo.size();
            case 6: return redo.size();
            case 7: return tape.length();
            case 8: return (sorts[0] >= 0 ? 1 : 0) + (sorts[1] >= 0 ? 1 : 0) + (sorts[2] >= 0 ? 1 : 0);
            default: return BAD;
        }
    }
}
