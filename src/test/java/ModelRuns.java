import java.util.ArrayList;
import java.util.List;
import java.util.Random;

/** Runs of up to 512 calls, drawn by fixed seeds, on WhirlShafts and on Model: every answer must be alike. */
public final class ModelRuns {
    private static final int FACES = 43;
    private static int wrong = 0;

    private final Random random;
    private final WhirlShafts bench = new WhirlShafts();
    private final Model model;
    private final List<String> calls = new ArrayList<>();
    private final int mostDiscs;
    private boolean failed = false;

    private ModelRuns(long seed, boolean halving) {
        random = new Random(seed);
        model = new Model(halving);
        mostDiscs = halving ? 8 : 3;
    }

    public static void main(String[] args) {
        int fast = args.length > 0 ? Integer.parseInt(args[0]) : 60;
        int slow = args.length > 1 ? Integer.parseInt(args[1]) : 2;
        long first = args.length > 2 ? Long.parseLong(args[2]) : 1;
        for (long seed = first; seed < first + fast; seed++) new ModelRuns(seed, true).run();
        for (long seed = first; seed < first + slow; seed++) new ModelRuns(-seed, false).run();
        System.out.println(wrong == 0 ? "all runs are as the model's" : wrong + " runs are not as the model's");
        if (wrong != 0) System.exit(1);
    }

    private void run() {
        int build = random.nextInt(mostDiscs + 1);
        for (int i = 0; i < build; i++) call(0);
        while (calls.size() < 512 && !failed) {
            if (random.nextInt(40) == 0) feedText();
            else call(random.nextInt(FACES));
        }
    }

    private void same(String call, long got, long want) {
        calls.add(call);
        if (got != want && !failed) {
            failed = true;
            wrong++;
            System.out.println("behind " + calls + " answered " + got + ", the model " + want);
        }
    }

    /** Mostly one of least .. most, now and then one just outside, or far outside. */
    private int some(int least, int most) {
        int kind = random.nextInt(60);
        if (kind == 0) return least - 1;
        if (kind == 1) return most + 1;
        if (kind == 2) return new int[] {Integer.MIN_VALUE, Integer.MAX_VALUE, -1, 0, 1, 1000000}[random.nextInt(6)];
        if (kind == 3) return most;
        if (kind == 4) return least;
        return most < least ? least : least + random.nextInt(most - least + 1);
    }

    private int discNumber() { return some(0, Math.max(0, model.now.n() - 1)); }
    private int shaftNumber() { return some(0, Math.max(0, model.now.n() - 2)); }
    private int q() { return some(1, 16); }
    private int sort() { return some(0, 2); }
    private int rowNumber() { return some(0, 2); }

    /** Often at or beside a fence, where it matters. */
    private int p(int q) {
        int n = model.now.n();
        if (n > 0 && q >= 1 && q <= 16 && random.nextInt(3) > 0) {
            return model.now.fence(random.nextInt(n), q, true) + random.nextInt(3) - 1;
        }
        return random.nextBoolean() ? some(0, 300) : some(0, 9999);
    }

    private int value(int what) {
        int[][] ranges = {{1, 99}, {1, 99}, {0, 99}, {1, 3}, {0, 9}, {0, 2}};
        if (what < 0 || what > 5) return some(0, 9);
        if (what == 3 && random.nextInt(8) == 0) return some(1, 6);
        return some(ranges[what][0], ranges[what][1]);
    }

    private int numberOf(int what) { return what == 1 || what == 3 ? shaftNumber() : discNumber(); }

    private void feedText() {
        StringBuilder text = new StringBuilder();
        int acts = 1 + random.nextInt(4);
        for (int a = 0; a < acts; a++) {
            if (a > 0) text.append(';');
            char letter = "dikbgnwxikbgnw".charAt(random.nextInt(14));
            text.append(letter);
            int v = Math.floorMod(random.nextInt(), 101) + (random.nextInt(50) == 0 ? 100 : 0);
            switch (letter) {
                case 'd':
                    text.append(random.nextInt(6)).append(',').append(Math.min(v, 99)).append(',').append(random.nextInt(99));
                    break;
                case 'i': case 'b': text.append(random.nextInt(5)).append(',').append(Math.min(v, 99)); break;
                case 'k': text.append(random.nextInt(5)).append(',').append(v); break;
                case 'g': text.append(random.nextInt(5)).append(',').append(random.nextInt(5)); break;
                case 'n': text.append(random.nextInt(11)); break;
                case 'w': text.append(random.nextInt(4)); break;
                default: break;
            }
        }
        if (random.nextInt(4) == 0) {
            int at = random.nextInt(text.length());
            if (random.nextBoolean()) text.deleteCharAt(at);
            else text.insert(at, "0123456789,;dikbgnwx qz".charAt(random.nextInt(23)));
        }
        for (int i = 0; i < text.length() && calls.size() < 510; i++) {
            int c = text.charAt(i);
            same("feed(" + c + ")", bench.feed(c), model.feed(c));
        }
        same("read()", bench.read(), model.read());
    }

    private void call(int face) {
        if (face < 15) callTelling(face);
        else if (face < 30) callTrying(face);
        else callKeeping(face);
    }

    private void callTelling(int face) {
        int q = q(), p = p(q), d = discNumber();
        switch (face) {
            case 0: {
                if (model.now.n() >= mostDiscs && mostDiscs < 8) callTop();
                else {
                    int k = some(0, 4), m = random.nextInt(4) == 0 ? some(97, 99) : some(1, 30), s = some(1, 99);
                    same("disc(" + k + "," + m + "," + s + ")", bench.disc(k, m, s), model.disc(k, m, s));
                }
                break;
            }
            case 1:
                if (random.nextInt(3) == 0) same("cut()", bench.cut(), model.cut());
                break;
            case 2:
                if (random.nextInt(12) == 0) same("clear()", bench.clear(), model.clear());
                break;
            case 3: case 4: {
                int w = some(0, 5), n = numberOf(w), v = value(w);
                same("set(" + w + "," + n + "," + v + ")", bench.set(w, n, v), model.set(w, n, v));
                break;
            }
            case 5: {
                int w = some(0, 12), n = w == 12 ? shaftNumber() : numberOf(w);
                same("of(" + w + "," + n + ")", bench.of(w, n), model.of(w, n));
                break;
            }
            case 6: same("below(" + p + "," + q + ")", bench.below(p, q), model.below(p, q)); break;
            case 7: same("isRate(" + p + "," + q + ")", bench.isRate(p, q), model.isRate(p, q)); break;
            case 8: same("sign(" + d + "," + p + "," + q + ")", bench.sign(d, p, q), model.sign(d, p, q)); break;
            case 9: same("nodes(" + p + "," + q + ")", bench.nodes(p, q), model.nodes(p, q)); break;
            case 10: {
                int i = some(0, model.now.n());
                same("rest(" + i + "," + p + "," + q + ")", bench.rest(i, p, q), model.rest(i, p, q));
                break;
            }
            case 11: same("top()", bench.top(), model.top()); break;
            case 12: same("fence(" + d + "," + q + ")", bench.fence(d, q), model.fence(d, q)); break;
            case 13: same("held(" + d + "," + p + "," + q + ")", bench.held(d, p, q), model.held(d, p, q)); break;
            default: {
                int h = random.nextInt(6) == 0 ? p(q) : Math.max(p, p(q));
                same("band(" + p + "," + h + "," + q + ")", bench.band(p, h, q), model.band(p, h, q));
            }
        }
    }

    private void callTop() { same("top()", bench.top(), model.top()); }

    private void callTrying(int face) {
        int q = q(), p = p(q), d = discNumber(), r = discNumber();
        switch (face) {
            case 15: {
                int w = some(0, 1);
                same("gap(" + q + "," + w + ")", bench.gap(q, w), model.gap(q, w));
                break;
            }
            case 16: {
                int w = some(0, 1);
                if (!model.halving && random.nextInt(4) > 0) break;
                same("trim(" + d + "," + r + "," + p + "," + q + "," + w + ")",
                    bench.trim(d, r, p, q, w), model.trim(d, r, p, q, w));
                break;
            }
            case 17: {
                int s = shaftNumber(), h = random.nextInt(6) == 0 ? p(q) : Math.max(p, p(q));
                same("tune(" + s + "," + p + "," + h + "," + q + ")", bench.tune(s, p, h, q), model.tune(s, p, h, q));
                break;
            }
            case 18: {
                int w = some(0, 1);
                same("heavier(" + r + "," + q + "," + w + ")", bench.heavier(r, q, w), model.heavier(r, q, w));
                break;
            }
            case 19: same("change(" + r + "," + q + ")", bench.change(r, q), model.change(r, q)); break;
            case 20: same("critical(" + r + ")", bench.critical(r), model.critical(r)); break;
            case 21: case 22: fits(q, d); break;
            case 23: judge(q); break;
            case 24: case 25: {
                int w = some(0, 5), n = numberOf(w), v = value(w);
                same("order(" + w + "," + n + "," + v + ")", bench.order(w, n, v), model.order(w, n, v));
                break;
            }
            case 26: same("tried(" + r + "," + q + ")", bench.tried(r, q), model.tried(r, q)); break;
            case 27: {
                if (random.nextInt(3) > 0) same("does()", bench.does(), model.does());
                else same("drop()", bench.drop(), model.drop());
                break;
            }
            case 28: same("undo()", bench.undo(), model.undo()); break;
            default: same("redo()", bench.redo(), model.redo());
        }
    }

    private void fits(int q, int d) {
        int row = rowNumber(), m = some(0, model.now.n()), w = some(0, 2);
        if (random.nextInt(3) > 0) {
            int s = 1 + random.nextInt(2);
            same("film(" + row + "," + s + "," + q + ")", bench.film(row, s, q), model.film(row, s, q));
            if (random.nextInt(4) == 0) {
                int v = model.now.n() > 0 ? some(1, 99) : 1;
                same("set(0," + d + "," + v + ")", bench.set(0, d, v), model.set(0, d, v));
            }
        }
        if (!model.halving && random.nextInt(4) > 0) return;
        same("fits(" + row + "," + m + "," + q + "," + d + "," + w + ")",
            bench.fits(row, m, q, d, w), model.fits(row, m, q, d, w));
    }

    private void judge(int q) {
        int row = rowNumber();
        if (random.nextInt(2) == 0) {
            int s = sort();
            same("film(" + row + "," + s + "," + q + ")", bench.film(row, s, q), model.film(row, s, q));
        }
        same("judge(" + row + "," + q + ")", bench.judge(row, q), model.judge(row, q));
    }

    private void callKeeping(int face) {
        int row = rowNumber(), i = random.nextBoolean() ? some(0, 40) : some(0, 8), d = discNumber();
        switch (face) {
            case 30: {
                int c = some(32, 126);
                same("feed(" + c + ")", bench.feed(c), model.feed(c));
                break;
            }
            case 31:
                if (random.nextInt(3) > 0) same("read()", bench.read(), model.read());
                else same("wipe()", bench.wipe(), model.wipe());
                break;
            case 32: {
                int s = some(-1, 2), n = some(0, 40);
                same("row(" + row + "," + s + "," + n + ")", bench.row(row, s, n), model.row(row, s, n));
                break;
            }
            case 33: case 34: {
                long v = random.nextBoolean() ? random.nextLong() : random.nextInt(400);
                same("put(" + row + "," + i + "," + v + ")", bench.put(row, i, v), model.put(row, i, v));
                break;
            }
            case 35: same("get(" + row + "," + i + ")", bench.get(row, i), model.get(row, i)); break;
            case 36: {
                int other = rowNumber(), j = some(0, 20), n = some(0, 20);
                same("copy(" + row + "," + i + "," + other + "," + j + "," + n + ")",
                    bench.copy(row, i, other, j, n), model.copy(row, i, other, j, n));
                break;
            }
            case 37: {
                int a = some(0, 2), x = random.nextBoolean() ? random.nextInt() : some(-50, 50);
                same("act(" + d + "," + a + "," + x + ")", bench.act(d, a, x), model.act(d, a, x));
                for (int t = 0; t < 9 && calls.size() < 512; t++) same("trace(" + t + ")", bench.trace(t), model.trace(t));
                break;
            }
            case 38: {
                int t = some(0, 9);
                same("trace(" + t + ")", bench.trace(t), model.trace(t));
                break;
            }
            case 39: {
                int k = some(0, 4);
                same("taken(" + d + "," + k + ")", bench.taken(d, k), model.taken(d, k));
                break;
            }
            case 40:
                if (random.nextInt(3) == 0) same("image()", bench.image(), model.image());
                else same("alike()", bench.alike(), model.alike());
                break;
            case 41:
                if (random.nextInt(4) == 0) same("back()", bench.back(), model.back());
                else same("alike()", bench.alike(), model.alike());
                break;
            default: {
                int w = some(0, 8);
                same("count(" + w + ")", bench.count(w), model.count(w));
            }
        }
    }
}
