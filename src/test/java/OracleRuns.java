import java.util.ArrayList;
import java.util.Arrays;
import java.util.List;
import java.util.Random;

/**
 * Long random runs of calls (of fixed seeds), each answer held against a second writing of the document that
 * takes no short cut: it tries every flip from tick 0, with its checks, and every choice of checks.
 */
public final class OracleRuns {
    private static final int[] EDGES = {Integer.MIN_VALUE, -105, -2, -1, 8, 9, 12, 20, 65, 100, 256, Integer.MAX_VALUE};
    /** An object is used for so many calls; what later ones answer is free. */
    private static final int MOST_CALLS = 512;
    private static int wrong = 0;
    private static int calls = 0;
    private static final int[] kindsSeen = new int[6];
    private static final int[] endingsSeen = new int[3];

    public static void main(String[] args) {
        for (int seed = 1; seed <= 400 && wrong < 20; seed++) {
            oneRun(seed);
        }
        for (int kind = 0; kind < 6; kind++) {
            if (kindsSeen[kind] < 50) {
                wrong++;
                System.out.println("too few flips of kind " + kind + " were seen: " + kindsSeen[kind]);
            }
        }
        for (int ending = 0; ending < 3; ending++) {
            if (endingsSeen[ending] < 100) {
                wrong++;
                System.out.println("too few runs with ending " + ending + " were seen: " + endingsSeen[ending]);
            }
        }
        System.out.println("OracleRuns: " + calls + " calls, " + wrong + " wrong; kinds "
            + Arrays.toString(kindsSeen) + ", endings " + Arrays.toString(endingsSeen));
        if (wrong != 0) {
            System.exit(1);
        }
    }

    private static void oneRun(int seed) {
        Random random = new Random(seed);
        StruckBits real = new StruckBits();
        Plain plain = new Plain();
        int before = calls;
        writeProgram(random, seed, real, plain);
        while (calls - before < MOST_CALLS) {
            int[] digest = {23, 0, 0, 0, 0};
            same(seed, random.nextInt(5) == 0 ? digest : anyCall(random, plain), real, plain);
        }
    }

    /** Programs that loop, count down, tell and reach for cells: wholly random ones seldom end late. */
    private static void writeProgram(Random random, int seed, StruckBits real, Plain plain) {
        for (int c = 0; c < 8; c++) {
            if (random.nextInt(3) > 0) {
                same(seed, new int[] {3, c, random.nextInt(3) == 0 ? random.nextInt(256) : random.nextInt(9), 0, 0}, real, plain);
            }
        }
        int length = random.nextInt(21);
        if (random.nextInt(2) == 0) {
            int body = 1 + random.nextInt(8);
            same(seed, new int[] {3, 0, 1 + random.nextInt(12), 0, 0}, real, plain);
            same(seed, new int[] {3, 7, 255, 0, 0}, real, plain);
            for (int i = 0; i < body; i++) {
                int op = new int[] {1, 2, 3, 4, 5, 8, 9, 10, 0}[random.nextInt(9)];
                int a = 1 + random.nextInt(6);
                int b = random.nextInt(8);
                if (op == 10) {
                    same(seed, new int[] {0, 0, a, 1 + random.nextInt(6), 0}, real, plain);
                }
                same(seed, new int[] {0, op, a, b, 0}, real, plain);
            }
            same(seed, new int[] {0, 2, 0, 7, 0}, real, plain);
            same(seed, new int[] {0, 7, 0, random.nextInt(3), 0}, real, plain);
            same(seed, new int[] {0, 8, random.nextInt(8), 0, 0}, real, plain);
        } else {
            for (int i = 0; i < length; i++) {
                same(seed, anyOrder(random), real, plain);
            }
        }
    }

    private static int[] anyOrder(Random random) {
        int op = random.nextInt(6) == 0 ? 8 : random.nextInt(12);
        int a = op == 6 ? random.nextInt(20) : random.nextInt(8);
        int b = op == 0 ? random.nextInt(random.nextBoolean() ? 8 : 256) : op == 7 ? random.nextInt(20) : random.nextInt(8);
        return new int[] {0, op, a, b, 0};
    }

    private static int[] anyCall(Random random, Plain plain) {
        int what = random.nextInt(100);
        int[] call;
        if (what < 6) {
            call = anyOrder(random);
        } else if (what < 10) {
            int[] order = anyOrder(random);
            call = new int[] {1, random.nextInt(Math.max(1, plain.orders.size())), order[1], order[2], order[3]};
        } else if (what == 10) {
            call = new int[] {random.nextInt(5) == 0 ? 2 : 4, random.nextInt(8), random.nextInt(4), 0, 0};
        } else if (what < 14) {
            call = new int[] {3, random.nextInt(8), random.nextInt(random.nextBoolean() ? 8 : 256), 0, 0};
        } else if (what < 20) {
            call = new int[] {4, random.nextInt(8), random.nextInt(4), 0, 0};
        } else if (what < 35) {
            call = new int[] {5 + random.nextInt(6), random.nextInt(8), random.nextInt(40), 0, 0};
        } else if (what < 80) {
            int w = 1 + random.nextInt(2);
            int last = Math.max(1, plain.without().ticks);
            call = new int[] {11 + random.nextInt(3), random.nextInt(8), random.nextInt(9 - w), w, random.nextInt(last + (random.nextInt(9) == 0 ? 2 : 0))};
        } else if (what < 84) {
            call = new int[] {14, random.nextInt(9), 1 + random.nextInt(2), random.nextInt(6), 0};
        } else if (what < 86) {
            call = new int[] {15, 1 + random.nextInt(2), 0, 0, 0};
        } else if (what < 90) {
            call = new int[] {16, 1 + random.nextInt(2), random.nextInt(random.nextBoolean() ? 6 : 300), 0, 0};
        } else if (what < 92) {
            call = new int[] {18, 1 + random.nextInt(2), random.nextInt(random.nextBoolean() ? 12 : 65), 0, 0};
        } else {
            call = new int[] {new int[] {17, 19, 20, 21, 22, 23}[random.nextInt(6)], random.nextInt(8), random.nextInt(3), 0, 0};
            if (call[0] == 20 && random.nextInt(3) > 0) {
                call[0] = 19;
            }
            if (call[0] == 22) {
                call[1] = random.nextInt(20);
            }
            if (call[0] == 21) {
                call[1] = random.nextInt(3);
            }
        }
        if (random.nextInt(12) == 0) {
            call[1 + random.nextInt(4)] = EDGES[random.nextInt(EDGES.length)];
        }
        return call;
    }

    private static void same(int seed, int[] call, StruckBits real, Plain plain) {
        calls++;
        long want = ask(plain, call);
        long got;
        try {
            got = ask(real, call);
        } catch (RuntimeException thrown) {
            wrong++;
            System.out.println("seed " + seed + ": " + Arrays.toString(call) + " threw " + thrown);
            return;
        }
        if (call[0] == 11 && want >= 0) {
            kindsSeen[(int) want]++;
        }
        if (call[0] == 5) {
            endingsSeen[(int) want]++;
        }
        if (got != want) {
            wrong++;
            System.out.println("seed " + seed + ": " + Arrays.toString(call) + " answered " + got + ", due is " + want);
        }
    }

    private static long ask(StruckBits x, int[] q) {
        switch (q[0]) {
            case 0: return x.order(q[1], q[2], q[3]);
            case 1: return x.change(q[1], q[2], q[3], q[4]);
            case 2: return x.clear();
            case 3: return x.cell(q[1], q[2]);
            case 4: return x.check(q[1], q[2]);
            case 5: return x.run();
            case 6: return x.ticks();
            case 7: return x.many();
            case 8: return x.told(q[1]);
            case 9: return x.after(q[1]);
            case 10: return x.dead(q[1], q[2]);
            case 11: return x.flip(q[1], q[2], q[3], q[4]);
            case 12: return x.harm(q[1], q[2], q[3], q[4]);
            case 13: return x.lasts(q[1], q[2], q[3], q[4]);
            case 14: return x.count(q[1], q[2], q[3]);
            case 15: return x.all(q[1]);
            case 16: return x.worst(q[1], q[2]);
            case 17: return x.costs();
            case 18: return x.best(q[1], q[2]);
            case 19: return x.chosen(q[1]);
            case 20: return x.take();
            case 21: return x.size(q[1]);
            case 22: return x.about(q[1], q[2]);
            default: return x.digest();
        }
    }

    private static long ask(Plain x, int[] q) {
        switch (q[0]) {
            case 0: return x.order(q[1], q[2], q[3]);
            case 1: return x.change(q[1], q[2], q[3], q[4]);
            case 2: return x.clear();
            case 3: return x.cell(q[1], q[2]);
            case 4: return x.check(q[1], q[2]);
            case 5: return x.without().ending;
            case 6: return x.without().ticks;
            case 7: return x.without().told.size();
            case 8: return x.told(q[1]);
            case 9: return x.after(q[1]);
            case 10: return x.dead(q[1], q[2]);
            case 11: return x.one(q[1], q[2], q[3], q[4], 0);
            case 12: return x.one(q[1], q[2], q[3], q[4], 1);
            case 13: return x.one(q[1], q[2], q[3], q[4], 2);
            case 14: return x.count(q[1], q[2], q[3]);
            case 15: return x.all(q[1]);
            case 16: return x.worst(q[1], q[2]);
            case 17: return price(x.checks);
            case 18: return x.best(q[1], q[2]);
            case 19: return x.chosen(q[1]);
            case 20: return x.take();
            case 21: return x.size(q[1]);
            case 22: return x.about(q[1], q[2]);
            default: return x.digest();
        }
    }

    private static int price(int[] checks) {
        int sum = 0;
        for (int check : checks) {
            sum += check == 1 ? 1 : check == 2 ? 8 : check == 3 ? 2 : 0;
        }
        return sum;
    }

    /** Thrown where a struck cell is caught. */
    private static final class Caught extends Exception {
        private static final long serialVersionUID = 1L;

        Caught() {
            super(null, null, false, false);
        }
    }

    /** One run, with a flip of cell c (c is -1: without one). */
    private static final class Run {
        final List<int[]> orders;
        final int[] cells;
        final int check;
        final int c;
        final int w;
        boolean struck;
        boolean readStruck;
        boolean caught;
        int ending = -1;
        int ticks;
        final List<Integer> told = new ArrayList<>();
        /** By tick: the cells read, then, from 8 on, those written. */
        final List<boolean[]> uses = new ArrayList<>();

        Run(List<int[]> orders, int[] start, int c, int k, int w, int t, int check) {
            this.orders = orders;
            this.cells = start.clone();
            this.check = check;
            this.c = c;
            this.w = w;
            int next = 0;
            while (ending < 0) {
                if (next >= orders.size()) {
                    ending = 0;
                } else if (ticks == 100) {
                    ending = 2;
                } else {
                    if (c >= 0 && ticks == t) {
                        for (int bit = k; bit < k + w; bit++) {
                            cells[c] = cells[c] ^ (int) Math.pow(2, bit);
                        }
                        struck = true;
                    }
                    uses.add(new boolean[16]);
                    ticks++;
                    try {
                        next = tick(orders.get(next), next);
                    } catch (Caught over) {
                        caught = true;
                        return;
                    }
                }
            }
            if (ending == 0 && struck && check == 3) {
                caught = true;
            }
        }

        int get(int x) throws Caught {
            uses.get(ticks - 1)[x] = true;
            if (x == c && struck) {
                readStruck = true;
                if (check == 2 || (check == 1 && w == 1)) {
                    throw new Caught();
                }
            }
            return cells[x];
        }

        void put(int x, int value) {
            uses.get(ticks - 1)[8 + x] = true;
            cells[x] = value;
            if (x == c) {
                struck = false;
            }
        }

        int tick(int[] o, int at) throws Caught {
            int a = o[1];
            int b = o[2];
            if (o[0] == 0) {
                put(a, b);
            } else if (o[0] == 1) {
                put(a, get(b));
            } else if (o[0] == 2) {
                put(a, (get(a) + get(b)) % 256);
            } else if (o[0] == 3) {
                put(a, get(a) & get(b));
            } else if (o[0] == 4) {
                put(a, get(a) ^ get(b));
            } else if (o[0] == 5) {
                put(a, get(a) / 2);
            } else if (o[0] == 6) {
                return a;
            } else if (o[0] == 7) {
                if (get(a) != 0) {
                    return b;
                }
            } else if (o[0] == 8) {
                int value = get(a);
                if (told.size() == 12) {
                    ending = 1;
                } else {
                    told.add(value);
                }
            } else if (o[0] == 9) {
                int named = get(b);
                if (named > 7) {
                    ending = 1;
                } else {
                    put(a, get(named));
                }
            } else if (o[0] == 10) {
                int named = get(a);
                int value = get(b);
                if (named > 7) {
                    ending = 1;
                } else {
                    put(named, value);
                }
            } else {
                ending = 0;
            }
            return at + 1;
        }
    }

    private static final class Plain {
        final List<int[]> orders = new ArrayList<>();
        final int[] start = new int[8];
        int[] checks = new int[8];
        int[] latest;
        int done;
        private Run known;

        Run without() {
            if (known == null) {
                known = new Run(orders, start, -1, 0, 0, 0, 0);
            }
            return known;
        }

        static boolean in(int x, int from, int to) {
            return x >= from && x <= to;
        }

        static int[] made(int op, int a, int b) {
            boolean good;
            if (op == 0) {
                good = in(a, 0, 7) && in(b, 0, 255);
            } else if (op == 5 || op == 8) {
                good = in(a, 0, 7);
                b = 0;
            } else if (op == 6) {
                good = in(a, 0, 19);
                b = 0;
            } else if (op == 7) {
                good = in(a, 0, 7) && in(b, 0, 19);
            } else if (op == 11) {
                good = true;
                a = 0;
                b = 0;
            } else {
                good = in(op, 1, 10) && in(a, 0, 7) && in(b, 0, 7);
            }
            return good ? new int[] {op, a, b} : null;
        }

        int order(int op, int a, int b) {
            int[] o = made(op, a, b);
            if (o == null) {
                return -102;
            }
            if (orders.size() == 20) {
                return -104;
            }
            orders.add(o);
            known = null;
            return orders.size();
        }

        int change(int i, int op, int a, int b) {
            if (!in(i, 0, orders.size() - 1)) {
                return -101;
            }
            int[] o = made(op, a, b);
            if (o == null) {
                return -102;
            }
            orders.set(i, o);
            known = null;
            return 1;
        }

        int clear() {
            int n = orders.size();
            orders.clear();
            known = null;
            return n;
        }

        int cell(int c, int v) {
            if (!in(c, 0, 7)) {
                return -101;
            }
            if (!in(v, 0, 255)) {
                return -102;
            }
            int was = start[c];
            start[c] = v;
            known = null;
            return was;
        }

        int check(int c, int kind) {
            if (!in(c, 0, 7)) {
                return -101;
            }
            if (!in(kind, 0, 3)) {
                return -102;
            }
            int was = checks[c];
            checks[c] = kind;
            return was;
        }

        int told(int i) {
            return in(i, 0, without().told.size() - 1) ? without().told.get(i) : -1;
        }

        int after(int c) {
            return in(c, 0, 7) ? without().cells[c] : -101;
        }

        int dead(int c, int t) {
            if (!in(c, 0, 7)) {
                return -101;
            }
            if (without().ending != 0) {
                return -103;
            }
            if (!in(t, 0, without().ticks - 1)) {
                return -102;
            }
            for (int u = t; u < without().ticks; u++) {
                if (without().uses.get(u)[c]) {
                    return 0;
                }
                if (without().uses.get(u)[8 + c]) {
                    return 1;
                }
            }
            return 1;
        }

        /** {kind, harm, lasts} of a flip under a check. */
        int[] tried(int c, int k, int w, int t, int check) {
            Run run = new Run(orders, start, c, k, w, t, check);
            int kind;
            int harm = 0;
            if (run.caught) {
                kind = 2;
            } else if (!run.readStruck) {
                kind = 0;
            } else if (run.ending == 1) {
                kind = 3;
            } else if (run.ending == 2) {
                kind = 4;
            } else if (run.told.equals(without().told)) {
                kind = 1;
            } else {
                kind = 5;
                for (int i = 0; i < 12; i++) {
                    Integer mine = i < run.told.size() ? run.told.get(i) : null;
                    Integer due = i < without().told.size() ? without().told.get(i) : null;
                    if (mine == null ? due != null : !mine.equals(due)) {
                        harm++;
                    }
                }
            }
            return new int[] {kind, harm, run.ticks - t};
        }

        int one(int c, int k, int w, int t, int which) {
            if (!in(c, 0, 7)) {
                return -101;
            }
            if (!in(w, 1, 2) || !in(k, 0, 8 - w)) {
                return -102;
            }
            if (without().ending != 0) {
                return -103;
            }
            if (!in(t, 0, without().ticks - 1)) {
                return -102;
            }
            return tried(c, k, w, t, checks[c])[which];
        }

        int refused(int weight) {
            if (without().ending != 0) {
                return -103;
            }
            return done + weight > 60 ? -104 : 0;
        }

        int count(int c, int w, int kind) {
            if (!in(c, 0, 8)) {
                return -101;
            }
            if (!in(w, 1, 2) || !in(kind, 0, 5)) {
                return -102;
            }
            if (refused(1) != 0) {
                return refused(1);
            }
            done++;
            int n = 0;
            for (int x = 0; x < 8; x++) {
                for (int k = 0; k < 9 - w && (c == 8 || c == x); k++) {
                    for (int t = 0; t < without().ticks; t++) {
                        n += tried(x, k, w, t, checks[x])[0] == kind ? 1 : 0;
                    }
                }
            }
            return n;
        }

        /** {harm, 64 t and 8 c and k} of each silent flip. */
        List<int[]> silent(int w) {
            List<int[]> found = new ArrayList<>();
            for (int c = 0; c < 8; c++) {
                for (int k = 0; k < 9 - w; k++) {
                    for (int t = 0; t < without().ticks; t++) {
                        int[] what = tried(c, k, w, t, checks[c]);
                        if (what[0] == 5) {
                            found.add(new int[] {what[1], 64 * t + 8 * c + k});
                        }
                    }
                }
            }
            return found;
        }

        int all(int w) {
            if (!in(w, 1, 2)) {
                return -102;
            }
            if (refused(1) != 0) {
                return refused(1);
            }
            done++;
            int sum = 0;
            for (int[] one : silent(w)) {
                sum += one[0];
            }
            return sum;
        }

        int worst(int w, int i) {
            if (!in(w, 1, 2)) {
                return -102;
            }
            if (refused(1) != 0) {
                return refused(1);
            }
            done++;
            List<int[]> found = silent(w);
            found.sort((x, y) -> x[0] != y[0] ? y[0] - x[0] : x[1] - y[1]);
            return in(i, 0, found.size() - 1) ? found.get(i)[1] : -1;
        }

        int best(int w, int most) {
            if (!in(w, 1, 2) || !in(most, 0, 64)) {
                return -102;
            }
            if (refused(4) != 0) {
                return refused(4);
            }
            done += 4;
            int[][] silent = new int[8][4];
            for (int c = 0; c < 8; c++) {
                for (int k = 0; k < 9 - w; k++) {
                    for (int t = 0; t < without().ticks; t++) {
                        for (int check = 0; check < 4; check++) {
                            silent[c][check] += tried(c, k, w, t, check)[0] == 5 ? 1 : 0;
                        }
                    }
                }
            }
            int[] bestChecks = null;
            int bestSum = 0;
            for (int choice = 0; choice < 65536; choice++) {
                int[] these = new int[8];
                int sum = 0;
                for (int c = 0; c < 8; c++) {
                    these[c] = choice >> (14 - 2 * c) & 3;
                    sum += silent[c][these[c]];
                }
                if (price(these) > most) {
                    continue;
                }
                if (bestChecks == null || sum < bestSum || (sum == bestSum && price(these) < price(bestChecks))) {
                    bestChecks = these;
                    bestSum = sum;
                }
            }
            latest = bestChecks;
            return bestSum;
        }

        int chosen(int c) {
            if (!in(c, 0, 7)) {
                return -101;
            }
            return latest == null ? -1 : latest[c];
        }

        int take() {
            if (latest == null) {
                return -1;
            }
            checks = latest.clone();
            return price(checks);
        }

        int about(int i, int what) {
            if (!in(i, 0, orders.size() - 1)) {
                return -101;
            }
            return in(what, 0, 2) ? orders.get(i)[what] : -102;
        }

        int size(int what) {
            if (what == 1) {
                int n = 0;
                for (int check : checks) {
                    n += check == 0 ? 0 : 1;
                }
                return n;
            }
            return what == 0 ? orders.size() : what == 2 ? done : -102;
        }

        long digest() {
            long h = 179;
            for (int i = 0; i < orders.size(); i++) {
                for (int what = 0; what < 3; what++) {
                    h = h * 31 + about(i, what);
                }
            }
            for (int c = 0; c < 8; c++) {
                h = h * 31 + start[c];
                h = h * 31 + checks[c];
                h = h * 31 + chosen(c);
            }
            h = h * 31 + without().ending;
            h = h * 31 + without().ticks;
            return h * 31 + done;
        }
    }
}
