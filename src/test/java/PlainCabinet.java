import java.util.ArrayList;
import java.util.List;
import java.util.TreeSet;

/**
 * The document in its plainest form, for ModelTest to hold against SieveCabinet: it shares no code
 * with it, makes new lists wherever it likes and takes every sentence of the document word by word.
 */
final class PlainCabinet {
    static final int NONE = -1, KIND = -2, CROWDED = -3, FULL = -4;

    static final class Sieve {
        int kind, size, marks, seed;
        int[] row = new int[0];
        List<Long> contents = new ArrayList<>();
        List<Sieve> layers = new ArrayList<>();
        List<Long> rest = new ArrayList<>();
    }

    final List<TreeSet<Long>> worlds = new ArrayList<>();
    final List<Sieve> sieves = new ArrayList<>();

    PlainCabinet() {
        for (int i = 0; i < 8; i++) worlds.add(new TreeSet<>());
    }

    static long mix(long t, int s) {
        long x = t + ((long) s) * 0x9E3779B97F4A7C15L;
        x = (x ^ (x >>> 30)) * 0xBF58476D1CE4E5B9L;
        x = (x ^ (x >>> 27)) * 0x94D049BB133111EBL;
        return x ^ (x >>> 31);
    }

    boolean noWorld(int w) { return w < 0 || w > 7; }
    boolean noSieve(int s) { return s < 0 || s >= sieves.size(); }
    boolean allTaken() { return sieves.size() == 30; }
    int keep(Sieve v) { sieves.add(v); return sieves.size() - 1; }

    int span(int world, long first, int step, int n) {
        if (noWorld(world) || n < 1 || n > 1000) return NONE;
        TreeSet<Long> then = new TreeSet<>(worlds.get(world));
        long t = first;
        for (int i = 0; i < n; i++) { then.add(t); t += step; }
        if (then.size() > 1000) return FULL;
        worlds.set(world, then);
        return then.size();
    }

    int take(int world, long thing) {
        if (noWorld(world) || !worlds.get(world).remove(thing)) return NONE;
        return worlds.get(world).size();
    }

    int things(int world) { return noWorld(world) ? NONE : worlds.get(world).size(); }

    long thing(int world, int i) {
        if (noWorld(world) || i < 0 || i >= worlds.get(world).size()) return 0;
        return new ArrayList<>(worlds.get(world)).get(i);
    }

    static Sieve newOne(int kind, int size, int marks, int seed, int places) {
        Sieve v = new Sieve();
        v.kind = kind; v.size = size; v.marks = marks; v.seed = seed; v.row = new int[places];
        return v;
    }

    int make(int kind, int size, int marks, int seed) {
        boolean power = size > 0 && Integer.bitCount(size) == 1;
        if (kind == 2) {
            if (!power || size > 256) return NONE;
        } else if (kind == 0 || kind == 1) {
            if (!power || size < 8 || size > 4096 || marks < 1 || marks > 8) return NONE;
        } else return NONE;
        if (allTaken()) return FULL;
        return keep(newOne(kind, size, kind == 2 ? 0 : marks, seed, kind == 2 ? 4 * size : size));
    }

    static int[] marksOf(Sieve v, long t) {
        long m = mix(t, v.seed), a = m & 0xFFFFFFFFL, b = (m >>> 32) | 1;
        int[] at = new int[v.marks];
        for (int j = 0; j < v.marks; j++) at[j] = (int) ((a + j * b) % v.size);
        return at;
    }

    static int tag2(Sieve v, long t) { return 1 + (int) ((mix(t, v.seed) >>> 56) % 255); }
    static int first(Sieve v, long t) { return (int) ((mix(t, v.seed) & 0xFFFFFFFFL) % v.size); }
    static int other(Sieve v, int nest, int tag) { return nest ^ (int) (((tag * 2654435761L) >>> 8) % v.size); }
    static int second(Sieve v, long t) { return other(v, first(v, t), tag2(v, t)); }

    static int place3(long t, int seed, int i, int c) {
        return i * c + (int) (((mix(t, seed) >>> (20 * i)) & ((1 << 20) - 1)) % c);
    }

    static int tag3(long t, int seed) {
        long m = mix(t, seed);
        return 16 * (int) (m >>> 60) + (int) (m & 15);
    }

    int solve(int world, int seed) {
        if (noWorld(world)) return NONE;
        List<Long> all = new ArrayList<>(worlds.get(world));
        int n = all.size(), c = n + n / 4 + 8;
        for (int k = 0; k < 50; k++) {
            int[] row = solveBy(all, seed + k, c);
            if (row == null) continue;
            if (allTaken()) return FULL;
            Sieve v = newOne(3, 3 * c, 0, seed + k, 0);
            v.row = row;
            v.contents.addAll(all);
            return keep(v);
        }
        return CROWDED;
    }

    static int[] solveBy(List<Long> all, int seed, int c) {
        List<Long> left = new ArrayList<>(all), off = new ArrayList<>();
        List<Integer> offAt = new ArrayList<>();
        while (!left.isEmpty()) {
            int[] many = new int[3 * c];
            Long[] who = new Long[3 * c];
            for (Long t : left) {
                for (int i = 0; i < 3; i++) { many[place3(t, seed, i, c)]++; who[place3(t, seed, i, c)] = t; }
            }
            int least = 0;
            while (least < 3 * c && many[least] != 1) least++;
            if (least == 3 * c) return null;
            off.add(who[least]);
            offAt.add(least);
            left.remove(who[least]);
        }
        int[] row = new int[3 * c];
        for (int k = off.size() - 1; k >= 0; k--) {
            int number = tag3(off.get(k), seed);
            for (int i = 0; i < 3; i++) {
                int p = place3(off.get(k), seed, i, c);
                if (p != offAt.get(k)) number ^= row[p];
            }
            row[offAt.get(k)] = number;
        }
        return row;
    }

    int layered(int in, int all, int seed) {
        if (noWorld(in) || noWorld(all)) return NONE;
        if (allTaken()) return FULL;
        Sieve v = newOne(4, 0, 3, seed, 0);
        v.contents.addAll(worlds.get(in));
        List<List<Long>> into = new ArrayList<>();
        into.add(new ArrayList<>(worlds.get(in)));
        List<Long> rivals = new ArrayList<>(worlds.get(all));
        rivals.removeAll(worlds.get(in));
        for (int i = 0; ; i++) {
            List<Long> come = into.get(i);
            if (i == 20 || i >= 2 && come.size() == into.get(i - 2).size()) { v.rest.addAll(come); break; }
            int size = 8;
            while (size < 4096 && size < 8 * come.size()) size += size;
            Sieve layer = newOne(0, size, 3, seed + i, size);
            for (long t : come) set(layer, t);
            v.layers.add(layer);
            List<Long> through = new ArrayList<>();
            for (long t : rivals) if (passes(layer, t)) through.add(t);
            if (through.isEmpty()) break;
            into.add(through);
            rivals = come;
        }
        v.size = v.layers.size();
        return keep(v);
    }

    static void set(Sieve v, long t) {
        v.contents.add(t);
        for (int at : marksOf(v, t)) v.row[at] = 1;
    }

    static boolean settle(int[] row, int nest, int tag) {
        for (int i = 0; i < 4; i++) {
            if (row[4 * nest + i] == 0) { row[4 * nest + i] = tag; return true; }
        }
        return false;
    }

    static boolean nested(Sieve v, long t) {
        int[] row = v.row.clone();
        int hand = tag2(v, t), nest = first(v, t);
        boolean done = settle(row, nest, hand) || settle(row, second(v, t), hand);
        for (int r = 0; r <= 199 && !done; r++) {
            int was = row[4 * nest + r % 4];
            row[4 * nest + r % 4] = hand;
            hand = was;
            nest = other(v, nest, hand);
            done = settle(row, nest, hand);
        }
        if (done) v.row = row;
        return done;
    }

    int put(int s, long t) {
        if (noSieve(s)) return NONE;
        Sieve v = sieves.get(s);
        if (v.kind > 2) return KIND;
        if (v.contents.size() == 1000) return FULL;
        if (v.kind == 0) { set(v, t); return v.contents.size(); }
        if (v.kind == 1) for (int at : marksOf(v, t)) v.row[at] = Math.min(15, v.row[at] + 1);
        if (v.kind == 2 && !nested(v, t)) return CROWDED;
        v.contents.add(t);
        return v.contents.size();
    }

    int putAll(int s, int world) {
        if (noSieve(s) || noWorld(world)) return NONE;
        if (sieves.get(s).kind > 2) return KIND;
        int n = 0;
        for (long t : worlds.get(world)) {
            if (put(s, t) < 0) break;
            n++;
        }
        return n;
    }

    int drop(int s, long t) {
        if (noSieve(s)) return NONE;
        Sieve v = sieves.get(s);
        if (v.kind != 1 && v.kind != 2) return KIND;
        if (!passes(v, t)) return -5;
        if (v.kind == 1) {
            for (int at : marksOf(v, t)) if (v.row[at] != 15 && v.row[at] != 0) v.row[at]--;
        } else {
            int nest = hasTag(v, first(v, t), tag2(v, t)) ? first(v, t) : second(v, t);
            for (int i = 0; i < 4; i++) {
                if (v.row[4 * nest + i] == tag2(v, t)) { v.row[4 * nest + i] = 0; break; }
            }
        }
        v.contents.remove(Long.valueOf(t));
        return v.contents.size();
    }

    static boolean hasTag(Sieve v, int nest, int tag) {
        for (int i = 0; i < 4; i++) if (v.row[4 * nest + i] == tag) return true;
        return false;
    }

    static boolean passes(Sieve v, long t) {
        switch (v.kind) {
            case 0: case 1:
                for (int at : marksOf(v, t)) if (v.row[at] == 0) return false;
                return true;
            case 2:
                return hasTag(v, first(v, t), tag2(v, t)) || hasTag(v, second(v, t), tag2(v, t));
            case 3:
                int x = 0;
                for (int i = 0; i < 3; i++) x ^= v.row[place3(t, v.seed, i, v.size / 3)];
                return x == tag3(t, v.seed);
            default:
                for (int i = 0; i < v.layers.size(); i++) {
                    if (!passes(v.layers.get(i), t)) return i % 2 == 1;
                }
                boolean even = v.layers.size() % 2 == 0;
                if (v.rest.isEmpty()) return !even;
                return even && v.rest.contains(t) || !even && !v.rest.contains(t);
        }
    }

    int lets(int s, long t) { return noSieve(s) ? NONE : passes(sieves.get(s), t) ? 1 : 0; }

    List<Long> allFalse(int s, int world) {
        List<Long> found = new ArrayList<>();
        Sieve v = sieves.get(s);
        for (long t : worlds.get(world)) if (passes(v, t) && !v.contents.contains(t)) found.add(t);
        return found;
    }

    int falses(int s, int world) { return noSieve(s) || noWorld(world) ? NONE : allFalse(s, world).size(); }

    long falseOne(int s, int world, int i) {
        if (noSieve(s) || noWorld(world)) return 0;
        List<Long> found = allFalse(s, world);
        return i < 0 || i >= found.size() ? 0 : found.get(i);
    }

    int missed(int s) {
        if (noSieve(s)) return NONE;
        int n = 0;
        for (long t : sieves.get(s).contents) if (!passes(sieves.get(s), t)) n++;
        return n;
    }

    int join(int how, int a, int b) {
        if (how != 0 && how != 1 || noSieve(a) || noSieve(b)) return NONE;
        Sieve v = sieves.get(a), w = sieves.get(b);
        if (v.kind != 0 || w.kind != 0 || v.size != w.size || v.marks != w.marks || v.seed != w.seed) return KIND;
        Sieve u = newOne(0, v.size, v.marks, v.seed, v.size);
        for (int i = 0; i < u.size; i++) u.row[i] = how == 0 ? v.row[i] | w.row[i] : v.row[i] & w.row[i];
        List<Long> others = new ArrayList<>(w.contents);
        for (Long t : v.contents) if (how == 0 || others.remove(t)) u.contents.add(t);
        if (how == 0) u.contents.addAll(others);
        if (u.contents.size() > 1000 || allTaken()) return FULL;
        return keep(u);
    }

    int fold(int s) {
        if (noSieve(s)) return NONE;
        Sieve v = sieves.get(s);
        if (v.kind != 0 || v.size == 8) return KIND;
        if (allTaken()) return FULL;
        int half = v.size / 2;
        Sieve u = newOne(0, half, v.marks, v.seed, half);
        for (int i = 0; i < half; i++) u.row[i] = v.row[i] == 1 || v.row[i + half] == 1 ? 1 : 0;
        u.contents.addAll(v.contents);
        return keep(u);
    }

    static int above0(int[] row) {
        int n = 0;
        for (int x : row) if (x > 0) n++;
        return n;
    }

    int about(int s, int what) {
        if (noSieve(s) || what < 0 || what > 6) return NONE;
        Sieve v = sieves.get(s);
        int weight = 64 * v.rest.size();
        for (Sieve l : v.layers) weight += l.size;
        int[] weights = {v.size, 4 * v.size, 32 * v.size, 24 * (v.size / 3), weight};
        int[] answers = {v.kind, v.size, v.marks, v.seed, v.contents.size(), weights[v.kind],
            v.kind == 4 ? v.rest.size() : above0(v.row)};
        return answers[what];
    }

    int cell(int s, int i) {
        if (noSieve(s)) return NONE;
        Sieve v = sieves.get(s);
        if (i < 0 || i >= (v.kind == 2 ? 4 * v.size : v.size)) return NONE;
        return v.kind == 4 ? KIND : v.row[i];
    }

    int layer(int s, int i, int what) {
        if (noSieve(s) || what < 0 || what > 2) return NONE;
        Sieve v = sieves.get(s);
        if (v.kind != 4) return KIND;
        if (i < 0 || i >= v.layers.size()) return NONE;
        Sieve l = v.layers.get(i);
        return what == 0 ? l.size : what == 1 ? l.contents.size() : above0(l.row);
    }

    int mark(int s, long t, int j) {
        if (noSieve(s)) return NONE;
        Sieve v = sieves.get(s);
        if (v.kind == 4) return KIND;
        int n = v.kind == 2 ? 2 : v.kind == 3 ? 3 : v.marks;
        if (j < 0 || j >= n) return NONE;
        if (v.kind == 2) return j == 0 ? first(v, t) : second(v, t);
        return v.kind == 3 ? place3(t, v.seed, j, v.size / 3) : marksOf(v, t)[j];
    }

    int fewest(int in, int all, int most, int seed) {
        if (noWorld(in) || noWorld(all) || most < 8 || most > 4096) return NONE;
        int best = Integer.MAX_VALUE, answer = 0;
        for (int size = 8; size <= most; size *= 2) {
            for (int k = 1; k <= 8; k++) {
                Sieve v = newOne(0, size, k, seed, size);
                for (long t : worlds.get(in)) set(v, t);
                int n = 0;
                for (long t : worlds.get(all)) if (!worlds.get(in).contains(t) && passes(v, t)) n++;
                if (n < best) { best = n; answer = 16 * size + k; }
            }
        }
        return answer;
    }

    int remove() {
        if (sieves.isEmpty()) return NONE;
        sieves.remove(sieves.size() - 1);
        return sieves.size();
    }

    int sieves() { return sieves.size(); }
}
