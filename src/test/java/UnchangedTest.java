import java.util.ArrayList;
import java.util.List;

/**
 * 'A refused call changes nothing': of each call, and for each of its refusals, all that can be asked
 * about an object is asked with and without the refused call. As an object is used for 512 calls at
 * most, it is made anew for each part of the questions.
 */
public final class UnchangedTest {
    private static final int NONE = Due.NONE, KIND = Due.KIND, CROWDED = Due.CROWDED, FULL = Due.FULL;
    private static final int PART = 300;

    private interface Call { long on(SieveCabinet x); }

    private interface Maker { SieveCabinet make(); }

    private final Maker maker;
    private final List<Call> questions = new ArrayList<>();
    private final long[] before;

    private UnchangedTest(Maker maker) {
        this.maker = maker;
        questions.add(x -> x.sieves());
        for (int w = 0; w < 8; w++) askWorld(w);
        int sieves = maker.make().sieves();
        for (int s = 0; s <= sieves; s++) askSieve(s);
        // What a call leaves behind for the next sieve is seen in that one alone.
        questions.add(x -> x.layered(7, 7, 0));
        questions.add(x -> x.make(0, 8, 1, 0));
        before = answers(null, 0);
    }

    private void askWorld(int w) {
        int things = maker.make().things(w);
        questions.add(x -> x.things(w));
        for (int i = -1; i <= things; i++) {
            int at = i;
            questions.add(x -> x.thing(w, at));
        }
    }

    private void askSieve(int s) {
        SieveCabinet y = maker.make();
        int kind = y.about(s, 0), size = y.about(s, 1);
        for (int i = 0; i < 7; i++) {
            int what = i;
            questions.add(x -> x.about(s, what));
        }
        questions.add(x -> x.missed(s));
        for (int i = 0; i < 8; i++) {
            int w = i;
            questions.add(x -> x.falses(s, w));
        }
        int places = kind == 4 ? 0 : kind == 2 ? 4 * size : size;
        for (int i = 0; i < places; i++) {
            int at = i;
            questions.add(x -> x.cell(s, at));
        }
        for (int i = 0; kind == 4 && i < 3 * size; i++) {
            int at = i / 3, what = i % 3;
            questions.add(x -> x.layer(s, at, what));
        }
    }

    private long[] answers(Call refused, long code) {
        long[] all = new long[questions.size()];
        SieveCabinet x = null;
        for (int i = 0; i < all.length; i++) {
            if (i % PART == 0) {
                x = maker.make();
                if (refused != null) Due.is("the call", refused.on(x), code);
            }
            all[i] = questions.get(i).on(x);
        }
        return all;
    }

    private void refused(String call, long code, Call refused) {
        Due.by("A refused call changes nothing: " + call);
        long[] after = answers(refused, code);
        for (int i = 0; i < after.length; i++) Due.is("question " + i + " behind it", after[i], before[i]);
    }

    /** One of each kind, with things in, numbered as its kind; 5 is a full nest, 6 is MARKED and unlike 0. */
    private static SieveCabinet ofEachKind() {
        SieveCabinet x = new SieveCabinet();
        x.span(0, 1, 1, 10);
        x.span(1, 1, 1, 100);
        x.make(0, 64, 3, 9);
        x.make(1, 32, 4, -9);
        x.make(2, 16, 0, 8);
        x.solve(0, 5);
        x.layered(0, 1, -1);
        for (int s = 0; s < 3; s++) x.putAll(s, 0);
        x.make(2, 1, 0, 1);
        x.putAll(5, 0);
        x.make(0, 8, 3, 9);
        x.put(6, 1);
        return x;
    }

    private static void none() {
        UnchangedTest t = new UnchangedTest(UnchangedTest::ofEachKind);
        for (int w : new int[] {-1, 8}) {
            t.refused("span, world " + w, NONE, x -> x.span(w, 500, 1, 5));
            t.refused("take, world " + w, NONE, x -> x.take(w, 1));
            t.refused("things, world " + w, NONE, x -> x.things(w));
            t.refused("solve, world " + w, NONE, x -> x.solve(w, 0));
            t.refused("layered, in " + w, NONE, x -> x.layered(w, 1, 0));
            t.refused("layered, all " + w, NONE, x -> x.layered(0, w, 0));
            t.refused("putAll, world " + w, NONE, x -> x.putAll(0, w));
            t.refused("falses, world " + w, NONE, x -> x.falses(0, w));
            t.refused("fewest, in " + w, NONE, x -> x.fewest(w, 1, 64, 0));
            t.refused("fewest, all " + w, NONE, x -> x.fewest(0, w, 64, 0));
        }
        t.refused("span, n 0", NONE, x -> x.span(0, 500, 1, 0));
        t.refused("span, n 1001", NONE, x -> x.span(0, 500, 0, 1001));
        t.refused("take, not in it", NONE, x -> x.take(0, 11));
        t.refused("take, of an empty world", NONE, x -> x.take(7, 0));
        t.refused("make, kind", NONE, x -> x.make(3, 8, 1, 0));
        t.refused("make, size", NONE, x -> x.make(0, 12, 1, 0));
        t.refused("make, size of NESTED", NONE, x -> x.make(2, 512, 1, 0));
        t.refused("make, marks", NONE, x -> x.make(1, 8, 9, 0));
        t.refused("fewest, most", NONE, x -> x.fewest(0, 1, 7, 0));
        for (int s : new int[] {-1, 7}) {
            t.refused("put, sieve " + s, NONE, x -> x.put(s, 500));
            t.refused("putAll, sieve " + s, NONE, x -> x.putAll(s, 1));
            t.refused("drop, sieve " + s, NONE, x -> x.drop(s, 1));
            t.refused("join, a " + s, NONE, x -> x.join(0, s, 0));
            t.refused("join, b " + s, NONE, x -> x.join(1, 0, s));
            t.refused("fold, sieve " + s, NONE, x -> x.fold(s));
        }
        t.refused("join, how", NONE, x -> x.join(2, 0, 0));
        t.refused("cell, place", NONE, x -> x.cell(0, 64));
        t.refused("layer, what", NONE, x -> x.layer(4, 0, 3));
        t.refused("mark, j", NONE, x -> x.mark(0, 1, 3));
        t.refused("about, what", NONE, x -> x.about(0, 7));
        UnchangedTest empty = new UnchangedTest(SieveCabinet::new);
        empty.refused("remove", NONE, x -> x.remove());
    }

    private static void kind() {
        UnchangedTest t = new UnchangedTest(UnchangedTest::ofEachKind);
        for (int s = 3; s < 5; s++) {
            int of = s;
            t.refused("put, kind " + s, KIND, x -> x.put(of, 500));
            t.refused("putAll, kind " + s, KIND, x -> x.putAll(of, 1));
        }
        for (int s : new int[] {0, 3, 4}) t.refused("drop, kind " + s, KIND, x -> x.drop(s, 1));
        for (int s : new int[] {1, 2, 3, 4, 6}) {
            t.refused("join with " + s, KIND, x -> x.join(0, 0, s));
            t.refused("join of " + s, KIND, x -> x.join(1, s, 0));
            t.refused("fold of " + s, KIND, x -> x.fold(s));
        }
        t.refused("cell", KIND, x -> x.cell(4, 0));
        t.refused("layer", KIND, x -> x.layer(0, 0, 0));
        t.refused("mark", KIND, x -> x.mark(4, 1, 0));
    }

    /** By a seed of its own each pair has the same PLACES; the nests of 256 are those that TermsTest looks at. */
    private static SieveCabinet crowded() {
        SieveCabinet x = new SieveCabinet();
        for (int i = 0; i < 50; i++) {
            Crafted.come(x, 0, Crafted.ofMix(i | 1L << 60, i), Crafted.ofMix(i | 2L << 60, i));
        }
        x.make(2, 256, 0, 1);
        x.span(1, 0, 1, 970);
        x.putAll(0, 1);
        x.make(2, 2, 0, 3);
        for (int tag : new int[] {4, 5, 6, 10}) x.put(1, Crafted.ofNest(tag, 0, 3));
        return x;
    }

    private static void crowdedAndNotThrough() {
        UnchangedTest t = new UnchangedTest(UnchangedTest::crowded);
        t.refused("solve, CROWDED", CROWDED, x -> x.solve(0, 0));
        t.refused("put, CROWDED in 256 nests", CROWDED, x -> x.put(0, 5249));
        t.refused("put, CROWDED in two nests", CROWDED, x -> x.put(1, Crafted.ofNest(11, 0, 3)));
        UnchangedTest each = new UnchangedTest(UnchangedTest::ofEachKind);
        each.refused("put, CROWDED in one nest", CROWDED, x -> x.put(5, 50));
        each.refused("drop, not let through by COUNTED", -5, x -> x.drop(1, notThrough(1)));
        each.refused("drop, not let through by NESTED", -5, x -> x.drop(2, notThrough(2)));
    }

    private static long notThrough(int s) {
        SieveCabinet x = ofEachKind();
        long t = 100;
        while (t < 200 && x.lets(s, t) == 1) t++;
        return t;
    }

    private static SieveCabinet withThirty() {
        SieveCabinet x = ofEachKind();
        for (int i = 7; i < 30; i++) x.make(0, 8, 1, 0);
        return x;
    }

    /** World 2 has 1000 things, and so have the sieves 0 to 2; 3 is like 0 and has one. */
    private static SieveCabinet withThousands() {
        SieveCabinet x = new SieveCabinet();
        x.span(2, 0, 1, 1000);
        x.make(0, 1024, 1, 37);
        x.make(1, 1024, 2, 37);
        x.make(2, 256, 0, 37);
        for (int s = 0; s < 3; s++) x.putAll(s, 2);
        x.make(0, 1024, 1, 37);
        x.put(3, 5);
        x.span(3, 0, 2, 600);
        return x;
    }

    private static void full() {
        UnchangedTest of30 = new UnchangedTest(UnchangedTest::withThirty);
        for (int kind = 0; kind < 3; kind++) {
            int of = kind;
            of30.refused("make, FULL, kind " + kind, FULL, x -> x.make(of, 8, 1, 0));
        }
        of30.refused("solve, FULL", FULL, x -> x.solve(0, 0));
        of30.refused("layered, FULL", FULL, x -> x.layered(0, 1, 0));
        of30.refused("join, FULL", FULL, x -> x.join(0, 0, 0));
        of30.refused("join, FULL, in both", FULL, x -> x.join(1, 0, 0));
        of30.refused("fold, FULL", FULL, x -> x.fold(0));
        UnchangedTest of1000 = new UnchangedTest(UnchangedTest::withThousands);
        for (int s = 0; s < 3; s++) {
            int of = s;
            for (long thing = 2000; thing < 2003; thing++) {
                long t = thing;
                of1000.refused("put, FULL, kind " + s, FULL, x -> x.put(of, t));
            }
            of1000.refused("putAll of a FULL one, kind " + s, 0, x -> x.putAll(of, 3));
        }
        of1000.refused("join, FULL, 1001", FULL, x -> x.join(0, 0, 3));
        of1000.refused("join, FULL, 2000", FULL, x -> x.join(0, 0, 0));
        of1000.refused("span, FULL, one", FULL, x -> x.span(2, -1, 1, 1));
        of1000.refused("span, FULL, the last one", FULL, x -> x.span(2, 0, 2, 501));
        of1000.refused("span, FULL, 400 would have room", FULL, x -> x.span(3, 1, 2, 401));
    }

    public static void main(String[] args) {
        none();
        kind();
        crowdedAndNotThrough();
        full();
        Due.end();
    }
}
