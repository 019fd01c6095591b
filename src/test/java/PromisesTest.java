/** Each promise by hand: ordinary inputs, the edges that the document names, and wrong inputs. */
public final class PromisesTest {
    private static final int NONE = -1, KIND = -2, CROWDED = -3, FULL = -4;
    private static final int LOW = Integer.MIN_VALUE, HIGH = Integer.MAX_VALUE;
    private static int wrong = 0;

    private static void due(int promise, String call, long got, long want) {
        if (got != want) {
            wrong++;
            System.out.println("promise " + promise + ": " + call + " answered " + got + ", due is " + want);
        }
    }

    private static void fillUp(SieveCabinet x) {
        for (int i = x.sieves(); i < 30; i++) due(6, "make up to 30", x.make(0, 8, 1, 0), i);
    }

    /** One sieve of each kind, numbered as its kind, over world 0 (1 .. 10) and world 1 (1 .. 100). */
    private static SieveCabinet ofEachKind() {
        SieveCabinet x = new SieveCabinet();
        x.span(0, 1, 1, 10);
        x.span(1, 1, 1, 100);
        due(6, "make(0, ..)", x.make(0, 64, 3, 9), 0);
        due(6, "make(1, ..)", x.make(1, 32, 4, -9), 1);
        due(6, "make(2, ..)", x.make(2, 16, 77, 8), 2);
        due(7, "solve", x.solve(0, 5), 3);
        due(8, "layered", x.layered(0, 1, -1), 4);
        return x;
    }

    private static void p1NewObject() {
        SieveCabinet x = new SieveCabinet();
        due(1, "sieves", x.sieves(), 0);
        for (int w = 0; w < 8; w++) {
            due(1, "things", x.things(w), 0);
            due(1, "thing", x.thing(w, 0), 0);
        }
        due(1, "lets(0, 0)", x.lets(0, 0), NONE);
        SieveCabinet y = new SieveCabinet();
        y.span(0, 1, 1, 5);
        y.make(0, 8, 1, 0);
        due(1, "another's things", x.things(0), 0);
        due(1, "another's sieves", x.sieves(), 0);
    }

    private static void p2Span() {
        SieveCabinet x = new SieveCabinet();
        due(2, "ordinary", x.span(0, 10, 5, 3), 3);
        due(2, "overlapping", x.span(0, 15, 5, 3), 4);
        due(2, "step 0", x.span(1, 7, 0, 1000), 1);
        due(2, "downwards", x.span(2, 0, -3, 4), 4);
        due(2, "the least", x.thing(2, 0), -9);
        due(2, "the last", x.thing(2, 3), 0);
        due(2, "over the end", x.span(3, Long.MAX_VALUE, 1, 2), 2);
        due(2, "over the end: least", x.thing(3, 0), Long.MIN_VALUE);
        due(2, "over the end: last", x.thing(3, 1), Long.MAX_VALUE);
        due(2, "long steps", x.span(4, 0, HIGH, 1000), 1000);
        due(2, "long steps: last", x.thing(4, 999), 999L * HIGH);
        due(2, "longest step down", x.span(5, 0, LOW, 3), 3);
        due(2, "longest step down: least", x.thing(5, 0), 2L * LOW);
        due(2, "1000", x.span(6, 0, 1, 1000), 1000);
        due(2, "1000 once more", x.span(6, 0, 1, 1000), 1000);
        due(2, "one too many", x.span(6, 1, 1, 1000), FULL);
        due(2, "one new one", x.span(6, -1, 1, 1), FULL);
        due(2, "refused: things", x.things(6), 1000);
        due(2, "refused: least", x.thing(6, 0), 0);
        due(2, "refused: last", x.thing(6, 999), 999);
        due(2, "half way", x.span(7, 0, 2, 600), 600);
        due(2, "half way, too many", x.span(7, 1, 2, 401), FULL);
        due(2, "half way, nothing came", x.thing(7, 1), 2);
        due(2, "half way, just as many", x.span(7, 1, 2, 400), 1000);
        for (int w : new int[] {-1, 8, LOW, HIGH}) due(2, "world " + w, x.span(w, 0, 1, 1), NONE);
        for (int n : new int[] {0, -1, 1001, LOW, HIGH}) due(2, "n " + n, x.span(0, 0, 1, n), NONE);
        due(2, "NONE ahead of FULL", x.span(6, 5000, 1, 1001), NONE);
    }

    private static void p3Take() {
        SieveCabinet x = new SieveCabinet();
        x.span(7, -2, 2, 5);
        due(3, "from the middle", x.take(7, 2), 4);
        due(3, "the one behind", x.thing(7, 2), 4);
        due(3, "once more", x.take(7, 2), NONE);
        due(3, "the least", x.take(7, -2), 3);
        due(3, "the last", x.take(7, 6), 2);
        due(3, "between", x.take(7, 1), NONE);
        due(3, "another world", x.take(6, 0), NONE);
        due(3, "world 8", x.take(8, 0), NONE);
        due(3, "world -1", x.take(-1, 0), NONE);
        due(3, "room again", x.span(7, 100, 1, 998), 1000);
        due(3, "of 1000", x.take(7, 1097), 999);
        due(3, "one may come", x.span(7, Long.MIN_VALUE, 0, 1), 1000);
        due(3, "the least long", x.take(7, Long.MIN_VALUE), 999);
    }

    private static void p4p5Things() {
        SieveCabinet x = new SieveCabinet();
        x.span(3, 5, -10, 3);
        due(4, "things", x.things(3), 3);
        due(4, "of another", x.things(2), 0);
        for (int w : new int[] {-1, 8, LOW, HIGH}) {
            due(4, "world " + w, x.things(w), NONE);
            due(5, "world " + w, x.thing(w, 0), 0);
        }
        due(5, "thing 0", x.thing(3, 0), -15);
        due(5, "thing 1", x.thing(3, 1), -5);
        due(5, "thing 2", x.thing(3, 2), 5);
        for (int i : new int[] {-1, 3, LOW, HIGH}) due(5, "thing " + i, x.thing(3, i), 0);
    }

    private static void p6Make() {
        SieveCabinet x = new SieveCabinet();
        int made = 0;
        for (int size = 8; size <= 4096; size *= 2) {
            due(6, "marked " + size, x.make(0, size, 8, -1), made++);
            due(6, "counted " + size, x.make(1, size, 1, HIGH), made++);
        }
        for (int size = 1; size <= 256; size *= 2) due(6, "nested " + size, x.make(2, size, LOW, LOW), made++);
        due(6, "kind", x.about(21, 0), 2);
        due(6, "kind", x.about(1, 0), 1);
        due(6, "marks of nested", x.about(21, 2), 0);
        due(6, "seed", x.about(21, 3), LOW);
        due(6, "bits", x.about(18, 6), 0);
        for (int kind : new int[] {-1, 3, 4, 5, LOW, HIGH}) due(6, "kind " + kind, x.make(kind, 8, 1, 0), NONE);
        for (int size : new int[] {0, -8, 4, 7, 9, 12, 24, 4095, 8192, LOW, HIGH}) {
            due(6, "marked " + size, x.make(0, size, 1, 0), NONE);
            due(6, "counted " + size, x.make(1, size, 1, 0), NONE);
        }
        for (int size : new int[] {0, -1, 3, 255, 512, LOW, HIGH}) due(6, "nested " + size, x.make(2, size, 1, 0), NONE);
        for (int marks : new int[] {0, -1, 9, LOW, HIGH}) {
            due(6, "marked, marks " + marks, x.make(0, 8, marks, 0), NONE);
            due(6, "counted, marks " + marks, x.make(1, 8, marks, 0), NONE);
        }
        due(6, "refused ones count for nothing", x.sieves(), 29);
        due(6, "the 30th", x.make(0, 8, 1, 0), 29);
        due(6, "the 31st", x.make(0, 8, 1, 0), FULL);
        due(6, "NONE ahead of FULL", x.make(0, 9, 1, 0), NONE);
        due(6, "still 30", x.sieves(), 30);
    }

    private static void p6CleanSlot() {
        SieveCabinet x = new SieveCabinet();
        x.span(0, 0, 1, 300);
        x.make(1, 4096, 8, 0);
        x.putAll(0, 0);
        x.remove();
        x.layered(0, 0, 0);
        x.remove();
        due(6, "in a used place", x.make(0, 4096, 8, 0), 0);
        due(6, "is empty: contents", x.about(0, 4), 0);
        due(6, "is empty: bits", x.about(0, 6), 0);
    }

    private static void p7Solve() {
        SieveCabinet x = new SieveCabinet();
        int seed = 11;
        // c is 1 + 0 + 8 = 9: places 4, 9 + 5 and 18 + 6; the tag is 16 * 13 + 4.
        long one = Crafted.ofPlaces(13, 4, 14, 24, seed);
        x.span(0, one, 0, 1);
        due(7, "of one thing", x.solve(0, seed), 0);
        due(7, "SIZE", x.about(0, 1), 27);
        due(7, "it lets it through", x.lets(0, one), 1);
        due(7, "the number at the least place", x.cell(0, 4), 16 * 13 + 4);
        due(7, "no other number", x.about(0, 6), 1);
        twoThings(x, seed);
        due(7, "of none", x.solve(7, -3), 2);
        due(7, "of none: SIZE", x.about(2, 1), 24);
        due(7, "of none: SEED", x.about(2, 3), -3);
        x.span(6, -500, 1, 1000);
        due(7, "of 1000", x.solve(6, 0), 3);
        due(7, "of 1000: SIZE", x.about(3, 1), 3774);
        due(7, "of 1000: missed", x.missed(3), 0);
        due(7, "of 1000: CONTENTS", x.about(3, 4), 1000);
        x.take(6, 0);
        due(7, "CONTENTS stay when the world changes", x.about(3, 4), 1000);
        for (int w : new int[] {-1, 8, LOW, HIGH}) due(7, "world " + w, x.solve(w, 0), NONE);
        fillUp(x);
        due(7, "the 31st", x.solve(0, 0), FULL);
        due(7, "NONE ahead of FULL", x.solve(8, 0), NONE);
    }

    /**
     * c is 2 + 0 + 8 = 10. Both have place 3, so the least single place is 10 + 1 (the second
     * thing's): it goes first; then place 3 is the first thing's alone. Numbers are given backwards.
     */
    private static void twoThings(SieveCabinet x, int seed) {
        long a = Crafted.ofPlaces(1, 3, 2, 5, seed);
        long b = Crafted.ofPlaces(2, 13, 1, 5, seed);
        x.span(1, a, 0, 1);
        x.span(1, b, 0, 1);
        due(7, "of two things", x.solve(1, seed), 1);
        due(7, "two: SEED", x.about(1, 3), seed);
        due(7, "two: the first thing's", x.cell(1, 3), 16 + 3);
        due(7, "two: the second thing's", x.cell(1, 11), (16 * 2 + 13) ^ (16 + 3));
        due(7, "two: all others are 0", x.about(1, 6), 2);
    }

    /** By a seed of its own each pair has the same PLACES, as it differs in the upper 4 bits of the MIX alone. */
    private static void p7Crowded() {
        SieveCabinet x = new SieveCabinet();
        int seed = HIGH - 20;
        for (int i = 0; i < 49; i++) {
            long low = 0x123456789ABCDEFL + i * 1000003L;
            x.span(0, Crafted.ofMix(low | 1L << 60, seed + i), 0, 1);
            x.span(0, Crafted.ofMix(low | 9L << 60, seed + i), 0, 1);
        }
        due(7, "98 things", x.things(0), 98);
        due(7, "the 50th seed does", x.solve(0, seed), 0);
        due(7, "the 50th seed", x.about(0, 3), seed + 49);
        due(7, "missed", x.missed(0), 0);
        x.span(0, Crafted.ofMix(5L | 1L << 60, seed + 49), 0, 1);
        x.span(0, Crafted.ofMix(5L | 9L << 60, seed + 49), 0, 1);
        due(7, "no seed does", x.solve(0, seed), CROWDED);
        due(7, "nothing was made", x.sieves(), 1);
        due(7, "one seed on", x.solve(0, seed + 1), 1);
        due(7, "one seed on: SEED", x.about(1, 3), seed + 50);
        fillUp(x);
        due(7, "CROWDED ahead of FULL", x.solve(0, seed), CROWDED);
        due(7, "FULL", x.solve(0, seed + 1), FULL);
    }

    private static void p8Layered() {
        SieveCabinet x = new SieveCabinet();
        x.span(0, 1, 7, 60);
        x.span(1, 0, 1, 500);
        due(8, "ordinary", x.layered(0, 1, 4), 0);
        due(8, "exact: falses", x.falses(0, 1), 0);
        due(8, "exact: missed", x.missed(0), 0);
        due(8, "CONTENTS", x.about(0, 4), 60);
        due(8, "of one world", x.layered(1, 1, 0), 1);
        due(8, "of one world: layers", x.about(1, 1), 1);
        due(8, "of one world: falses", x.falses(1, 0), 0);
        due(8, "IN is empty", x.layered(7, 1, 0), 2);
        due(8, "IN is empty: layers", x.about(2, 1), 1);
        due(8, "IN is empty: SIZE of its layer", x.layer(2, 0, 0), 8);
        due(8, "IN is empty: lets", x.lets(2, 0), 0);
        due(8, "ALL is empty", x.layered(0, 7, 0), 3);
        due(8, "ALL is empty: layers", x.about(3, 1), 1);
        due(8, "ALL is empty: lets", x.lets(3, 1), 1);
        x.span(2, 0, 2, 1000);
        x.span(3, 0, 1, 1000);
        due(8, "1000", x.layered(2, 3, HIGH), 4);
        due(8, "1000: the largest SIZE", x.layer(4, 0, 0), 4096);
        due(8, "1000: falses", x.falses(4, 3), 0);
        due(8, "1000: missed", x.missed(4), 0);
        for (int w : new int[] {-1, 8, LOW, HIGH}) {
            due(8, "in " + w, x.layered(w, 0, 0), NONE);
            due(8, "all " + w, x.layered(0, w, 0), NONE);
        }
        fillUp(x);
        due(8, "the 31st", x.layered(0, 1, 0), FULL);
        due(8, "NONE ahead of FULL", x.layered(0, 8, 0), NONE);
    }

    /** One thing in, one rival that passes layer 0; the rest is asked by how layer 1 takes the first. */
    private static void p8Two(int seed) {
        SieveCabinet x = new SieveCabinet();
        long in = 1000;
        long ends = 0, rests = 0;
        for (long t = 0; ends == 0 || rests == 0; t++) {
            if (t == in || !Crafted.fits(t, seed, 8, in)) continue;
            if (Crafted.fits(in, seed + 1, 8, t)) rests = t; else ends = t;
        }
        x.span(0, in, 0, 1);
        x.span(1, ends, 0, 1);
        x.span(2, rests, 0, 1);
        due(8, "two layers", x.layered(0, 1, seed), 0);
        due(8, "two layers: how many", x.about(0, 1), 2);
        due(8, "two layers: REST", x.about(0, 6), 0);
        due(8, "two layers: WEIGHT", x.about(0, 5), 16);
        due(8, "two layers: the one", x.lets(0, in), 1);
        due(8, "two layers: the rival", x.lets(0, ends), 0);
        due(8, "two layers and a REST", x.layered(0, 2, seed), 1);
        due(8, "even REST: layers", x.about(1, 1), 2);
        due(8, "even REST: how many", x.about(1, 6), 1);
        due(8, "even REST: WEIGHT", x.about(1, 5), 16 + 64);
        due(8, "even REST: in it", x.lets(1, in), 1);
        due(8, "even REST: not in it", x.lets(1, rests), 0);
        x.remove();
        due(8, "in the place of one with a REST", x.layered(0, 1, seed), 1);
        due(8, "it has none", x.about(1, 6), 0);
    }

    /** Two in, a rival that passes; one of the two passes layer 1; the rival passes layer 2: REST behind three. */
    private static void p8OddRest() {
        int seed = -2;
        long a = 3, b = 4;
        long t = 5;
        while (!Crafted.fits(t, seed, 16, a, b) || !Crafted.fits(a, seed + 1, 8, t)
            || Crafted.fits(b, seed + 1, 8, t) || !Crafted.fits(t, seed + 2, 8, a)) t++;
        SieveCabinet y = new SieveCabinet();
        y.span(0, a, 1, 2);
        y.span(1, t, 0, 1);
        due(8, "three layers", y.layered(0, 1, seed), 0);
        due(8, "odd REST: layers", y.about(0, 1), 3);
        due(8, "odd REST: how many", y.about(0, 6), 1);
        due(8, "odd REST: WEIGHT", y.about(0, 5), 16 + 8 + 8 + 64);
        due(8, "odd REST: in it", y.lets(0, t), 0);
        due(8, "odd REST: passes all layers, not in it", y.lets(0, a), 1);
        due(8, "odd REST: ends at layer 1", y.lets(0, b), 1);
    }

    private static void p9Put() {
        SieveCabinet x = ofEachKind();
        due(9, "marked", x.put(0, 4), 1);
        due(9, "marked, once more", x.put(0, 4), 2);
        due(9, "counted", x.put(1, Long.MIN_VALUE), 1);
        due(9, "nested", x.put(2, -1), 1);
        due(9, "solved", x.put(3, 1), KIND);
        due(9, "layered", x.put(4, 1), KIND);
        for (int s : new int[] {-1, 5, 30, LOW, HIGH}) due(9, "sieve " + s, x.put(s, 1), NONE);
        x.make(0, 16, 3, 7);
        due(9, "by hand", x.put(5, Crafted.ofMarks(21, 2, 7)), 1);
        for (int i = 0; i < 16; i++) due(9, "bit " + i, x.cell(5, i), i == 5 || i == 8 || i == 11 ? 1 : 0);
        due(9, "greatest MIX", x.put(5, Crafted.ofMix(-1L, 7)), 2);
        for (int i = 13; i < 16; i++) due(9, "bit " + i, x.cell(5, i), 1);
        due(9, "greatest MIX, bits", x.about(5, 6), 6);
    }

    private static void p9Counted() {
        SieveCabinet x = new SieveCabinet();
        x.make(1, 8, 3, 7);
        long low = Crafted.ofMarks(0, 1, 7), next = Crafted.ofMarks(2, 1, 7);
        for (int i = 1; i <= 17; i++) due(9, "counted " + i, x.put(0, low), i);
        due(9, "15 stays", x.cell(0, 0), 15);
        due(9, "next", x.put(0, next), 18);
        due(9, "15 stays", x.cell(0, 2), 15);
        due(9, "one", x.cell(0, 3), 1);
        due(9, "none", x.cell(0, 5), 0);
    }

    /** Two nests; 1 .. 3 have the other one as OTHER NEST, 4 has its own. */
    private static void p9Nested() {
        SieveCabinet x = new SieveCabinet();
        x.make(2, 2, 0, 3);
        int[] firsts = {1, 2, 3, 1};
        for (int i = 0; i < 4; i++) due(9, "nest 0", x.put(0, Crafted.ofNest(firsts[i], 0, 3)), i + 1);
        due(9, "to the second nest", x.put(0, Crafted.ofNest(3, 0, 3)), 5);
        for (int i = 0; i < 4; i++) due(9, "place " + i, x.cell(0, i), firsts[i]);
        due(9, "in the second nest", x.cell(0, 4), 3);
        due(9, "pushed", x.put(0, Crafted.ofNest(4, 0, 3)), 6);
        due(9, "pushed: in hand", x.cell(0, 0), 4);
        due(9, "pushed: out of hand", x.cell(0, 5), 1);
        x.put(0, Crafted.ofNest(4, 1, 3));
        due(9, "the eighth", x.put(0, Crafted.ofNest(4, 1, 3)), 8);
        int[] before = new int[8];
        for (int i = 0; i < 8; i++) before[i] = x.cell(0, i);
        for (int tag = 1; tag <= 255; tag++) due(9, "crowded", x.put(0, Crafted.ofNest(tag, tag % 2, 3)), CROWDED);
        for (int i = 0; i < 8; i++) due(9, "as before", x.cell(0, i), before[i]);
        due(9, "as before", x.about(0, 4), 8);
    }

    /** Found by search: the one finds an empty place in the last round, the other would in the next. */
    private static void p9LastRound() {
        SieveCabinet x = new SieveCabinet();
        x.make(2, 32, 0, 2);
        x.span(0, 0, 1, 128);
        due(9, "up to the first that is crowded", x.putAll(0, 0), 124);
        due(9, "done when r is 199", x.put(0, 5006), 125);
        x.make(2, 256, 0, 1);
        x.span(1, 0, 1, 1000);
        due(9, "up to the first that is crowded", x.putAll(1, 1), 970);
        due(9, "would be done if r were 200", x.put(1, 5249), CROWDED);
    }

    private static void p9Full() {
        SieveCabinet x = new SieveCabinet();
        x.span(0, 0, 1, 1000);
        for (int kind = 0; kind < 2; kind++) {
            x.make(kind, 8, 1, 0);
            due(9, "1000", x.putAll(kind, 0), 1000);
            due(9, "one more", x.put(kind, 1), FULL);
            due(9, "still", x.about(kind, 4), 1000);
        }
    }

    /** With 1000 of 1024 places taken, many a put would be CROWDED, but that is asked later. */
    private static void p9FullAheadOfCrowded() {
        SieveCabinet x = new SieveCabinet();
        x.make(2, 256, 0, 5);
        x.span(0, 0, 1, 992);
        int in = x.putAll(0, 0), crowded = 0;
        for (long t = 2000; in < 1000 && t < 2400; t++) {
            if (x.put(0, t) > 0) in++; else crowded++;
        }
        due(9, "1000 found a place", x.about(0, 4), 1000);
        due(9, "others did not", Math.min(1, crowded), 1);
        for (long t = 2000; t < 2050; t++) due(9, "FULL ahead of CROWDED", x.put(0, t), FULL);
    }

    private static void p10PutAll() {
        SieveCabinet x = ofEachKind();
        due(10, "marked", x.putAll(0, 1), 100);
        due(10, "marked, more", x.putAll(0, 0), 10);
        due(10, "CONTENTS", x.about(0, 4), 110);
        due(10, "counted", x.putAll(1, 0), 10);
        due(10, "of none", x.putAll(1, 7), 0);
        due(10, "nested, up to the first that is crowded", x.putAll(2, 1), x.about(2, 4));
        due(10, "nested, later ones stay out", x.about(2, 6), x.about(2, 4));
        due(10, "solved", x.putAll(3, 0), KIND);
        due(10, "layered", x.putAll(4, 0), KIND);
        for (int w : new int[] {-1, 8, LOW, HIGH}) {
            due(10, "world " + w, x.putAll(0, w), NONE);
            due(10, "NONE ahead of KIND", x.putAll(3, w), NONE);
        }
        for (int s : new int[] {-1, 5, LOW, HIGH}) due(10, "sieve " + s, x.putAll(s, 0), NONE);
        x.span(2, 0, 1, 950);
        due(10, "up to FULL", x.putAll(0, 2), 890);
        due(10, "when FULL", x.putAll(0, 2), 0);
        x.make(2, 1, 0, 0);
        x.span(3, -2, 1, 9);
        due(10, "one nest", x.putAll(5, 3), 4);
        due(10, "in rising order", x.falses(5, 3), falsesBehindFour(x));
        due(10, "crowded at once", x.putAll(5, 3), 0);
    }

    private static int falsesBehindFour(SieveCabinet x) {
        int n = 0;
        for (int i = 4; i < 9; i++) n += x.lets(5, x.thing(3, i));
        return n;
    }

    private static void p11DropCounted() {
        SieveCabinet x = new SieveCabinet();
        x.make(1, 8, 2, 7);
        long a = Crafted.ofMarks(0, 1, 7), b = Crafted.ofMarks(1, 1, 7), ab = Crafted.ofMarks(8, 1, 7);
        due(11, "not let through", x.drop(0, a), -5);
        x.put(0, a);
        x.put(0, b);
        due(11, "let through, not in", x.drop(0, ab), 2);
        due(11, "count of one", x.cell(0, 0), 0);
        due(11, "count of both", x.cell(0, 1), 1);
        due(11, "missed then", x.missed(0), 1);
        due(11, "not let through any more", x.drop(0, a), -5);
        due(11, "the other", x.drop(0, b), 1);
        due(11, "all counts", x.about(0, 6), 0);
        for (int i = 0; i < 16; i++) x.put(0, a);
        due(11, "from 15", x.drop(0, a), 16);
        due(11, "15 stays", x.cell(0, 0), 15);
        for (int i = 0; i < 16; i++) x.drop(0, a);
        due(11, "none is left", x.about(0, 4), 0);
        due(11, "but is let through", x.drop(0, a), 0);
    }

    private static void p11DropNested() {
        SieveCabinet x = ofEachKind();
        due(11, "marked", x.drop(0, 1), KIND);
        due(11, "solved", x.drop(3, 1), KIND);
        due(11, "layered", x.drop(4, 1), KIND);
        for (int s : new int[] {-1, 5, LOW, HIGH}) due(11, "sieve " + s, x.drop(s, 1), NONE);
        x.make(2, 2, 0, 3);
        long t = Crafted.ofNest(1, 0, 3), like = Crafted.ofNest(1, 1, 3);
        due(11, "not in", x.drop(5, t), -5);
        for (int i = 0; i < 5; i++) x.put(5, t);
        due(11, "the first place", x.drop(5, t), 4);
        due(11, "the first place is empty", x.cell(5, 0), 0);
        due(11, "the next one is not", x.cell(5, 1), 1);
        due(11, "its first nest is nest 1", x.drop(5, like), 4);
        due(11, "nest 1", x.cell(5, 4), 0);
        due(11, "nest 1 has none: nest 0", x.drop(5, like), 4);
        due(11, "nest 0", x.cell(5, 1), 0);
        x.drop(5, t);
        due(11, "the last tag", x.drop(5, t), 2);
        due(11, "what is missed", x.missed(5), 2);
        due(11, "not let through", x.drop(5, t), -5);
        due(11, "and nothing changes", x.about(5, 4), 2);
    }

    private static void p12Lets() {
        SieveCabinet x = ofEachKind();
        x.putAll(0, 0);
        x.putAll(1, 0);
        x.putAll(2, 0);
        for (int s = 0; s < 5; s++) {
            for (long t = 1; t <= 10; t++) due(12, "what is in, in " + s, x.lets(s, t), 1);
        }
        for (long t = 11; t <= 100; t++) due(12, "exact", x.lets(4, t), 0);
        for (int s : new int[] {-1, 5, LOW, HIGH}) due(12, "sieve " + s, x.lets(s, 1), NONE);
        x.make(0, 8, 2, 7);
        x.put(5, Crafted.ofMarks(3, 1, 7));
        due(12, "the same marks", x.lets(5, Crafted.ofMarks(4, 7, 7)), 1);
        due(12, "one other mark", x.lets(5, Crafted.ofMarks(4, 1, 7)), 0);
        due(12, "b is made odd", x.lets(5, Crafted.ofMarks(3, 0, 7)), 1);
        x.make(2, 4, 0, 7);
        x.put(6, Crafted.ofNest(1, 2, 7));
        due(12, "in its first nest", x.lets(6, Crafted.ofNest(1, 2, 7)), 1);
        due(12, "in its second nest", x.lets(6, Crafted.ofNest(1, 3, 7)), 1);
        due(12, "in neither", x.lets(6, Crafted.ofNest(1, 1, 7)), 0);
        due(12, "another tag", x.lets(6, Crafted.ofNest(2, 2, 7)), 0);
        due(12, "upper bits 255 are tag 1", x.lets(6, Crafted.ofMix(255L << 56 | 2, 7)), 1);
    }

    private static void p13p14Falses() {
        SieveCabinet x = ofEachKind();
        x.make(0, 8, 2, 7);
        long in = Crafted.ofMarks(3, 1, 7);
        x.put(5, in);
        long[] alike = {Crafted.ofMarks(4, 7, 7), Crafted.ofMarks(11, 9, 7), Crafted.ofMarks(12, -1, 7)};
        java.util.Arrays.sort(alike);
        for (long t : alike) x.span(2, t, 0, 1);
        due(13, "all of them", x.falses(5, 2), 3);
        for (int i = 0; i < 3; i++) due(14, "false one " + i, x.falseOne(5, 2, i), alike[i]);
        x.span(2, in, 0, 1);
        x.span(2, Crafted.ofMarks(4, 1, 7), 0, 1);
        due(13, "neither what is in nor what is kept out", x.falses(5, 2), 3);
        for (int i : new int[] {3, -1, LOW, HIGH}) due(14, "false one " + i, x.falseOne(5, 2, i), 0);
        due(13, "of an empty world", x.falses(5, 7), 0);
        due(14, "of an empty world", x.falseOne(5, 7, 0), 0);
        for (int n : new int[] {-1, 8, LOW, HIGH}) {
            due(13, "world " + n, x.falses(5, n), NONE);
            due(13, "sieve " + n, x.falses(n, 2), NONE);
            due(14, "world " + n, x.falseOne(5, n, 0), 0);
            due(14, "sieve " + n, x.falseOne(n, 2, 0), 0);
        }
        x.put(5, alike[1]);
        due(13, "what came in is none", x.falses(5, 2), 2);
        due(14, "the next one moves up", x.falseOne(5, 2, 1), alike[2]);
        due(13, "solved", x.falses(3, 0), 0);
        due(13, "layered", x.falses(4, 1), 0);
    }

    private static void p15Missed() {
        SieveCabinet x = ofEachKind();
        for (int s = 0; s < 3; s++) x.putAll(s, 0);
        for (int s = 0; s < 5; s++) due(15, "none in " + s, x.missed(s), 0);
        for (int s : new int[] {-1, 5, LOW, HIGH}) due(15, "sieve " + s, x.missed(s), NONE);
        x.make(1, 8, 1, 7);
        long a = Crafted.ofMarks(5, 1, 7), like = Crafted.ofMarks(13, 1, 7);
        for (int i = 0; i < 3; i++) x.put(5, a);
        for (int i = 0; i < 2; i++) x.drop(5, like);
        due(15, "as long as a count is left", x.missed(5), 0);
        x.drop(5, like);
        due(15, "each as often", x.missed(5), 3);
        due(15, "CONTENTS", x.about(5, 4), 3);
    }

    private static void p16Join() {
        SieveCabinet x = new SieveCabinet();
        long a = Crafted.ofMarks(0, 1, 7), b = Crafted.ofMarks(1, 1, 7), c = Crafted.ofMarks(4, 1, 7);
        x.make(0, 8, 2, 7);
        x.make(0, 8, 2, 7);
        for (long t : new long[] {a, a, a, b}) x.put(0, t);
        for (long t : new long[] {a, a, c}) x.put(1, t);
        due(16, "both", x.join(0, 0, 1), 2);
        int[] bits = {1, 1, 1, 0, 1, 1, 0, 0};
        for (int i = 0; i < 8; i++) due(16, "bit " + i, x.cell(2, i), bits[i]);
        due(16, "CONTENTS of both", x.about(2, 4), 7);
        due(16, "what both have", x.join(1, 0, 1), 3);
        for (int i = 0; i < 8; i++) due(16, "shared bit " + i, x.cell(3, i), i < 2 ? 1 : 0);
        due(16, "CONTENTS in both, as often as in the one with fewer", x.about(3, 4), 2);
        due(16, "the other way round", x.join(1, 1, 0), 4);
        due(16, "the other way round: CONTENTS", x.about(4, 4), 2);
        due(16, "with itself", x.join(0, 0, 0), 5);
        due(16, "with itself: CONTENTS", x.about(5, 4), 8);
        due(16, "with itself: MARKS", x.about(5, 2), 2);
        due(16, "with itself: SEED", x.about(5, 3), 7);
        due(16, "nothing is missed", x.missed(2), 0);
        due(16, "the first is as before", x.about(0, 6), 3);
        due(16, "the first is as before", x.about(0, 4), 4);
    }

    private static void p16Refusals() {
        SieveCabinet x = ofEachKind();
        x.make(0, 128, 3, 9);
        x.make(0, 64, 4, 9);
        x.make(0, 64, 3, 8);
        for (int b = 1; b <= 7; b++) {
            due(16, "0 with " + b, x.join(0, 0, b), KIND);
            due(16, b + " with 0", x.join(1, b, 0), KIND);
        }
        due(16, "two counted ones", x.join(0, 1, 1), KIND);
        for (int n : new int[] {-1, 8, LOW, HIGH}) {
            due(16, "a " + n, x.join(0, n, 0), NONE);
            due(16, "b " + n, x.join(0, 0, n), NONE);
            due(16, "NONE ahead of KIND", x.join(0, 1, n), NONE);
        }
        for (int how : new int[] {-1, 2, LOW, HIGH}) {
            due(16, "how " + how, x.join(how, 0, 0), NONE);
            due(16, "how " + how + " ahead of KIND", x.join(how, 0, 1), NONE);
        }
        x.span(2, 0, 1, 500);
        x.putAll(0, 2);
        due(16, "1000", x.join(0, 0, 0), 8);
        x.put(0, 5);
        due(16, "1002", x.join(0, 0, 0), FULL);
        due(16, "in both, 501", x.join(1, 0, 0), 9);
        due(16, "501", x.about(9, 4), 501);
        fillUp(x);
        due(16, "the 31st", x.join(1, 0, 0), FULL);
        due(16, "KIND ahead of FULL", x.join(1, 0, 1), KIND);
        due(16, "still 30", x.sieves(), 30);
    }

    private static void p17Fold() {
        SieveCabinet x = ofEachKind();
        x.make(0, 16, 3, 7);
        long t = Crafted.ofMarks(1, 7, 7);
        x.put(5, t);
        x.put(5, t);
        due(17, "fold", x.fold(5), 6);
        for (int i = 0; i < 8; i++) due(17, "bit " + i, x.cell(6, i), i == 0 || i == 1 || i == 7 ? 1 : 0);
        int[] about = {0, 8, 3, 7, 2, 8, 3};
        for (int what = 0; what < 7; what++) due(17, "about " + what, x.about(6, what), about[what]);
        due(17, "it is let through", x.lets(6, t), 1);
        due(17, "the other is as before", x.cell(5, 15), 1);
        due(17, "of SIZE 8", x.fold(6), KIND);
        for (int s = 1; s < 5; s++) due(17, "kind " + s, x.fold(s), KIND);
        for (int s : new int[] {-1, 7, LOW, HIGH}) due(17, "sieve " + s, x.fold(s), NONE);
        fillUp(x);
        due(17, "the 31st", x.fold(5), FULL);
        due(17, "KIND ahead of FULL", x.fold(1), KIND);
    }

    private static void p18About() {
        SieveCabinet x = ofEachKind();
        x.put(0, 1);
        x.put(1, 1);
        x.put(2, 1);
        x.put(2, 2);
        int[][] due = {{0, 64, 3, 9, 1, 64, 3}, {1, 32, 4, -9, 1, 128, 4}, {2, 16, 0, 8, 2, 512, 2},
            {3, 60, 0, x.about(3, 3), 10, 480, x.about(3, 6)}, {4, x.about(4, 1), 3, -1, 10, x.about(4, 5), 0}};
        for (int s = 0; s < 5; s++) {
            for (int what = 0; what < 7; what++) due(18, "about(" + s + ", " + what + ")", x.about(s, what), due[s][what]);
            for (int what : new int[] {-1, 7, LOW, HIGH}) due(18, "what " + what, x.about(s, what), NONE);
        }
        int weight = 0;
        for (int i = 0; i < x.about(4, 1); i++) weight += x.layer(4, i, 0);
        due(18, "WEIGHT of layers", x.about(4, 5), weight + 64 * x.about(4, 6));
        int above = 0;
        for (int i = 0; i < 60; i++) above += x.cell(3, i) > 0 ? 1 : 0;
        due(18, "numbers above 0", x.about(3, 6), above);
        for (int s : new int[] {-1, 5, LOW, HIGH}) due(18, "sieve " + s, x.about(s, 0), NONE);
    }

    private static void p19Cell() {
        SieveCabinet x = ofEachKind();
        int[] places = {64, 32, 64, 60};
        for (int s = 0; s < 4; s++) {
            due(19, "the last of " + s, Math.min(0, x.cell(s, places[s] - 1)), 0);
            for (int i : new int[] {-1, places[s], LOW, HIGH}) due(19, "cell(" + s + ", " + i + ")", x.cell(s, i), NONE);
        }
        x.put(2, Crafted.ofNest(200, 15, 8));
        x.put(2, Crafted.ofNest(255, 15, 8));
        due(19, "place 0 of nest 15", x.cell(2, 60), 200);
        due(19, "place 1 of nest 15", x.cell(2, 61), 255);
        due(19, "place 2 of nest 15", x.cell(2, 62), 0);
        due(19, "layered", x.cell(4, 0), KIND);
        // No word puts the place behind KIND here, and SIZE of a LAYERED one is how many layers it has.
        due(19, "layered, no such place", x.cell(4, x.about(4, 1)), NONE);
        due(19, "layered, below 0", x.cell(4, -1), NONE);
        for (int s : new int[] {-1, 5, LOW, HIGH}) due(19, "sieve " + s, x.cell(s, 0), NONE);
    }

    private static void p20Layer() {
        SieveCabinet x = ofEachKind();
        due(20, "SIZE, 10 things", x.layer(4, 0, 0), 128);
        due(20, "how many came", x.layer(4, 0, 1), 10);
        x.make(0, 128, 3, -1);
        x.putAll(5, 0);
        due(20, "bits", x.layer(4, 0, 2), x.about(5, 6));
        for (int i : new int[] {-1, x.about(4, 1), 20, LOW, HIGH}) due(20, "layer " + i, x.layer(4, i, 0), NONE);
        for (int what : new int[] {-1, 3, LOW, HIGH}) {
            due(20, "what " + what, x.layer(4, 0, what), NONE);
            due(20, "what " + what + " ahead of KIND", x.layer(0, 0, what), NONE);
        }
        for (int s = 0; s < 4; s++) {
            due(20, "kind " + s, x.layer(s, 0, 0), KIND);
            due(20, "KIND ahead of the layer", x.layer(s, -1, 0), KIND);
        }
        for (int s : new int[] {-1, 6, LOW, HIGH}) due(20, "sieve " + s, x.layer(s, 0, 0), NONE);
        int[][] sizes = {{1, 8}, {2, 16}, {3, 32}, {4, 32}, {5, 64}, {512, 4096}, {513, 4096}, {1000, 4096}, {256, 2048}};
        for (int[] size : sizes) {
            SieveCabinet y = new SieveCabinet();
            y.span(0, 0, 1, size[0]);
            y.layered(0, 0, 0);
            due(20, "SIZE for " + size[0], y.layer(0, 0, 0), size[1]);
        }
    }

    private static void p21Mark() {
        SieveCabinet x = ofEachKind();
        long t = Crafted.ofMarks(70, 10, 9);
        for (int j = 0; j < 3; j++) due(21, "marked " + j, x.mark(0, t, j), (70 + 11 * j) % 64);
        long u = Crafted.ofMix(-1L, -9);
        for (int j = 0; j < 4; j++) due(21, "counted " + j, x.mark(1, u, j), 31 - j);
        long v = Crafted.ofNest(3, 33, 8);
        due(21, "first nest", x.mark(2, v, 0), 1);
        due(21, "second nest", x.mark(2, v, 1), 1 ^ (int) ((3 * 2654435761L / 256) % 16));
        due(21, "nest of the greatest MIX", x.mark(2, Crafted.ofMix(-1L, 8), 0), 15);
        long w = Crafted.ofPlaces(15, 0xFFFFF, 21, 40, x.about(3, 3));
        due(21, "place 0", x.mark(3, w, 0), 0xFFFFF % 20);
        due(21, "place 1", x.mark(3, w, 1), 20 + 1);
        due(21, "place 2", x.mark(3, w, 2), 40);
        int[] over = {3, 4, 2, 3};
        for (int s = 0; s < 4; s++) {
            for (int j : new int[] {-1, over[s], LOW, HIGH}) due(21, "mark(" + s + ", .., " + j + ")", x.mark(s, 1, j), NONE);
        }
        due(21, "layered", x.mark(4, 1, 0), KIND);
        due(21, "KIND ahead of j", x.mark(4, 1, -1), KIND);
        for (int s : new int[] {-1, 5, LOW, HIGH}) due(21, "sieve " + s, x.mark(s, 1, 0), NONE);
    }

    private static void p22Fewest() {
        SieveCabinet x = new SieveCabinet();
        x.span(0, 1, 7, 60);
        x.span(1, 0, 1, 500);
        due(22, "up to 256", x.fewest(0, 1, 256, 7), 16 * 256 + 2);
        due(22, "up to 511", x.fewest(0, 1, 257, 7), 16 * 256 + 2);
        due(22, "up to 4096", x.fewest(0, 1, 4096, 7), 16 * 2048 + 3);
        due(22, "no rivals", x.fewest(0, 0, 4096, 7), 16 * 8 + 1);
        due(22, "nothing in", x.fewest(7, 1, 4096, 7), 16 * 8 + 1);
        due(22, "of nothing", x.fewest(0, 7, 4096, 7), 16 * 8 + 1);
        // By 1 mark in 8 bits the rival looks the same, by 2 it does not.
        x.span(2, Crafted.ofMarks(3, 1, 5), 0, 1);
        x.span(3, Crafted.ofMarks(11, 3, 5), 0, 1);
        due(22, "two marks", x.fewest(2, 3, 8, 5), 16 * 8 + 2);
        due(22, "the least SIZE first", x.fewest(2, 3, 4096, 5), 16 * 8 + 2);
        x.span(4, Crafted.ofMarks(16 + 3, 16 + 1, 5), 0, 1);
        due(22, "alike up to 16: the least of all", x.fewest(2, 4, 31, 5), 16 * 8 + 1);
        due(22, "32 tells them apart", x.fewest(2, 4, 32, 5), 16 * 32 + 1);
        for (int most : new int[] {7, 0, -1, 4097, LOW, HIGH}) due(22, "most " + most, x.fewest(0, 1, most, 7), NONE);
        for (int w : new int[] {-1, 8, LOW, HIGH}) {
            due(22, "in " + w, x.fewest(w, 1, 64, 7), NONE);
            due(22, "all " + w, x.fewest(0, w, 64, 7), NONE);
        }
        fillUp(x);
        due(22, "with 30 sieves", x.fewest(0, 1, 256, 7), 16 * 256 + 2);
        due(22, "it makes none", x.sieves(), 30);
    }

    private static void p23p24Remove() {
        SieveCabinet x = new SieveCabinet();
        due(23, "none", x.remove(), NONE);
        due(24, "none", x.sieves(), 0);
        fillUp(x);
        due(24, "30", x.sieves(), 30);
        due(23, "one of 30", x.remove(), 29);
        due(23, "it is gone", x.lets(29, 0), NONE);
        due(23, "room again", x.make(1, 16, 1, 0), 29);
        due(23, "another kind", x.about(29, 0), 1);
        for (int i = 29; i >= 0; i--) {
            due(23, "down to " + i, x.remove(), i);
            due(24, "down to " + i, x.sieves(), i);
        }
        due(23, "none is left", x.remove(), NONE);
        due(24, "none is left", x.sieves(), 0);
        due(23, "from 0 again", x.make(2, 1, 0, 0), 0);
    }

    public static void main(String[] args) {
        p1NewObject();
        p2Span();
        p3Take();
        p4p5Things();
        p6Make();
        p6CleanSlot();
        p7Solve();
        p7Crowded();
        p8Layered();
        p8Two(0);
        p8Two(-1);
        p8OddRest();
        p9Put();
        p9Counted();
        p9Nested();
        p9LastRound();
        p9Full();
        p9FullAheadOfCrowded();
        p10PutAll();
        p11DropCounted();
        p11DropNested();
        p12Lets();
        p13p14Falses();
        p15Missed();
        p16Join();
        p16Refusals();
        p17Fold();
        p18About();
        p19Cell();
        p20Layer();
        p21Mark();
        p22Fewest();
        p23p24Remove();
        System.out.println(wrong == 0 ? "all promises hold" : wrong + " answers are not as due");
        if (wrong != 0) System.exit(1);
    }
}
