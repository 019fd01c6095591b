import java.math.BigInteger;

/**
 * Each sentence of the document's 'Terms' that names a boundary, by itself. Its words stand ahead of
 * what is asked by them; no object is used for more than 512 calls.
 */
public final class TermsTest {
    private static final int NONE = Due.NONE, KIND = Due.KIND, CROWDED = Due.CROWDED, FULL = Due.FULL;
    private static final int LOW = Due.LOW, HIGH = Due.HIGH;
    private static final int[] FAR_OFF = {-1, LOW, HIGH};

    // ---- MIX

    private static void mixAs64Bits() {
        Due.by("x is t and s times 0x9E3779B97F4A7C15 (together, as 64 bits); .. each as 64 bits");
        long[] things = {0, 1, -1, Long.MIN_VALUE, Long.MAX_VALUE, 0x9E3779B97F4A7C15L, -0x9E3779B97F4A7C15L, 1L << 32};
        for (int seed : new int[] {0, 1, 2, -1, -2, LOW, HIGH, 1 << 16}) {
            SieveCabinet x = new SieveCabinet();
            x.make(0, 4096, 8, seed);
            x.make(2, 256, 0, seed);
            x.span(0, 5, 0, 1);
            x.solve(0, seed);
            for (long t : things) mixIn(x, t, seed);
        }
    }

    private static void mixIn(SieveCabinet x, long t, int seed) {
        BigInteger mix = Crafted.mix(t, seed);
        for (int j = 0; j < 8; j++) Due.is("mark " + j + " of " + t + " by " + seed, x.mark(0, t, j), Crafted.mark(t, seed, j, 4096));
        Due.is("first nest of " + t + " by " + seed, x.mark(1, t, 0), Crafted.bits(mix, 0, 8).intValue());
        for (int i = 0; i < 3; i++) {
            int at = Crafted.bits(mix, 20 * i, 20).mod(BigInteger.valueOf(9)).intValue();
            Due.is("PLACE " + i + " of " + t + " by " + seed, x.mark(2, t, i), 9 * i + at);
        }
    }

    /** 0 by 0 mixes to 0, the one that is known without a reckoning. */
    private static void mixOfNothing() {
        Due.by("MIX of a thing t by a seed s (an int)");
        SieveCabinet x = new SieveCabinet();
        x.make(1, 8, 8, 0);
        for (int j = 0; j < 8; j++) Due.is("mark " + j + " of 0", x.mark(0, 0, j), j);
        x.make(2, 256, 0, 0);
        x.put(1, 0);
        Due.is("tag of 0 in nest 0", x.cell(1, 0), 1);
        x.span(0, 0, 0, 1);
        Due.is("solve for 0", x.solve(0, 0), 2);
        Due.is("its number is its tag, 0", x.about(2, 6), 0);
        Due.is("it is let through", x.lets(2, 0), 1);
    }

    // ---- WORLDS

    private static void worldNumbers() {
        Due.by("WORLDS 0 .. 7");
        for (int w : new int[] {0, 7}) {
            SieveCabinet x = new SieveCabinet();
            x.make(0, 8, 1, 0);
            Due.is("span " + w, x.span(w, 4, 1, 2), 2);
            Due.is("things " + w, x.things(w), 2);
            Due.is("thing " + w, x.thing(w, 1), 5);
            Due.is("take " + w, x.take(w, 4), 1);
            Due.is("solve " + w, x.solve(w, 0), 1);
            Due.is("layered " + w, x.layered(w, w, 0), 2);
            Due.is("falses " + w, x.falses(2, w), 0);
            Due.is("putAll " + w, x.putAll(0, w), 1);
            Due.is("fewest " + w, x.fewest(w, w, 8, 0), 16 * 8 + 1);
        }
        for (int w : new int[] {-1, 8, LOW, HIGH}) noWorld(w);
    }

    private static void noWorld(int w) {
        SieveCabinet x = new SieveCabinet();
        x.make(0, 8, 1, 0);
        Due.is("span " + w, x.span(w, 4, 1, 2), NONE);
        Due.is("things " + w, x.things(w), NONE);
        Due.is("thing " + w, x.thing(w, 0), 0);
        Due.is("take " + w, x.take(w, 4), NONE);
        Due.is("solve " + w, x.solve(w, 0), NONE);
        Due.is("layered, in " + w, x.layered(w, 0, 0), NONE);
        Due.is("layered, all " + w, x.layered(0, w, 0), NONE);
        Due.is("falses " + w, x.falses(0, w), NONE);
        Due.is("falseOne " + w, x.falseOne(0, w, 0), 0);
        Due.is("putAll " + w, x.putAll(0, w), NONE);
        Due.is("fewest, in " + w, x.fewest(w, 0, 8, 0), NONE);
        Due.is("fewest, all " + w, x.fewest(0, w, 8, 0), NONE);
    }

    private static void worldIsSet() {
        Due.by("each a set of at most 1000 things, empty at first");
        SieveCabinet x = new SieveCabinet();
        for (int w = 0; w < 8; w++) Due.is("at first", x.things(w), 0);
        Due.is("999", x.span(0, 0, 1, 999), 999);
        Due.is("one that is in it", x.span(0, 998, 1, 1), 999);
        Due.is("the 1000th", x.span(0, -5, 1, 1), 1000);
        Due.is("one that is in it, of 1000", x.span(0, -5, 0, 1000), 1000);
        Due.is("the 1001st", x.span(0, 999, 1, 1), FULL);
        Due.is("it did not come", x.thing(0, 999), 998);
        Due.is("another world has its own 1000", x.span(1, 999, 1, 1000), 1000);
        Due.is("the other one is as it was", x.things(0), 1000);
    }

    private static void worldInRisingOrder() {
        Due.by("they are numbered from 0 on in rising order (as longs)");
        SieveCabinet x = new SieveCabinet();
        Crafted.come(x, 3, 0, Long.MAX_VALUE, -1, 1L << 32, Long.MIN_VALUE, 1, -1L << 32);
        long[] due = {Long.MIN_VALUE, -1L << 32, -1, 0, 1, 1L << 32, Long.MAX_VALUE};
        for (int i = 0; i < 7; i++) Due.is("thing " + i, x.thing(3, i), due[i]);
    }

    // ---- SIEVES

    private static void sieveNumbers() {
        Due.by("SIEVES have the numbers 0 .. 29, as they were made");
        SieveCabinet x = new SieveCabinet();
        x.span(0, 1, 1, 3);
        for (int s = 0; s < 30; s += 6) {
            Due.is("make marked", x.make(0, 16, 2, 0), s);
            Due.is("make counted", x.make(1, 16, 2, 0), s + 1);
            Due.is("solve", x.solve(0, 0), s + 2);
            Due.is("layered", x.layered(0, 0, 0), s + 3);
            Due.is("join", x.join(0, s, s), s + 4);
            Due.is("fold", x.fold(s), s + 5);
        }
        Due.is("the 31st, marked", x.make(0, 16, 2, 0), FULL);
        Due.is("the 31st, counted", x.make(1, 16, 2, 0), FULL);
        Due.is("the 31st, nested", x.make(2, 16, 2, 0), FULL);
        Due.is("the 31st, solved", x.solve(0, 0), FULL);
        Due.is("the 31st, layered", x.layered(0, 0, 0), FULL);
        Due.is("the 31st, joined", x.join(0, 0, 0), FULL);
        Due.is("the 31st, what both have", x.join(1, 0, 0), FULL);
        Due.is("the 31st, folded", x.fold(0), FULL);
        Due.is("still 30", x.sieves(), 30);
        x.remove();
        Due.is("29 again", x.make(1, 8, 1, 0), 29);
    }

    /** With 30 sieves 29 is the last number, with fewer it is one below how many there are. */
    private static void sievesAsked() {
        Due.by("NONE (-1): no such world or sieve");
        for (int many : new int[] {1, 2, 29, 30}) {
            SieveCabinet x = new SieveCabinet();
            for (int i = 0; i < many; i++) x.make(1, 8, 2, 0);
            Due.is("the last of " + many, x.put(many - 1, 5), 1);
            Due.is("the last of " + many, x.lets(many - 1, 5), 1);
            Due.is("the last of " + many, x.drop(many - 1, 5), 0);
            noSieve(x, many);
        }
        SieveCabinet x = new SieveCabinet();
        noSieve(x, 0);
        for (int s : FAR_OFF) noSieve(x, s);
        x.make(0, 8, 1, 0);
        for (int s : FAR_OFF) noSieve(x, s);
        x.remove();
        noSieve(x, 0);
    }

    private static void noSieve(SieveCabinet x, int s) {
        Due.is("put in " + s, x.put(s, 5), NONE);
        Due.is("putAll in " + s, x.putAll(s, 0), NONE);
        Due.is("drop of " + s, x.drop(s, 5), NONE);
        Due.is("lets of " + s, x.lets(s, 5), NONE);
        Due.is("falses of " + s, x.falses(s, 0), NONE);
        Due.is("falseOne of " + s, x.falseOne(s, 0, 0), 0);
        Due.is("missed of " + s, x.missed(s), NONE);
        Due.is("join of a " + s, x.join(0, s, 0), NONE);
        Due.is("join of b " + s, x.join(1, 0, s), NONE);
        Due.is("fold of " + s, x.fold(s), NONE);
        for (int what = 0; what < 7; what++) Due.is("about " + s, x.about(s, what), NONE);
        Due.is("cell of " + s, x.cell(s, 0), NONE);
        Due.is("layer of " + s, x.layer(s, 0, 0), NONE);
        Due.is("mark of " + s, x.mark(s, 5, 0), NONE);
    }

    private static void contentsAsOften() {
        Due.by("CONTENTS: the things that were put in and not dropped, each as often");
        SieveCabinet x = new SieveCabinet();
        x.span(0, 7, 0, 1);
        for (int kind = 0; kind < 3; kind++) {
            x.make(kind, 8, 2, 0);
            Due.is("none in kind " + kind, x.about(kind, 4), 0);
            Due.is("once in kind " + kind, x.put(kind, 7), 1);
            Due.is("twice in kind " + kind, x.put(kind, 7), 2);
            Due.is("it is in, so not FALSE", x.falses(kind, 0), 0);
        }
        for (int kind = 1; kind < 3; kind++) {
            Due.is("one of kind " + kind + " is dropped", x.drop(kind, 7), 1);
            Due.is("the other is in", x.falses(kind, 0), 0);
            Due.is("both are", x.drop(kind, 7), 0);
            Due.is("none is in", x.about(kind, 4), 0);
        }
    }

    private static void contentsAtMost() {
        Due.by("at most 1000 in all");
        SieveCabinet x = new SieveCabinet();
        x.span(0, 0, 1, 999);
        for (int kind = 0; kind < 2; kind++) {
            x.make(kind, 4096, 1, 0);
            Due.is("999 in kind " + kind, x.putAll(kind, 0), 999);
            Due.is("the 1000th, one that is in", x.put(kind, 998), 1000);
            int filled = x.about(kind, 6);
            Due.is("the 1001st, one that is in", x.put(kind, 998), FULL);
            for (long t = 5000; t < 5010; t++) Due.is("the 1001st, another", x.put(kind, t), FULL);
            Due.is("still 1000", x.about(kind, 4), 1000);
            Due.is("and as many bits or counts", x.about(kind, 6), filled);
        }
        Due.is("one is dropped", x.drop(1, 998), 999);
        Due.is("room for one", x.put(1, 5000), 1000);
        Due.is("and no more", x.put(1, 5000), FULL);
    }

    // ---- MARKED

    private static void markedSizes() {
        Due.by("MARKED (kind 0): SIZE m (8, 16, 32, .. 4096), k MARKS (1 .. 8)");
        Due.by("COUNTED (kind 1): SIZE and MARKS likewise");
        for (int kind = 0; kind < 2; kind++) {
            SieveCabinet x = new SieveCabinet();
            int made = 0;
            for (int size = 8; size <= 4096; size *= 2) Due.is("size " + size, x.make(kind, size, 1, 0), made++);
            for (int marks = 1; marks <= 8; marks++) Due.is("marks " + marks, x.make(kind, 8, marks, 0), made++);
            for (int size : new int[] {LOW, -8, -1, 0, 1, 2, 4, 7, 9, 12, 15, 17, 24, 4095, 4097, 6144, 8192, 1 << 30, HIGH}) {
                Due.is("size " + size, x.make(kind, size, 1, 0), NONE);
            }
            for (int marks : new int[] {LOW, -1, 0, 9, 16, HIGH}) Due.is("marks " + marks, x.make(kind, 8, marks, 0), NONE);
            Due.is("none of these was made", x.sieves(), made);
        }
    }

    private static void marksWithoutSign() {
        Due.by("both without a sign: mark j (0 .. k - 1) is the rest of a + j b by m");
        long top = 0xFFFFFFFFL;
        for (int size = 8; size <= 4096; size *= 2) {
            SieveCabinet x = new SieveCabinet();
            x.make(0, size, 8, 3);
            x.make(1, size, 8, 3);
            for (int j = 0; j < 8; j++) {
                long due = (top + j * top) % size;
                Due.is("a and b at their greatest", x.mark(0, Crafted.ofMarks(top, top, 3), j), due);
                Due.is("of a COUNTED one", x.mark(1, Crafted.ofMarks(top, top, 3), j), due);
                Due.is("a alone", x.mark(0, Crafted.ofMarks(1L << 31, 1, 3), j), j % size);
            }
        }
        Due.by("b the upper 32 bits, with the lowest bit set");
        SieveCabinet x = new SieveCabinet();
        x.make(0, 64, 8, 3);
        for (int j = 0; j < 8; j++) {
            Due.is("b is 0", x.mark(0, Crafted.ofMarks(0, 0, 3), j), j);
            Due.is("b is 6", x.mark(0, Crafted.ofMarks(0, 6, 3), j), 7 * j % 64);
            Due.is("b is 7", x.mark(0, Crafted.ofMarks(0, 7, 3), j), 7 * j % 64);
        }
    }

    private static void markedBits() {
        Due.by("a row of m bits, all 0 at first");
        SieveCabinet x = new SieveCabinet();
        x.make(0, 16, 3, 3);
        for (int i = 0; i < 16; i++) Due.is("bit " + i, x.cell(0, i), 0);
        Due.is("nothing is let through", x.lets(0, 1), 0);
        Due.by("put: the bits at its marks are set");
        x.put(0, Crafted.ofMarks(15, 1, 3));
        for (int i = 0; i < 16; i++) Due.is("bit " + i, x.cell(0, i), i == 15 || i < 2 ? 1 : 0);
        x.put(0, Crafted.ofMarks(15, 1, 3));
        Due.is("a bit stays 1", x.cell(0, 15), 1);
        Due.by("LETS THROUGH a thing: the bits at all its marks are set");
        Due.is("all but the last", x.lets(0, Crafted.ofMarks(0, 1, 3)), 0);
        Due.is("all but the first", x.lets(0, Crafted.ofMarks(14, 1, 3)), 0);
        x.put(0, Crafted.ofMarks(2, 1, 3));
        Due.is("all, by two things", x.lets(0, Crafted.ofMarks(0, 1, 3)), 1);
        x.make(0, 8, 8, 3);
        x.put(1, 12345);
        Due.is("8 MARKS in 8 bits are all of them", x.about(1, 6), 8);
        Due.is("so that all is let through", x.lets(1, -9), 1);
    }

    // ---- COUNTED

    private static void countedPut() {
        Due.by("put: for each mark, one behind the other, the count there is one more, but 15 stays");
        SieveCabinet x = new SieveCabinet();
        x.make(1, 8, 2, 7);
        long t = Crafted.ofMarks(7, 1, 7);
        Due.is("at first", x.cell(0, 7), 0);
        for (int i = 1; i <= 18; i++) {
            Due.is("put " + i, x.put(0, t), i);
            Due.is("the first mark by put " + i, x.cell(0, 7), Math.min(i, 15));
            Due.is("the second mark by put " + i, x.cell(0, 0), Math.min(i, 15));
        }
        x.put(0, Crafted.ofMarks(0, 1, 7));
        Due.is("one stays, the other is one more", 100 * x.cell(0, 0) + x.cell(0, 1), 1501);
        Due.by("LETS THROUGH: no count at its marks is 0");
        Due.is("15 and 1", x.lets(0, Crafted.ofMarks(0, 1, 7)), 1);
        Due.is("1 and 0", x.lets(0, Crafted.ofMarks(1, 1, 7)), 0);
        Due.is("0 and 15", x.lets(0, Crafted.ofMarks(6, 1, 7)), 0);
    }

    private static void countedDrop() {
        Due.by("drop: for each mark, one behind the other, the count there is one less, but 15 and 0 stay");
        SieveCabinet x = new SieveCabinet();
        x.make(1, 8, 1, 7);
        long t = Crafted.ofMarks(4, 1, 7);
        for (int i = 0; i < 14; i++) x.put(0, t);
        for (int i = 13; i >= 0; i--) {
            Due.is("down to " + i, x.drop(0, t), i);
            Due.is("the count", x.cell(0, 4), i);
        }
        Due.is("0 stays", x.drop(0, t), -5);
        Due.is("the count of 0", x.cell(0, 4), 0);
        for (int i = 0; i < 15; i++) x.put(0, t);
        Due.is("of 15", x.drop(0, t), 14);
        Due.is("15 stays", x.cell(0, 4), 15);
        x.make(1, 8, 2, 7);
        for (int i = 0; i < 15; i++) x.put(1, Crafted.ofMarks(0, 1, 7));
        x.put(1, Crafted.ofMarks(1, 1, 7));
        Due.is("one mark at 15, one at 1", x.drop(1, Crafted.ofMarks(1, 1, 7)), 15);
        Due.is("the one stays, the other goes", 100 * x.cell(1, 1) + x.cell(1, 2), 1500);
    }

    // ---- NESTED

    private static void nestedSizes() {
        Due.by("NESTED (kind 2): SIZE n (1, 2, 4, .. 256) nests");
        SieveCabinet x = new SieveCabinet();
        int made = 0;
        for (int size = 1; size <= 256; size *= 2) Due.is("size " + size, x.make(2, size, 1, 0), made++);
        for (int size : new int[] {LOW, -1, 0, 3, 5, 6, 7, 255, 257, 384, 512, 1 << 30, HIGH}) {
            Due.is("size " + size, x.make(2, size, 1, 0), NONE);
        }
        Due.is("none of these was made", x.sieves(), made);
    }

    private static void fourPlaces() {
        Due.by("each of four places, each empty at first or with a TAG 1 .. 255");
        SieveCabinet x = new SieveCabinet();
        x.make(2, 1, 0, 3);
        for (int i = 0; i < 4; i++) Due.is("place " + i, x.cell(0, i), 0);
        Due.is("no fifth place", x.cell(0, 4), NONE);
        Due.is("an empty place is no tag", x.about(0, 6), 0);
        for (int i = 1; i <= 4; i++) Due.is("the tag " + i, x.put(0, Crafted.ofNest(i, 0, 3)), i);
        Due.is("a fifth", x.put(0, Crafted.ofNest(5, 0, 3)), CROWDED);
        for (int i = 0; i < 4; i++) Due.is("place " + i, x.cell(0, i), i + 1);
        Due.by("TAG of a thing: 1 and the rest of its MIX's upper 8 bits (without a sign) by 255");
        long[] upper = {0, 1, 127, 128, 254, 255};
        int[] tags = {1, 2, 128, 129, 255, 1};
        x.make(2, 16, 0, 3);
        for (int i = 0; i < 6; i++) {
            x.put(1, Crafted.ofMix(upper[i] << 56 | i, 3));
            Due.is("upper bits " + upper[i], x.cell(1, 4 * i), tags[i]);
        }
    }

    private static void nestsOfThing() {
        Due.by("Its FIRST NEST: the rest of its MIX's lower 32 bits (without a sign) by n");
        SieveCabinet x = new SieveCabinet();
        for (int s = 0; s < 9; s++) {
            int n = 1 << s;
            x.make(2, n, 0, 3);
            Due.is("greatest of " + n, x.mark(s, Crafted.ofMix(0xFFFFFFFFL, 3), 0), n - 1);
            Due.is("half way of " + n, x.mark(s, Crafted.ofMix(1L << 31, 3), 0), 0);
            Due.is("the bit above the lower 32 of " + n, x.mark(s, Crafted.ofMix(1L << 32 | n - 1, 3), 0), n - 1);
            Due.is("one beyond " + n, x.mark(s, Crafted.ofMix(n, 3), 0), 0);
        }
        Due.by("The OTHER NEST of a nest and a tag: the nest, exclusive or (tag times 2654435761, as 64 bits,"
            + " moved down by 8, and of that the rest by n)");
        for (int s = 0; s < 9; s++) {
            int n = 1 << s;
            for (int tag : new int[] {1, 2, 4, 127, 128, 255}) {
                long other = (n - 1) ^ tag * 2654435761L / 256 % n;
                Due.is("tag " + tag + " of " + n, x.mark(s, Crafted.ofNest(tag, n - 1, 3), 1), other);
            }
        }
        Due.is("one nest is its own other one", x.mark(0, Crafted.ofNest(1, 0, 3), 1), 0);
        Due.is("tag 4 of two nests, too", x.mark(1, Crafted.ofNest(4, 1, 3), 1), 1);
    }

    private static void nestedFirstPlace() {
        Due.by("if the first nest has an empty place, the tag comes to the first such; else if the second one has, likewise");
        SieveCabinet x = new SieveCabinet();
        x.make(2, 2, 0, 3);
        for (int tag : new int[] {4, 5, 6, 10}) x.put(0, Crafted.ofNest(tag, 0, 3));
        for (int tag : new int[] {11, 12, 17}) x.put(0, Crafted.ofNest(tag, 1, 3));
        x.drop(0, Crafted.ofNest(5, 0, 3));
        x.drop(0, Crafted.ofNest(10, 0, 3));
        x.drop(0, Crafted.ofNest(12, 1, 3));
        x.put(0, Crafted.ofNest(1, 0, 3));
        Due.is("the first empty one of two", x.cell(0, 1), 1);
        Due.is("the second one is empty yet", x.cell(0, 3), 0);
        x.put(0, Crafted.ofNest(2, 0, 3));
        Due.is("the last empty one", x.cell(0, 3), 2);
        x.put(0, Crafted.ofNest(3, 0, 3));
        Due.is("the first empty one of the second nest", x.cell(0, 5), 3);
        Due.is("the second one there is empty yet", x.cell(0, 7), 0);
    }

    /** Of two nests 4, 5, 6, 10, 11 have their own as OTHER NEST, 1, 2, 3 the other one. */
    private static void nestedPush() {
        Due.by("the tag in hand and the tag at place r mod 4 of the nest change places,"
            + " the nest becomes the other one of it and the tag that is in hand now");
        SieveCabinet x = new SieveCabinet();
        x.make(2, 2, 0, 3);
        for (int tag : new int[] {4, 5, 6, 1}) x.put(0, Crafted.ofNest(tag, 0, 3));
        Due.is("four rounds", x.put(0, Crafted.ofNest(10, 0, 3)), 5);
        int[] due = {10, 4, 5, 6, 1, 0, 0, 0};
        for (int i = 0; i < 8; i++) Due.is("place " + i, x.cell(0, i), due[i]);
        Due.by("If it never is, put is refused (CROWDED), and all is as before");
        Due.is("200 rounds beside an empty nest", x.put(0, Crafted.ofNest(11, 0, 3)), CROWDED);
        for (int i = 0; i < 8; i++) Due.is("place " + i, x.cell(0, i), due[i]);
        Due.is("CONTENTS", x.about(0, 4), 5);
        Due.is("it is not let through", x.lets(0, Crafted.ofNest(11, 0, 3)), 0);
        Due.is("the other nest takes it", x.put(0, Crafted.ofNest(11, 1, 3)), 6);
    }

    /** Found by search: the one finds an empty place in the last round, the other would in the one behind it. */
    private static void nestedRounds() {
        Due.by("for r from 0 up to 199");
        SieveCabinet x = new SieveCabinet();
        x.make(2, 32, 0, 2);
        x.span(0, 0, 1, 128);
        Due.is("32 nests", x.putAll(0, 0), 124);
        Due.is("done when r is 199", x.put(0, 5006), 125);
        SieveCabinet y = new SieveCabinet();
        y.make(2, 256, 0, 1);
        y.span(1, 0, 1, 1000);
        Due.is("256 nests", y.putAll(0, 1), 970);
        Due.is("would be done if r were 200", y.put(0, 5249), CROWDED);
    }

    /** Its 200 rounds go through many nests, and each place that they changed must be as before. */
    private static void nestedAllAsBefore() {
        Due.by("put is refused (CROWDED), and all is as before");
        for (int from = 0; from < 1024; from += 256) {
            SieveCabinet x = crowdedNests();
            SieveCabinet y = crowdedNests();
            Due.is("the put", y.put(0, 5249), CROWDED);
            for (int i = from; i < from + 256; i++) Due.is("place " + i, y.cell(0, i), x.cell(0, i));
            Due.is("CONTENTS", y.about(0, 4), x.about(0, 4));
        }
    }

    private static SieveCabinet crowdedNests() {
        SieveCabinet x = new SieveCabinet();
        x.make(2, 256, 0, 1);
        x.span(1, 0, 1, 970);
        x.putAll(0, 1);
        return x;
    }

    private static void nestedLetsAndDrop() {
        Due.by("LETS THROUGH: its tag is at a place of its first or second nest");
        SieveCabinet x = new SieveCabinet();
        x.make(2, 4, 0, 3);
        // 2654435761 moved down by 8 is 10368889, and 1 the rest of that by 4: nests 2 and 3 belong together.
        long inFirst = Crafted.ofNest(1, 2, 3);
        int second = 3;
        for (int i = 0; i < 4; i++) x.put(0, Crafted.ofNest(5, 2, 3));
        Due.is("in neither", x.lets(0, inFirst), 0);
        x.put(0, inFirst);
        Due.is("in its second nest", x.cell(0, 4 * second), 1);
        Due.is("let through", x.lets(0, inFirst), 1);
        Due.is("a thing that has it as first one", x.lets(0, Crafted.ofNest(1, second, 3)), 1);
        Due.is("a thing with nests 0 and 1", x.lets(0, Crafted.ofNest(1, 0, 3)), 0);
        Due.is("an empty place lets nothing through", x.lets(0, Crafted.ofNest(255, 0, 3)), 0);
        Due.by("drop: the first place of the first nest with its tag is empty then; if there is none, of the second one");
        x.drop(0, Crafted.ofNest(5, 2, 3));
        x.put(0, inFirst);
        Due.is("both nests have it", 100 * x.cell(0, 8) + x.cell(0, 4 * second), 101);
        x.drop(0, inFirst);
        Due.is("of the first nest", 100 * x.cell(0, 8) + x.cell(0, 4 * second), 1);
        x.drop(0, inFirst);
        Due.is("of the second nest", 100 * x.cell(0, 8) + x.cell(0, 4 * second), 0);
        x.drop(0, Crafted.ofNest(5, 2, 3));
        Due.is("the first place that has it", x.cell(0, 9), 0);
        Due.is("and not the next", x.cell(0, 10), 5);
    }

    // ---- SOLVED

    private static void solvedThirds() {
        Due.by("c is n and a quarter of n (the rest away) and 8; a row of 3 c numbers");
        int[][] cs = {{0, 8}, {1, 9}, {3, 11}, {4, 13}, {7, 16}, {8, 18}, {999, 1256}, {1000, 1258}};
        for (int[] c : cs) {
            SieveCabinet x = new SieveCabinet();
            if (c[0] > 0) x.span(0, 100, 3, c[0]);
            Due.is("of " + c[0], x.solve(0, 1), 0);
            Due.is("SIZE of " + c[0], x.about(0, 1), 3 * c[1]);
            Due.is("the last place of " + c[0], Math.min(0, x.cell(0, 3 * c[1] - 1)), 0);
            Due.is("no place behind it", x.cell(0, 3 * c[1]), NONE);
            Due.is("missed of " + c[0], x.missed(0), 0);
        }
    }

    private static long[] pairBy(long low, int seed) {
        return new long[] {Crafted.ofMix(low | 1L << 60, seed), Crafted.ofMix(low | 9L << 60, seed)};
    }

    /** By a seed of its own each pair has the same PLACES, so that no place is one thing's alone. */
    private static SieveCabinet crowdedFor(int seeds, int seed) {
        SieveCabinet x = new SieveCabinet();
        for (int i = 0; i < seeds; i++) Crafted.come(x, 0, pairBy(0x123456789ABCDEFL + i * 1000003L, seed + i));
        return x;
    }

    private static void solvedSeeds() {
        Due.by("For each SEED, from the told one on, one more each time (as ints), up to 50");
        SieveCabinet x = crowdedFor(0, 7);
        x.span(0, 1, 1, 1);
        x.solve(0, 7);
        Due.is("the told one", x.about(0, 3), 7);
        x = crowdedFor(49, 7);
        Due.is("the 50th does", x.solve(0, 7), 0);
        Due.is("the 50th", x.about(0, 3), 56);
        Due.is("none is missed", x.missed(0), 0);
        x = crowdedFor(50, 7);
        Due.by("If no SEED does, it is refused (CROWDED)");
        Due.is("the 51st would", x.solve(0, 7), CROWDED);
        Due.is("none was made", x.sieves(), 0);
        Due.is("from the second one on", x.solve(0, 8), 0);
        Due.is("the 51st", x.about(0, 3), 57);
    }

    private static void solvedSeedsWrap() {
        Due.by("one more each time (as ints)");
        SieveCabinet x = crowdedFor(1, HIGH);
        Due.is("the greatest does not", x.solve(0, HIGH), 0);
        Due.is("the least does", x.about(0, 3), LOW);
        Due.is("none is missed", x.missed(0), 0);
        for (int i = 0; i < 2; i++) {
            long t = x.thing(0, i);
            BigInteger at = Crafted.bits(Crafted.mix(t, LOW), 20, 20).mod(BigInteger.TEN);
            Due.is("PLACE 1 of thing " + i, x.mark(0, t, 1), 10 + at.intValue());
        }
        x = crowdedFor(50, HIGH - 24);
        Due.is("25 on each side", x.solve(0, HIGH - 24), CROWDED);
    }

    private static void solvedPlaces() {
        Due.by("a thing's PLACES are i c and the rest of (its MIX moved down by 20 i, and of that the lowest 20 bits) by c");
        SieveCabinet x = new SieveCabinet();
        x.solve(0, 3);
        long[] mixes = {-1L, 0, 0xFFFFFL, 0x100000L, 0xFFFFF00000L, 0x10000000000L, 0x0FFFFF0000000000L, 1L << 60};
        for (long mix : mixes) {
            for (int i = 0; i < 3; i++) {
                long due = 8 * i + (mix >>> 20 * i) % (1 << 20) % 8;
                if (mix < 0) due = 8 * i + 7;
                Due.is("PLACE " + i + " of MIX " + mix, x.mark(0, Crafted.ofMix(mix, 3), i), due);
            }
        }
        Due.by("its TAG is its MIX's upper 4 bits and lower 4 bits: 16 times those and these");
        long[] tagged = {-1L, 0, 15, 1L << 60, 8L << 60 | 9};
        int[] tags = {255, 0, 15, 16, 8 * 16 + 9};
        for (int k = 0; k < 5; k++) {
            SieveCabinet y = new SieveCabinet();
            long t = Crafted.ofMix(tagged[k], 3);
            Crafted.come(y, 0, t);
            y.solve(0, 3);
            Due.is("the number of MIX " + tagged[k], y.cell(0, y.mark(0, t, 0)), tags[k]);
            Due.is("numbers above 0", y.about(0, 6), tags[k] > 0 ? 1 : 0);
        }
    }

    /** c is 3 + 0 + 8 = 11. What is left at each step, by places: a 0, 11, 22; b 0, 12, 22; d 1, 12, 22. */
    private static void solvedOrder() {
        Due.by("As long as there is a place that is a PLACE of just one of the things that are left:"
            + " the least such; that thing is taken off there");
        int seed = 9;
        long a = Crafted.ofPlaces(1, 0, 0, 0, seed), b = Crafted.ofPlaces(2, 11, 1, 11, seed);
        long d = Crafted.ofPlaces(4, 1, 1, 22, seed);
        SieveCabinet x = new SieveCabinet();
        Crafted.come(x, 0, a, b, d);
        x.solve(0, seed);
        Due.is("SEED", x.about(0, 3), seed);
        // d goes at 1; then 11 is a's alone; then 0 is b's. Numbers come backwards: b, a, d.
        int tagA = 16, tagB = 2 * 16 + 11, tagD = 4 * 16 + 1;
        Due.is("b's, at 0", x.cell(0, 0), tagB);
        Due.is("a's, at 11", x.cell(0, 11), tagA ^ tagB);
        Due.is("d's, at 1", x.cell(0, 1), tagD);
        Due.by("If none is left, the row is all 0");
        Due.is("the places where none was taken off", x.about(0, 6), 3);
    }

    private static void solvedContents() {
        Due.by("CONTENTS are the world");
        SieveCabinet x = new SieveCabinet();
        x.span(0, 1, 1, 5);
        x.solve(0, 0);
        Due.is("how many", x.about(0, 4), 5);
        Due.is("none is FALSE", x.falses(0, 0), 0);
        x.take(0, 3);
        Due.is("as many, if the world has fewer", x.about(0, 4), 5);
        x.span(0, 50, 1, 900);
        Due.is("as many, if it has more", x.about(0, 4), 5);
        Due.by("LETS THROUGH: its tag is the exclusive or of the numbers at its PLACES");
        x.solve(7, 4);
        Due.is("of no things: none", x.about(1, 4), 0);
        Due.is("a row of 0 lets the tag 0 through", x.lets(1, Crafted.ofPlaces(0, 16, 5, 6, 4)), 1);
        Due.is("and not 1", x.lets(1, Crafted.ofPlaces(0, 17, 5, 6, 4)), 0);
        Due.is("and not 16", x.lets(1, Crafted.ofPlaces(1, 16, 5, 6, 4)), 0);
    }

    // ---- LAYERED

    private static void layeredTwentyAndRest() {
        Due.by("Layers are numbered from 0 on, at most 20; .. or it would be the 21st, that one is no layer, but the REST");
        SieveCabinet x = new SieveCabinet();
        Crafted.come(x, 0, Deep.IN);
        Crafted.come(x, 1, Deep.RIVALS);
        Due.is("more than 20", x.layered(0, 1, Deep.SEED), 0);
        Due.is("layers", x.about(0, 1), 20);
        for (int i = 0; i < 20; i++) Due.is("into layer " + i, x.layer(0, i, 1), Deep.CAME[i]);
        Due.is("no layer 20", x.layer(0, 20, 1), NONE);
        Due.is("things in the REST", x.about(0, 6), 1);
        int weight = 64;
        for (int i = 0; i < 20; i++) weight += x.layer(0, i, 0);
        Due.is("WEIGHT", x.about(0, 5), weight);
        Due.is("in the REST", x.lets(0, Deep.IN[0]), 1);
        for (long t : Deep.IN) Due.is("in IN", x.lets(0, t), 1);
        for (long t : Deep.RIVALS) Due.is("a rival", x.lets(0, t), 0);
        Due.is("exact", x.falses(0, 1) + x.missed(0), 0);
    }

    /** One seed on, with the worlds changed, layer i is what was layer i + 1. */
    private static void layeredTwentyWithoutRest() {
        Due.by("The layers end with the one that lets through none of its RIVALS");
        SieveCabinet x = new SieveCabinet();
        Crafted.come(x, 0, Deep.IN);
        Crafted.come(x, 1, Deep.RIVALS);
        Due.is("just 20", x.layered(1, 0, Deep.SEED + 1), 0);
        Due.is("layers", x.about(0, 1), 20);
        for (int i = 0; i < 19; i++) Due.is("into layer " + i, x.layer(0, i, 1), Deep.CAME[i + 1]);
        Due.is("into layer 19", x.layer(0, 19, 1), 1);
        Due.is("no REST", x.about(0, 6), 0);
        for (long t : Deep.IN) Due.is("a rival", x.lets(0, t), 0);
        for (long t : Deep.RIVALS) Due.is("in IN", x.lets(0, t), 1);
    }

    private static void layeredInAndAll() {
        Due.by("IN and ALL (what is in IN counts as being in ALL)");
        SieveCabinet x = new SieveCabinet();
        x.span(0, 0, 5, 40);
        x.span(1, 0, 1, 200);
        x.span(2, 0, 1, 200);
        for (int i = 0; i < 40; i++) x.take(2, 5 * i);
        x.layered(0, 1, 6);
        x.layered(0, 2, 6);
        for (int what = 0; what < 7; what++) Due.is("about " + what + " with and without it", x.about(0, what), x.about(1, what));
        Due.is("RIVALS are those of ALL that are not in IN", x.falses(0, 1), 0);
        Due.is("none is missed", x.missed(0), 0);
        Due.by("CONTENTS are IN");
        Due.is("how many", x.about(1, 4), 40);
        x.take(0, 0);
        Due.is("as many, if the world has fewer", x.about(1, 4), 40);
        Due.is("what is in IN is let through", x.lets(1, 0), 1);
    }

    private static void layeredSizes() {
        Due.by("whose SIZE is the least one that is at least 8 times how many things come into it (4096, if none is)");
        int[][] sizes = {{0, 8}, {1, 8}, {2, 16}, {3, 32}, {4, 32}, {5, 64}, {8, 64}, {9, 128}, {256, 2048},
            {257, 4096}, {512, 4096}, {513, 4096}, {1000, 4096}};
        for (int[] size : sizes) {
            SieveCabinet x = new SieveCabinet();
            if (size[0] > 0) x.span(0, 0, 1, size[0]);
            x.layered(0, 0, 0);
            Due.is("SIZE for " + size[0], x.layer(0, 0, 0), size[1]);
            Due.is("how many came", x.layer(0, 0, 1), size[0]);
            Due.is("WEIGHT", x.about(0, 5), size[1]);
        }
    }

    /** One thing, and one rival that has its marks by the first seed: layer 1 is the rival's, by the second. */
    private static long rivalOf(long in, int seed, long second, boolean passes, long otherSecond) {
        for (long t = in + 1; ; t++) {
            if (Crafted.fits(t, seed, 8, in) && Crafted.fits(in, second, 8, t) == passes
                && Crafted.fits(in, otherSecond, 8, t) != passes) return t;
        }
    }

    private static void layeredSeedsWrap() {
        Due.by("layer i is a MARKED one with the told SEED and i more (as ints) and 3 MARKS");
        secondLayerBy(true, 1L + HIGH);
        secondLayerBy(false, 1L + HIGH);
        secondLayerBy(true, 0);
        secondLayerBy(false, 0);
        secondLayerBy(false, HIGH);
    }

    /** The told SEED is the greatest, so layer 1 has the least; by the wrong one the answer would be another. */
    private static void secondLayerBy(boolean passes, long wrongSeed) {
        long in = 77;
        SieveCabinet x = new SieveCabinet();
        Crafted.come(x, 0, in);
        Crafted.come(x, 1, rivalOf(in, HIGH, LOW, passes, wrongSeed));
        x.layered(0, 1, HIGH);
        Due.is("layers", x.about(0, 1), 2);
        Due.is("a REST is due if it passes by the least SEED", x.about(0, 6), passes ? 1 : 0);
        Due.is("SEED", x.about(0, 3), HIGH);
        Due.is("MARKS", x.about(0, 2), 3);
    }

    /** The first thing from there on that the layers of one or two things, and of one, let through or not, as told. */
    private static long seek(long from, int seed, long[] first, long[] second, boolean inFirst, boolean inSecond) {
        int sizeOne = first.length == 1 ? 8 : 16;
        for (long t = from; ; t++) {
            if (Crafted.fits(t, seed, sizeOne, first) == inFirst && Crafted.fits(t, seed + 1, 8, second) == inSecond) return t;
        }
    }

    private static void layeredOneLayer() {
        Due.by("The layers end with the one that lets through none of its RIVALS");
        SieveCabinet x = new SieveCabinet();
        x.span(0, 1, 1, 20);
        x.span(2, 100, 1, 50);
        Due.is("no things, no RIVALS", x.layered(7, 7, 0), 0);
        Due.is("no RIVALS", x.layered(0, 7, 0), 1);
        Due.is("RIVALS are not what is in IN", x.layered(0, 0, 0), 2);
        Due.is("nothing is let through", x.layered(7, 2, 0), 3);
        for (int s = 0; s < 4; s++) {
            Due.is("layers of " + s, x.about(s, 1), 1);
            Due.is("REST of " + s, x.about(s, 6), 0);
        }
        Due.by("without one, just if that is odd");
        Due.is("all layers let it through, one", x.lets(1, 5), 1);
        Due.is("the first layer does not", x.lets(0, 5), 0);
    }

    private static void layeredTwoLayers() {
        int seed = 12;
        long in = 1000;
        long rival = seek(in + 1, seed, new long[] {in}, new long[] {in}, true, false);
        SieveCabinet x = new SieveCabinet();
        Crafted.come(x, 0, in);
        Crafted.come(x, 1, rival);
        x.layered(0, 1, seed);
        Due.by("let i be the first layer that does not let a thing through; it is let through just if i is odd");
        Due.is("layers", 10 * x.about(0, 1) + x.about(0, 6), 20);
        long[] one = {in}, two = {rival};
        Due.is("layer 0", x.lets(0, seek(5000, seed, one, two, false, true)), 0);
        Due.is("layer 1", x.lets(0, seek(5000, seed, one, two, true, false)), 1);
        Due.by("without one, just if that is odd");
        Due.is("all of two layers do", x.lets(0, seek(5000, seed, one, two, true, true)), 0);
    }

    private static void layeredThreeLayers() {
        int seed = -2;
        long a = 3, b = 4;
        for (boolean ends : new boolean[] {true, false}) {
            long t = 5;
            while (!Crafted.fits(t, seed, 16, a, b) || !Crafted.fits(a, seed + 1, 8, t)
                || Crafted.fits(b, seed + 1, 8, t) || Crafted.fits(t, seed + 2, 8, a) == ends) t++;
            SieveCabinet x = new SieveCabinet();
            Crafted.come(x, 0, a, b);
            Crafted.come(x, 1, t);
            x.layered(0, 1, seed);
            long u = 100;
            while (!passesTwo(u, seed, a, b, t) || !Crafted.fits(u, seed + 2, 8, a)) u++;
            long v = 100;
            while (!passesTwo(v, seed, a, b, t) || Crafted.fits(v, seed + 2, 8, a)) v++;
            Due.by(ends ? "without one, just if that is odd" : "or that is odd and it is not");
            Due.is("layers", x.about(0, 1), 3);
            Due.is("REST", x.about(0, 6), ends ? 0 : 1);
            Due.is("all of three layers do", x.lets(0, u), 1);
            Due.is("so do they for the one in IN", x.lets(0, a), 1);
            Due.is("the rival", x.lets(0, t), 0);
            Due.by("let i be the first layer that does not let a thing through; it is let through just if i is odd");
            Due.is("layer 2", x.lets(0, v), 0);
        }
    }

    private static boolean passesTwo(long u, int seed, long a, long b, long t) {
        return u != t && Crafted.fits(u, seed, 16, a, b) && Crafted.fits(u, seed + 1, 8, t);
    }

    private static void layeredRest() {
        Due.by("if as many come into a layer as into the one two ahead .. that one is no layer, but the REST");
        int seed = 12;
        long in = 1000;
        long rival = seek(in + 1, seed, new long[] {in}, new long[] {in}, true, true);
        SieveCabinet x = new SieveCabinet();
        Crafted.come(x, 0, in);
        Crafted.come(x, 1, rival);
        x.layered(0, 1, seed);
        Due.is("one behind one behind one: layers", x.about(0, 1), 2);
        Due.is("REST", x.about(0, 6), 1);
        Due.is("WEIGHT: 64 for each thing of the REST", x.about(0, 5), 8 + 8 + 64);
        Due.by("with a REST, just if how many layers there are is even and it is in the REST");
        Due.is("in it", x.lets(0, in), 1);
        Due.is("not in it", x.lets(0, rival), 0);
        Due.is("another that all layers let through", x.lets(0, seek(5000, seed, new long[] {in}, new long[] {rival}, true, true)), 0);
    }

    // ---- FALSE, WEIGHT

    private static void falseThings() {
        Due.by("FALSE is a thing of a world that a sieve lets through though it is not in its CONTENTS");
        SieveCabinet x = new SieveCabinet();
        x.make(1, 8, 1, 7);
        long a = Crafted.ofMarks(3, 1, 7), like = Crafted.ofMarks(11, 1, 7), unlike = Crafted.ofMarks(4, 1, 7);
        Crafted.come(x, 0, a, like, unlike);
        Due.is("none is let through", x.falses(0, 0), 0);
        x.put(0, a);
        Due.is("one is let through and not in", x.falses(0, 0), 1);
        Due.is("it is that one", x.falseOne(0, 0, 0), like);
        x.put(0, like);
        Due.is("both are in", x.falses(0, 0), 0);
        x.drop(0, a);
        Due.is("the other one then", x.falseOne(0, 0, 0), a);
        Due.is("a world without it", x.falses(0, 1), 0);
    }

    private static void weights() {
        Due.by("WEIGHT in bits: MARKED m, COUNTED 4 m, NESTED 32 n, SOLVED 24 c");
        SieveCabinet x = new SieveCabinet();
        x.make(0, 8, 1, 0);
        x.make(0, 4096, 8, 0);
        x.make(1, 8, 1, 0);
        x.make(1, 4096, 8, 0);
        x.make(2, 1, 0, 0);
        x.make(2, 256, 0, 0);
        x.solve(0, 0);
        x.span(0, 0, 1, 1000);
        x.solve(0, 0);
        int[] due = {8, 4096, 32, 16384, 32, 8192, 24 * 8, 24 * 1258};
        for (int s = 0; s < 8; s++) Due.is("WEIGHT of " + s, x.about(s, 5), due[s]);
    }

    public static void main(String[] args) {
        mixAs64Bits();
        mixOfNothing();
        worldNumbers();
        worldIsSet();
        worldInRisingOrder();
        sieveNumbers();
        sievesAsked();
        contentsAsOften();
        contentsAtMost();
        markedSizes();
        marksWithoutSign();
        markedBits();
        countedPut();
        countedDrop();
        nestedSizes();
        fourPlaces();
        nestsOfThing();
        nestedFirstPlace();
        nestedPush();
        nestedRounds();
        nestedAllAsBefore();
        nestedLetsAndDrop();
        solvedThirds();
        solvedSeeds();
        solvedSeedsWrap();
        solvedPlaces();
        solvedOrder();
        solvedContents();
        layeredTwentyAndRest();
        layeredTwentyWithoutRest();
        layeredInAndAll();
        layeredSizes();
        layeredSeedsWrap();
        layeredOneLayer();
        layeredTwoLayers();
        layeredThreeLayers();
        layeredRest();
        falseThings();
        weights();
        Due.end();
    }
}
