/** Things whose MIX is chosen: MIX walked backwards, so that tests can be reckoned by hand. */
final class Crafted {
    private static final long GOLD = 0x9E3779B97F4A7C15L;

    private Crafted() { }

    static long ofMix(long mix, int seed) {
        long x = unshift(mix, 31) * inverse(0x94D049BB133111EBL);
        x = unshift(x, 27) * inverse(0xBF58476D1CE4E5B9L);
        return unshift(x, 30) - seed * GOLD;
    }

    /** Marks are a, a + b, a + 2 b, .. with b's lowest bit set. */
    static long ofMarks(long a, long b, int seed) { return ofMix(b << 32 | a & 0xFFFFFFFFL, seed); }

    /** A NESTED tag 1 .. 255 and a first nest. */
    static long ofNest(int tag, int nest, int seed) { return ofMix((long) (tag - 1) << 56 | nest, seed); }

    /** Three PLACES by their 20 bits each, and the upper 4 bits; the first one's lowest 4 bits are in the tag, too. */
    static long ofPlaces(long upper, long p0, long p1, long p2, int seed) {
        return ofMix(upper << 60 | p2 << 40 | p1 << 20 | p0, seed);
    }

    private static long unshift(long y, int by) {
        long x = y;
        for (int known = by; known < 64; known += by) x = y ^ (x >>> by);
        return x;
    }

    private static long inverse(long odd) {
        long x = odd;
        for (int i = 0; i < 6; i++) x *= 2 - odd * x;
        return x;
    }
}
