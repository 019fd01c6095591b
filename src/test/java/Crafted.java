import java.math.BigInteger;

/** Things whose MIX is chosen: MIX walked backwards, so that tests can be reckoned by hand; and MIX forwards. */
final class Crafted {
    private static final long GOLD = 0x9E3779B97F4A7C15L;
    private static final BigInteger BITS_64 = BigInteger.ONE.shiftLeft(64);

    private Crafted() { }

    static long ofMix(long mix, int seed) {
        long x = unshift(mix, 31) * inverse(0x94D049BB133111EBL);
        x = unshift(x, 27) * inverse(0xBF58476D1CE4E5B9L);
        return unshift(x, 30) - seed * GOLD;
    }

    /** Marks are a, a + b, a + 2 b, .. with b's lowest bit set. */
    static long ofMarks(long a, long b, int seed) { return ofMix(b << 32 | a & 0xFFFFFFFFL, seed); }

    /** A NESTED tag 1 .. 255 and a first nest. */
    static long ofNest(int tag, int nest, int seed) { return ofMix((long) (tag - 1) << 56 | nest, seed); }

    /** Three PLACES by their 20 bits each, and the upper 4 bits; the first one's lowest 4 bits are in the tag, too. */
    static long ofPlaces(long upper, long p0, long p1, long p2, int seed) {
        return ofMix(upper << 60 | p2 << 40 | p1 << 20 | p0, seed);
    }

    /** MIX in numbers without an end, cut to 64 bits where the document says so; a long seed is one that does not wrap. */
    static BigInteger mix(long thing, long seed) {
        BigInteger x = BigInteger.valueOf(seed).multiply(new BigInteger("9E3779B97F4A7C15", 16));
        x = x.add(BigInteger.valueOf(thing)).mod(BITS_64);
        x = x.xor(x.shiftRight(30)).multiply(new BigInteger("BF58476D1CE4E5B9", 16)).mod(BITS_64);
        x = x.xor(x.shiftRight(27)).multiply(new BigInteger("94D049BB133111EB", 16)).mod(BITS_64);
        return x.xor(x.shiftRight(31));
    }

    /** The number in some bits of a MIX, without a sign. */
    static BigInteger bits(BigInteger mix, int from, int many) {
        return mix.shiftRight(from).mod(BigInteger.ONE.shiftLeft(many));
    }

    static int mark(long thing, long seed, int j, int size) {
        BigInteger mix = mix(thing, seed);
        BigInteger b = bits(mix, 32, 32).setBit(0);
        return bits(mix, 0, 32).add(b.multiply(BigInteger.valueOf(j))).mod(BigInteger.valueOf(size)).intValue();
    }

    /** Whether a layer of that SIZE, with these things in it, lets a thing through. */
    static boolean fits(long thing, long seed, int size, long... in) {
        boolean[] set = new boolean[size];
        for (long t : in) {
            for (int j = 0; j < 3; j++) set[mark(t, seed, j, size)] = true;
        }
        for (int j = 0; j < 3; j++) {
            if (!set[mark(thing, seed, j, size)]) return false;
        }
        return true;
    }

    /** Things come to a world one by one, as they are no span. */
    static void come(SieveCabinet x, int world, long... things) {
        for (long t : things) x.span(world, t, 0, 1);
    }

    private static long unshift(long y, int by) {
        long x = y;
        for (int known = by; known < 64; known += by) x = y ^ (x >>> by);
        return x;
    }

    private static long inverse(long odd) {
        long x = odd;
        for (int i = 0; i < 6; i++) x *= 2 - odd * x;
        return x;
    }
}
