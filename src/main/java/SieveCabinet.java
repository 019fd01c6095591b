import java.util.Arrays;

/**
 * A cabinet of sieves: rows of bits, counts and tags much smaller than the sets they stand for.
 *
 * All calls of a run share one room that is never swept, so every row is made once and used again:
 * the slot of a removed sieve is kept for the next one that gets its number, and no call but the
 * first of a slot makes anything.
 */
public final class SieveCabinet {
    public static final int NONE = -1, KIND = -2, CROWDED = -3, FULL = -4;

    private static final int NOT_THROUGH = -5;

    private static final int MARKED = 0, COUNTED = 1, NESTED = 2, SOLVED = 3, LAYERED = 4;

    private static final int WORLDS = 8;
    private static final int MOST_SIEVES = 30;
    private static final int MOST_THINGS = 1000;
    private static final int LEAST_SIZE = 8;
    private static final int MOST_SIZE = 4096;
    private static final int MOST_MARKS = 8;
    private static final int MOST_NESTS = 256;
    private static final int NEST_PLACES = 4;
    private static final int MOST_COUNT = 15;

    private final Bag[] worlds = new Bag[WORLDS];
    private final Sieve[] slots = new Sieve[MOST_SIEVES];
    private final Bag draft = new Bag();
    private final Bag rivals = new Bag();
    private final Bag through = new Bag();
    private final Solver solver = new Solver();
    private final Chooser chooser = new Chooser();
    private int made;

    public SieveCabinet() {
        for (int w = 0; w < WORLDS; w++) {
            worlds[w] = new Bag();
        }
    }

    public int span(int world, long first, int step, int n) {
        Bag held = worldAt(world);
        if (held == null || n < 1 || n > MOST_THINGS) {
            return NONE;
        }
        // A refused span changes nothing, so the world only changes once all have found room.
        draft.copyFrom(held);
        for (int i = 0; i < n; i++) {
            long thing = first + (long) i * step;
            if (!draft.has(thing) && !draft.insert(thing)) {
                return FULL;
            }
        }
        held.copyFrom(draft);
        return held.count();
    }

    public int take(int world, long thing) {
        Bag held = worldAt(world);
        if (held == null || !held.takeOne(thing)) {
            return NONE;
        }
        return held.count();
    }

    public int things(int world) {
        Bag held = worldAt(world);
        return held == null ? NONE : held.count();
    }

    public long thing(int world, int i) {
        Bag held = worldAt(world);
        return held == null ? 0L : held.at(i);
    }

    public int make(int kind, int size, int marks, int seed) {
        if (!isMakeable(kind, size, marks)) {
            return NONE;
        }
        Sieve sieve = nextSlot();
        if (sieve == null) {
            return FULL;
        }
        sieve.begin(kind, size, kind == NESTED ? 0 : marks, seed);
        return made++;
    }

    public int solve(int world, int seed) {
        Bag held = worldAt(world);
        if (held == null) {
            return NONE;
        }
        // CROWDED is asked ahead of FULL, so the work is done even when no number is free.
        int tries = solver.triesUntilSolved(held, seed);
        if (tries < 0) {
            return CROWDED;
        }
        Sieve sieve = nextSlot();
        if (sieve == null) {
            return FULL;
        }
        sieve.begin(SOLVED, solver.places(), 0, seed + tries);
        sieve.contents.copyFrom(held);
        solver.fill(sieve);
        return made++;
    }

    public int layered(int in, int all, int seed) {
        Bag inside = worldAt(in);
        Bag whole = worldAt(all);
        if (inside == null || whole == null) {
            return NONE;
        }
        Sieve sieve = nextSlot();
        if (sieve == null) {
            return FULL;
        }
        draft.copyFrom(inside);
        rivals.becomeWithout(whole, inside);
        sieve.beginLayered(draft, rivals, through, seed);
        sieve.contents.copyFrom(inside);
        return made++;
    }

    public int put(int s, long thing) {
        Sieve sieve = sieveAt(s);
        if (sieve == null) {
            return NONE;
        }
        return sieve.isOpen() ? sieve.enter(thing) : KIND;
    }

    public int putAll(int s, int world) {
        Sieve sieve = sieveAt(s);
        Bag held = worldAt(world);
        if (sieve == null || held == null) {
            return NONE;
        }
        if (!sieve.isOpen()) {
            return KIND;
        }
        for (int i = 0; i < held.count(); i++) {
            if (sieve.enter(held.at(i)) < 0) {
                return i;
            }
        }
        return held.count();
    }

    public int drop(int s, long thing) {
        Sieve sieve = sieveAt(s);
        if (sieve == null) {
            return NONE;
        }
        if (sieve.kind != COUNTED && sieve.kind != NESTED) {
            return KIND;
        }
        if (!sieve.passes(thing)) {
            return NOT_THROUGH;
        }
        sieve.leave(thing);
        return sieve.contents.count();
    }

    public int lets(int s, long thing) {
        Sieve sieve = sieveAt(s);
        if (sieve == null) {
            return NONE;
        }
        return sieve.passes(thing) ? 1 : 0;
    }

    public int falses(int s, int world) {
        Sieve sieve = sieveAt(s);
        Bag held = worldAt(world);
        if (sieve == null || held == null) {
            return NONE;
        }
        int found = 0;
        for (int i = 0; i < held.count(); i++) {
            if (sieve.passesFalsely(held.at(i))) {
                found++;
            }
        }
        return found;
    }

    public long falseOne(int s, int world, int i) {
        Sieve sieve = sieveAt(s);
        Bag held = worldAt(world);
        if (sieve == null || held == null || i < 0) {
            return 0L;
        }
        int ahead = i;
        for (int t = 0; t < held.count(); t++) {
            if (sieve.passesFalsely(held.at(t))) {
                if (ahead == 0) {
                    return held.at(t);
                }
                ahead--;
            }
        }
        return 0L;
    }

    public int missed(int s) {
        Sieve sieve = sieveAt(s);
        if (sieve == null) {
            return NONE;
        }
        int found = 0;
        for (int i = 0; i < sieve.contents.count(); i++) {
            if (!sieve.passes(sieve.contents.at(i))) {
                found++;
            }
        }
        return found;
    }

    public int join(int how, int a, int b) {
        Sieve one = sieveAt(a);
        Sieve two = sieveAt(b);
        if (one == null || two == null || how < 0 || how > 1) {
            return NONE;
        }
        if (!one.isMarkedLike(two)) {
            return KIND;
        }
        Sieve sieve = nextSlot();
        boolean both = how == 1;
        if (sieve == null || !both && one.contents.count() + two.contents.count() > MOST_THINGS) {
            return FULL;
        }
        sieve.begin(MARKED, one.size, one.marks, one.seed);
        sieve.joinBits(both, one, two);
        if (both) {
            sieve.contents.becomeShared(one.contents, two.contents);
        } else {
            sieve.contents.becomeTogether(one.contents, two.contents);
        }
        return made++;
    }

    public int fold(int s) {
        Sieve whole = sieveAt(s);
        if (whole == null) {
            return NONE;
        }
        if (whole.kind != MARKED || whole.size <= LEAST_SIZE) {
            return KIND;
        }
        Sieve sieve = nextSlot();
        if (sieve == null) {
            return FULL;
        }
        sieve.begin(MARKED, whole.size / 2, whole.marks, whole.seed);
        sieve.foldBits(whole);
        sieve.contents.copyFrom(whole.contents);
        return made++;
    }

    public int about(int s, int what) {
        Sieve sieve = sieveAt(s);
        if (sieve == null) {
            return NONE;
        }
        switch (what) {
            case 0:
                return sieve.kind;
            case 1:
                return sieve.size;
            case 2:
                return sieve.marks;
            case 3:
                return sieve.seed;
            case 4:
                return sieve.contents.count();
            case 5:
                return sieve.weight();
            case 6:
                return sieve.filled();
            default:
                return NONE;
        }
    }

    public int cell(int s, int i) {
        Sieve sieve = sieveAt(s);
        // The place is asked ahead of KIND, of a LAYERED one too: its SIZE is how many layers.
        if (sieve == null || i < 0 || i >= sieve.places()) {
            return NONE;
        }
        return sieve.kind == LAYERED ? KIND : sieve.cellAt(i);
    }

    public int layer(int s, int i, int what) {
        Sieve sieve = sieveAt(s);
        if (sieve == null || what < 0 || what > 2) {
            return NONE;
        }
        if (sieve.kind != LAYERED || sieve.layers == null) {
            return KIND;
        }
        return sieve.layers.fact(i, what);
    }

    public int mark(int s, long thing, int j) {
        Sieve sieve = sieveAt(s);
        if (sieve == null) {
            return NONE;
        }
        if (sieve.kind == LAYERED) {
            return KIND;
        }
        return j < 0 || j >= sieve.spots() ? NONE : sieve.spot(thing, j);
    }

    public int fewest(int in, int all, int most, int seed) {
        Bag inside = worldAt(in);
        Bag whole = worldAt(all);
        if (inside == null || whole == null || most < LEAST_SIZE || most > MOST_SIZE) {
            return NONE;
        }
        rivals.becomeWithout(whole, inside);
        chooser.begin(inside, rivals, seed);
        return chooser.choose(most);
    }

    public int remove() {
        if (made <= 0) {
            return NONE;
        }
        made--;
        return made;
    }

    public int sieves() {
        return made;
    }

    private Bag worldAt(int world) {
        return world >= 0 && world < WORLDS ? worlds[world] : null;
    }

    private Sieve sieveAt(int s) {
        return s >= 0 && s < made && s < MOST_SIEVES ? slots[s] : null;
    }

    /** Null when all numbers are taken. The caller fills the slot and then counts it as made. */
    private Sieve nextSlot() {
        if (made < 0 || made >= MOST_SIEVES) {
            return null;
        }
        if (slots[made] == null) {
            slots[made] = new Sieve();
        }
        return slots[made];
    }

    private static boolean isMakeable(int kind, int size, int marks) {
        if (kind == NESTED) {
            return isPowerOfTwo(size, 1, MOST_NESTS);
        }
        if (kind != MARKED && kind != COUNTED) {
            return false;
        }
        return isPowerOfTwo(size, LEAST_SIZE, MOST_SIZE) && marks >= 1 && marks <= MOST_MARKS;
    }

    private static boolean isPowerOfTwo(int size, int least, int most) {
        return size >= least && size <= most && (size & (size - 1)) == 0;
    }

    /** What a thing's MIX is, and what each kind of sieve reads out of it. */
    private static final class Mix {
        private static final long LOWER_32 = 0xFFFFFFFFL;
        private static final long LOWER_20 = 0xFFFFFL;

        static long of(long thing, int seed) {
            long x = thing + seed * 0x9E3779B97F4A7C15L;
            x = (x ^ (x >>> 30)) * 0xBF58476D1CE4E5B9L;
            x = (x ^ (x >>> 27)) * 0x94D049BB133111EBL;
            return x ^ (x >>> 31);
        }

        /** A SIZE is a power of two, so a mask gives the rest and nothing is divided. */
        static int markPlace(long mix, int j, int size) {
            long a = mix & LOWER_32;
            long b = (mix >>> 32) | 1L;
            return (int) ((a + j * b) & (size - 1));
        }

        static int nestTag(long mix) {
            return 1 + rest(mix >>> 56, 255);
        }

        static int firstNest(long mix, int nests) {
            return rest(mix & LOWER_32, nests);
        }

        static int otherNest(int nest, int tag, int nests) {
            return nest ^ rest((tag * 2654435761L) >>> 8, nests);
        }

        static int solvedPlace(long mix, int i, int third) {
            return i * third + rest((mix >>> (20 * i)) & LOWER_20, third);
        }

        static int solvedTag(long mix) {
            return (int) (16L * (mix >>> 60) + (mix & 15L));
        }

        /** Only numbers that are not below 0 come here, so the sign of the rest is no question. */
        private static int rest(long number, int divisor) {
            return divisor <= 0 ? 0 : (int) (number % divisor);
        }
    }

    /** At most 1000 things in rising order, each as often as it was inserted. */
    private static final class Bag {
        private final long[] row = new long[MOST_THINGS];
        private int count;

        int count() {
            return count;
        }

        long at(int i) {
            return i >= 0 && i < count ? row[i] : 0L;
        }

        boolean has(long thing) {
            int at = countBelow(thing);
            return at < count && row[at] == thing;
        }

        boolean isFull() {
            return count >= MOST_THINGS;
        }

        void empty() {
            count = 0;
        }

        boolean insert(long thing) {
            if (isFull()) {
                return false;
            }
            int at = countBelow(thing);
            System.arraycopy(row, at, row, at + 1, count - at);
            row[at] = thing;
            count++;
            return true;
        }

        boolean takeOne(long thing) {
            int at = countBelow(thing);
            if (at >= count || row[at] != thing) {
                return false;
            }
            System.arraycopy(row, at + 1, row, at, count - at - 1);
            count--;
            return true;
        }

        void copyFrom(Bag other) {
            System.arraycopy(other.row, 0, row, 0, other.count);
            count = other.count;
        }

        void becomeTogether(Bag one, Bag two) {
            copyFrom(one);
            for (int i = 0; i < two.count; i++) {
                insert(two.row[i]);
            }
        }

        void becomeShared(Bag one, Bag two) {
            empty();
            int j = 0;
            for (int i = 0; i < one.count; i++) {
                while (j < two.count && two.row[j] < one.row[i]) {
                    j++;
                }
                if (j < two.count && two.row[j] == one.row[i]) {
                    append(one.row[i]);
                    j++;
                }
            }
        }

        void becomeWithout(Bag all, Bag out) {
            empty();
            for (int i = 0; i < all.count; i++) {
                if (!out.has(all.row[i])) {
                    append(all.row[i]);
                }
            }
        }

        /** Things come here in rising order, so the order holds without a search. */
        void append(long thing) {
            if (!isFull()) {
                row[count] = thing;
                count++;
            }
        }

        /** The steps 512, 256, .. 1 reach 1023 together, which is beyond the last of 1000. */
        private int countBelow(long thing) {
            int below = 0;
            for (int step = 512; step > 0; step /= 2) {
                int last = below + step - 1;
                if (last < count && row[last] < thing) {
                    below += step;
                }
            }
            return below;
        }
    }

    /** Bits that are packed, as a LAYERED sieve has up to 20 rows of 4096. */
    private static final class BitRow {
        private final long[] words = new long[MOST_SIZE / 64];
        private int size;

        void begin(int bits) {
            size = Math.max(0, Math.min(bits, MOST_SIZE));
            Arrays.fill(words, 0L);
        }

        int size() {
            return size;
        }

        boolean has(int i) {
            return i >= 0 && i < size && (words[i / 64] >>> (i % 64) & 1L) == 1L;
        }

        void set(int i) {
            if (i >= 0 && i < size) {
                words[i / 64] |= 1L << (i % 64);
            }
        }

        void clear(int i) {
            if (i >= 0 && i < size) {
                words[i / 64] &= ~(1L << (i % 64));
            }
        }

        /** -1 if no bit is set. */
        int least() {
            for (int w = 0; w < words.length; w++) {
                if (words[w] != 0L) {
                    return 64 * w + Long.numberOfTrailingZeros(words[w]);
                }
            }
            return -1;
        }

        int total() {
            int bits = 0;
            for (int w = 0; w < words.length; w++) {
                bits += Long.bitCount(words[w]);
            }
            return bits;
        }

        void setMarks(long mix, int marks) {
            for (int j = 0; j < marks; j++) {
                set(Mix.markPlace(mix, j, size));
            }
        }

        boolean hasMarks(long mix, int marks) {
            for (int j = 0; j < marks; j++) {
                if (!has(Mix.markPlace(mix, j, size))) {
                    return false;
                }
            }
            return true;
        }
    }

    /**
     * One slot of the cabinet. Bits, counts, tags and numbers all stand in the same cells, one to a
     * cell, so that a slot can hold a sieve of any kind after another; only layers stand apart.
     */
    private static final class Sieve {
        private final int[] cells = new int[MOST_SIZE];
        private final Bag contents = new Bag();
        private Layers layers;
        private int kind;
        private int size;
        private int marks;
        private int seed;

        void begin(int newKind, int newSize, int newMarks, int newSeed) {
            kind = newKind;
            size = newSize;
            marks = newMarks;
            seed = newSeed;
            contents.empty();
            Arrays.fill(cells, 0);
        }

        void beginLayered(Bag incoming, Bag rivals, Bag through, int newSeed) {
            if (layers == null) {
                layers = new Layers();
            }
            layers.build(incoming, rivals, through, newSeed);
            begin(LAYERED, layers.count(), Layers.MARKS, newSeed);
        }

        boolean isOpen() {
            return kind == MARKED || kind == COUNTED || kind == NESTED;
        }

        boolean isMarkedLike(Sieve other) {
            return kind == MARKED && other.kind == MARKED
                    && size == other.size && marks == other.marks && seed == other.seed;
        }

        int places() {
            return kind == NESTED ? NEST_PLACES * size : size;
        }

        int cellAt(int i) {
            return i >= 0 && i < cells.length ? cells[i] : 0;
        }

        void setCell(int i, int value) {
            if (i >= 0 && i < cells.length) {
                cells[i] = value;
            }
        }

        /** How many CONTENTS there are then, or the refusal. */
        int enter(long thing) {
            if (contents.isFull()) {
                return FULL;
            }
            long mix = Mix.of(thing, seed);
            if (kind == NESTED && !Nests.enter(this, mix)) {
                return CROWDED;
            }
            if (kind != NESTED) {
                raiseMarks(mix);
            }
            contents.insert(thing);
            return contents.count();
        }

        void leave(long thing) {
            long mix = Mix.of(thing, seed);
            if (kind == NESTED) {
                setCell(Nests.find(this, mix), 0);
            } else {
                lowerMarks(mix);
            }
            contents.takeOne(thing);
        }

        boolean passes(long thing) {
            if (kind == LAYERED) {
                return layers != null && layers.passes(thing);
            }
            long mix = Mix.of(thing, seed);
            switch (kind) {
                case NESTED:
                    return Nests.find(this, mix) >= 0;
                case SOLVED:
                    return passesSolved(mix);
                default:
                    return hasMarks(mix);
            }
        }

        boolean passesFalsely(long thing) {
            return passes(thing) && !contents.has(thing);
        }

        void joinBits(boolean both, Sieve one, Sieve two) {
            for (int i = 0; i < size; i++) {
                int a = one.cellAt(i);
                int b = two.cellAt(i);
                setCell(i, both ? a & b : a | b);
            }
        }

        void foldBits(Sieve whole) {
            for (int i = 0; i < size; i++) {
                setCell(i, whole.cellAt(i) | whole.cellAt(i + size));
            }
        }

        int weight() {
            switch (kind) {
                case COUNTED:
                    return 4 * size;
                case NESTED:
                    return 32 * size;
                case SOLVED:
                    return 8 * size;
                case LAYERED:
                    return layers == null ? 0 : layers.weight();
                default:
                    return size;
            }
        }

        int filled() {
            if (kind == LAYERED) {
                return layers == null ? 0 : layers.restCount();
            }
            int above = 0;
            for (int i = 0; i < places(); i++) {
                if (cellAt(i) > 0) {
                    above++;
                }
            }
            return above;
        }

        /** How many marks, nests or PLACES a thing has. */
        int spots() {
            switch (kind) {
                case NESTED:
                    return 2;
                case SOLVED:
                    return 3;
                default:
                    return marks;
            }
        }

        int spot(long thing, int j) {
            long mix = Mix.of(thing, seed);
            switch (kind) {
                case NESTED:
                    return j == 0 ? Mix.firstNest(mix, size) : Nests.secondNest(this, mix);
                case SOLVED:
                    return Mix.solvedPlace(mix, j, size / 3);
                default:
                    return Mix.markPlace(mix, j, size);
            }
        }

        /** A bit is a count that ends at 1. */
        private void raiseMarks(long mix) {
            int most = kind == COUNTED ? MOST_COUNT : 1;
            for (int j = 0; j < marks; j++) {
                int at = Mix.markPlace(mix, j, size);
                setCell(at, Math.min(most, cellAt(at) + 1));
            }
        }

        /** A count of 15 may stand for more than 15, so it is never lowered. */
        private void lowerMarks(long mix) {
            for (int j = 0; j < marks; j++) {
                int at = Mix.markPlace(mix, j, size);
                int count = cellAt(at);
                if (count > 0 && count < MOST_COUNT) {
                    setCell(at, count - 1);
                }
            }
        }

        private boolean hasMarks(long mix) {
            for (int j = 0; j < marks; j++) {
                if (cellAt(Mix.markPlace(mix, j, size)) == 0) {
                    return false;
                }
            }
            return true;
        }

        private boolean passesSolved(long mix) {
            int together = 0;
            for (int i = 0; i < 3; i++) {
                together ^= cellAt(Mix.solvedPlace(mix, i, size / 3));
            }
            return together == Mix.solvedTag(mix);
        }
    }

    /** How tags come into, and are found in, the nests of a NESTED sieve. */
    private static final class Nests {
        private static final int ROUNDS = 200;

        static boolean enter(Sieve sieve, long mix) {
            int tag = Mix.nestTag(mix);
            int first = Mix.firstNest(mix, sieve.size);
            return settle(sieve, first, tag)
                    || settle(sieve, secondNest(sieve, mix), tag)
                    || push(sieve, first, tag);
        }

        /** The cell of the thing's tag, -1 if neither of its nests has it. */
        static int find(Sieve sieve, long mix) {
            int tag = Mix.nestTag(mix);
            int at = findIn(sieve, Mix.firstNest(mix, sieve.size), tag);
            return at >= 0 ? at : findIn(sieve, secondNest(sieve, mix), tag);
        }

        static int secondNest(Sieve sieve, long mix) {
            int first = Mix.firstNest(mix, sieve.size);
            return Mix.otherNest(first, Mix.nestTag(mix), sieve.size);
        }

        private static boolean settle(Sieve sieve, int nest, int tag) {
            int at = findIn(sieve, nest, 0);
            sieve.setCell(at, tag);
            return at >= 0;
        }

        private static int findIn(Sieve sieve, int nest, int tag) {
            for (int i = 0; i < NEST_PLACES; i++) {
                int at = NEST_PLACES * nest + i;
                if (sieve.cellAt(at) == tag) {
                    return at;
                }
            }
            return -1;
        }

        private static boolean push(Sieve sieve, int first, int tag) {
            int nest = first;
            int hand = tag;
            for (int r = 0; r < ROUNDS; r++) {
                hand = change(sieve, nest, r, hand);
                nest = Mix.otherNest(nest, hand, sieve.size);
                if (settle(sieve, nest, hand)) {
                    return true;
                }
            }
            pushBack(sieve, nest, hand);
            return false;
        }

        /** The other nest of the other nest is the nest itself, so the way back needs no record. */
        private static void pushBack(Sieve sieve, int last, int lastHand) {
            int nest = last;
            int hand = lastHand;
            for (int r = ROUNDS - 1; r >= 0; r--) {
                nest = Mix.otherNest(nest, hand, sieve.size);
                hand = change(sieve, nest, r, hand);
            }
        }

        private static int change(Sieve sieve, int nest, int round, int hand) {
            int at = NEST_PLACES * nest + round % NEST_PLACES;
            int tag = sieve.cellAt(at);
            sieve.setCell(at, hand);
            return tag;
        }
    }

    /** Finds the order in which the things of a world are taken off, and the row of a SOLVED one. */
    private static final class Solver {
        private static final int SEEDS = 50;
        private static final int MOST_PLACES = 3 * (MOST_THINGS + MOST_THINGS / 4 + 8);

        private final int[] placeOf = new int[3 * MOST_THINGS];
        private final int[] tagOf = new int[MOST_THINGS];
        private final int[] left = new int[MOST_PLACES];
        /** The numbers of the things left at a place, by exclusive or: of one alone, its number. */
        private final int[] blend = new int[MOST_PLACES];
        private final BitRow singles = new BitRow();
        private final int[] takenThing = new int[MOST_THINGS];
        private final int[] takenPlace = new int[MOST_THINGS];
        private int count;
        private int third;

        int places() {
            return 3 * third;
        }

        /** How many seeds behind the told one it is that does; -1 if none of them does. */
        int triesUntilSolved(Bag world, int seed) {
            count = world.count();
            third = count + count / 4 + 8;
            for (int tries = 0; tries < SEEDS; tries++) {
                spread(world, seed + tries);
                if (takeAllOff()) {
                    return tries;
                }
            }
            return -1;
        }

        void fill(Sieve sieve) {
            for (int i = count - 1; i >= 0; i--) {
                int thing = takenThing[i];
                int number = tagOf[thing];
                for (int k = 0; k < 3; k++) {
                    int place = placeOf[3 * thing + k];
                    number ^= place == takenPlace[i] ? 0 : sieve.cellAt(place);
                }
                sieve.setCell(takenPlace[i], number);
            }
        }

        private void spread(Bag world, int seed) {
            Arrays.fill(left, 0);
            Arrays.fill(blend, 0);
            for (int t = 0; t < count; t++) {
                long mix = Mix.of(world.at(t), seed);
                tagOf[t] = Mix.solvedTag(mix);
                for (int k = 0; k < 3; k++) {
                    int place = Mix.solvedPlace(mix, k, third);
                    placeOf[3 * t + k] = place;
                    left[place]++;
                    blend[place] ^= t;
                }
            }
            singles.begin(places());
            for (int place = 0; place < places(); place++) {
                noteIfSingle(place);
            }
        }

        private boolean takeAllOff() {
            for (int i = 0; i < count; i++) {
                int place = singles.least();
                if (place < 0) {
                    return false;
                }
                takenThing[i] = blend[place];
                takenPlace[i] = place;
                takeOff(blend[place]);
            }
            return true;
        }

        private void takeOff(int thing) {
            for (int k = 0; k < 3; k++) {
                int place = placeOf[3 * thing + k];
                left[place]--;
                blend[place] ^= thing;
                noteIfSingle(place);
            }
        }

        private void noteIfSingle(int place) {
            if (left[place] == 1) {
                singles.set(place);
            } else {
                singles.clear(place);
            }
        }
    }

    /** The layers and the REST of a LAYERED sieve. */
    private static final class Layers {
        static final int MARKS = 3;
        private static final int MOST_LAYERS = 20;
        private static final int THING_BITS = 64;

        private final BitRow[] rows = new BitRow[MOST_LAYERS];
        private final int[] came = new int[MOST_LAYERS];
        private final Bag rest = new Bag();
        private int count;
        private int seed;

        Layers() {
            for (int i = 0; i < MOST_LAYERS; i++) {
                rows[i] = new BitRow();
            }
        }

        int count() {
            return count;
        }

        int restCount() {
            return rest.count();
        }

        /** The three bags are drafts that change their parts from layer to layer. */
        void build(Bag firstIn, Bag firstRivals, Bag spare, int newSeed) {
            Bag incoming = firstIn;
            Bag rivals = firstRivals;
            Bag through = spare;
            count = 0;
            seed = newSeed;
            rest.empty();
            for (int i = 0; i < MOST_LAYERS; i++) {
                addLayer(i, incoming);
                sift(i, rivals, through);
                if (through.count() == 0) {
                    return;
                }
                if (isRestBehind(i, through.count())) {
                    rest.copyFrom(through);
                    return;
                }
                Bag free = rivals;
                rivals = incoming;
                incoming = through;
                through = free;
            }
        }

        boolean passes(long thing) {
            for (int i = 0; i < count; i++) {
                if (!passesLayer(i, thing)) {
                    return i % 2 == 1;
                }
            }
            // What the REST holds is what the last layer let through wrongly.
            return (count % 2 == 1) != rest.has(thing);
        }

        int weight() {
            int bits = THING_BITS * rest.count();
            for (int i = 0; i < count; i++) {
                bits += rows[i].size();
            }
            return bits;
        }

        int fact(int i, int what) {
            if (i < 0 || i >= count) {
                return NONE;
            }
            switch (what) {
                case 0:
                    return rows[i].size();
                case 1:
                    return came[i];
                case 2:
                    return rows[i].total();
                default:
                    return NONE;
            }
        }

        private void addLayer(int i, Bag incoming) {
            rows[i].begin(sizeFor(incoming.count()));
            for (int t = 0; t < incoming.count(); t++) {
                rows[i].setMarks(Mix.of(incoming.at(t), seed + i), MARKS);
            }
            came[i] = incoming.count();
            count = i + 1;
        }

        private void sift(int i, Bag rivals, Bag through) {
            through.empty();
            for (int t = 0; t < rivals.count(); t++) {
                if (passesLayer(i, rivals.at(t))) {
                    through.append(rivals.at(t));
                }
            }
        }

        private boolean isRestBehind(int i, int coming) {
            return i + 1 >= MOST_LAYERS || i >= 1 && coming == came[i - 1];
        }

        private boolean passesLayer(int i, long thing) {
            return rows[i].hasMarks(Mix.of(thing, seed + i), MARKS);
        }

        private static int sizeFor(int coming) {
            int size = LEAST_SIZE;
            while (size < MOST_SIZE && size < 8 * coming) {
                size *= 2;
            }
            return size;
        }
    }

    /**
     * Finds the SIZE and MARKS with the fewest FALSE things. One MIX serves all of them, and the
     * bits of k MARKS are those of k - 1 and each thing's k-th, so a row is made once for a SIZE.
     */
    private static final class Chooser {
        private final long[] inMixes = new long[MOST_THINGS];
        private final long[] rivalMixes = new long[MOST_THINGS];
        private final BitRow bits = new BitRow();
        private int inCount;
        private int rivalCount;

        void begin(Bag in, Bag rivals, int seed) {
            inCount = in.count();
            for (int t = 0; t < inCount; t++) {
                inMixes[t] = Mix.of(in.at(t), seed);
            }
            rivalCount = rivals.count();
            for (int t = 0; t < rivalCount; t++) {
                rivalMixes[t] = Mix.of(rivals.at(t), seed);
            }
        }

        /** Sizes and marks rise, so the first of several equal ones is the one that is asked for. */
        int choose(int most) {
            int fewestFalses = MOST_THINGS + 1;
            int choice = 0;
            for (int size = LEAST_SIZE; size <= most && size <= MOST_SIZE; size *= 2) {
                bits.begin(size);
                for (int marks = 1; marks <= MOST_MARKS; marks++) {
                    setMark(marks - 1, size);
                    int found = countFalses(marks, fewestFalses);
                    if (found < fewestFalses) {
                        fewestFalses = found;
                        choice = 16 * size + marks;
                    }
                    if (found == 0) {
                        return choice;
                    }
                }
            }
            return choice;
        }

        private void setMark(int j, int size) {
            for (int t = 0; t < inCount; t++) {
                bits.set(Mix.markPlace(inMixes[t], j, size));
            }
        }

        /** Counts no further than the limit, as from there on the choice stays. */
        private int countFalses(int marks, int limit) {
            int found = 0;
            for (int t = 0; t < rivalCount && found < limit; t++) {
                if (bits.hasMarks(rivalMixes[t], marks)) {
                    found++;
                }
            }
            return found;
        }
    }
}
