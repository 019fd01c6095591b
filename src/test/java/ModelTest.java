import java.util.Random;

/** Long runs of calls, drawn from fixed seeds, against the document's plainest form. */
public final class ModelTest {
    private static final String[] CALLS = {"span", "take", "things", "thing", "make", "solve", "layered", "put",
        "putAll", "drop", "lets", "falses", "falseOne", "missed", "join", "fold", "about", "cell", "layer", "mark",
        "fewest", "remove", "sieves"};

    private final Random random;
    private final boolean big;
    private final SieveCabinet cabinet = new SieveCabinet();
    private final PlainCabinet plain = new PlainCabinet();
    private long got, want;

    private ModelTest(long seed, boolean big) {
        random = new Random(seed);
        this.big = big;
    }

    private int upTo(int most) { return random.nextInt(most + 1); }

    private int odd() {
        int[] odd = {-1, -2, Integer.MIN_VALUE, Integer.MAX_VALUE, 8, 9, 30, 31, 1000, 1001, 4096, 4097};
        return odd[random.nextInt(odd.length)];
    }

    private boolean seldom() { return random.nextInt(40) == 0; }

    private int world() { return seldom() ? odd() : upTo(7); }

    private int sieve() { return seldom() ? odd() : upTo(Math.max(0, plain.sieves() - (seldom() ? 0 : 1))); }

    private int seed() {
        if (seldom()) return random.nextInt();
        return seldom() ? Integer.MAX_VALUE - upTo(3) : upTo(2);
    }

    private long thing() {
        if (seldom()) return random.nextLong();
        if (seldom()) return random.nextBoolean() ? Long.MAX_VALUE - upTo(2) : Long.MIN_VALUE + upTo(2);
        if (plain.sieves() > 0 && random.nextInt(3) == 0) {
            PlainCabinet.Sieve v = plain.sieves.get(upTo(plain.sieves() - 1));
            if (!v.contents.isEmpty()) return v.contents.get(upTo(v.contents.size() - 1));
        }
        return upTo(big ? 2000 : 60) - 10;
    }

    private int size(int kind) {
        if (seldom()) return odd();
        return kind == 2 ? 1 << upTo(big ? 8 : 3) : 1 << (3 + upTo(big ? 9 : 3));
    }

    private void span() {
        int w = world();
        long first = thing();
        int step = seldom() ? random.nextInt() : upTo(6) - 2;
        int n = seldom() ? odd() : 1 + upTo(big ? 400 : 30);
        got = cabinet.span(w, first, step, n);
        want = plain.span(w, first, step, n);
    }

    private void make() {
        int kind = seldom() ? odd() : upTo(2), size = size(kind), seed = seed();
        int marks = seldom() ? odd() : upTo(9);
        got = cabinet.make(kind, size, marks, seed);
        want = plain.make(kind, size, marks, seed);
    }

    private void join() {
        int how = seldom() ? odd() : upTo(1), a = sieve(), b = sieve();
        for (int i = 0; i < 20 && cabinet.about(a, 1) != cabinet.about(b, 1); i++) b = sieve();
        got = cabinet.join(how, a, b);
        want = plain.join(how, a, b);
    }

    private void fewest() {
        int in = world(), all = world(), most = seldom() ? odd() : upTo(big ? 5000 : 200), seed = seed();
        got = cabinet.fewest(in, all, most, seed);
        want = plain.fewest(in, all, most, seed);
    }

    private void other(String call) {
        int s = sieve(), w = world(), v = world(), i = seldom() ? odd() : upTo(9) - 1, seed = seed();
        long t = thing();
        int far = random.nextInt(3) == 0 ? upTo(4200) : upTo(40) - 1;
        switch (call) {
            case "take": got = cabinet.take(w, t); want = plain.take(w, t); break;
            case "things": got = cabinet.things(w); want = plain.things(w); break;
            case "thing": got = cabinet.thing(w, far); want = plain.thing(w, far); break;
            case "solve": got = cabinet.solve(w, seed); want = plain.solve(w, seed); break;
            case "layered": got = cabinet.layered(w, v, seed); want = plain.layered(w, v, seed); break;
            case "put": got = cabinet.put(s, t); want = plain.put(s, t); break;
            case "putAll": got = cabinet.putAll(s, w); want = plain.putAll(s, w); break;
            case "drop": got = cabinet.drop(s, t); want = plain.drop(s, t); break;
            case "lets": got = cabinet.lets(s, t); want = plain.lets(s, t); break;
            case "falses": got = cabinet.falses(s, w); want = plain.falses(s, w); break;
            case "falseOne": got = cabinet.falseOne(s, w, i); want = plain.falseOne(s, w, i); break;
            case "missed": got = cabinet.missed(s); want = plain.missed(s); break;
            case "fold": got = cabinet.fold(s); want = plain.fold(s); break;
            case "about": got = cabinet.about(s, i); want = plain.about(s, i); break;
            case "cell": got = cabinet.cell(s, far); want = plain.cell(s, far); break;
            case "layer": got = cabinet.layer(s, i, upToThree(seed)); want = plain.layer(s, i, upToThree(seed)); break;
            case "mark": got = cabinet.mark(s, t, i); want = plain.mark(s, t, i); break;
            case "remove": got = cabinet.remove(); want = plain.remove(); break;
            default: got = cabinet.sieves(); want = plain.sieves();
        }
    }

    private static int upToThree(int seed) { return seed < 0 ? -1 : Math.min(3, seed); }

    private void call(String call) {
        switch (call) {
            case "span": span(); break;
            case "make": make(); break;
            case "join": join(); break;
            case "fewest": fewest(); break;
            default: other(call);
        }
    }

    /** What is inside is looked at as a whole now and then, so that a hidden change is seen early. */
    private boolean sameInside() {
        for (int s = 0; s < plain.sieves(); s++) {
            for (int what = 0; what < 7; what++) {
                if (cabinet.about(s, what) != plain.about(s, what)) return false;
            }
            for (int i = -1; i <= 4096; i++) {
                if (cabinet.cell(s, i) != plain.cell(s, i)) return false;
            }
            for (int i = -1; i <= 20; i++) {
                for (int what = 0; what < 3; what++) {
                    if (cabinet.layer(s, i, what) != plain.layer(s, i, what)) return false;
                }
            }
            if (cabinet.missed(s) != plain.missed(s)) return false;
        }
        for (int w = 0; w < 8; w++) {
            for (int i = -1; i <= plain.things(w); i++) {
                if (cabinet.thing(w, i) != plain.thing(w, i)) return false;
            }
        }
        return true;
    }

    private boolean isAsDue(int run) {
        for (int n = 1; n <= 512; n++) {
            String call = CALLS[random.nextInt(CALLS.length)];
            if (call.equals("remove") && random.nextInt(3) > 0) call = "put";
            call(call);
            if (got != want) {
                System.out.println("run " + run + ", call " + n + ", " + call + " answered " + got + ", due is " + want);
                return false;
            }
            if (n % 128 == 0 && !sameInside()) {
                System.out.println("run " + run + ": inside it is not as due by call " + n);
                return false;
            }
        }
        return true;
    }

    public static void main(String[] args) {
        int wrong = 0;
        int runs = args.length > 0 ? Integer.parseInt(args[0]) : 300;
        for (int run = 0; run < runs; run++) {
            if (!new ModelTest(run, run % 10 == 9).isAsDue(run)) wrong++;
        }
        System.out.println(runs + " runs, " + wrong + " wrong");
        if (wrong != 0) System.exit(1);
    }
}
