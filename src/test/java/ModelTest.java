import java.util.ArrayList;
import java.util.List;
import java.util.Random;

/**
 * Long runs of calls, drawn from fixed seeds, against the document's plainest form. No object is used
 * for more than 512 calls, as the document leaves free what later ones answer.
 */
public final class ModelTest {
    private static final String[] CALLS = {"span", "take", "things", "thing", "make", "solve", "layered", "put",
        "putAll", "drop", "lets", "falses", "falseOne", "missed", "join", "fold", "about", "cell", "layer", "mark",
        "fewest", "remove", "sieves"};

    private static final int MOST_CALLS = 512;

    private interface Call { long on(SieveCabinet x); }

    private final Random random;
    private final boolean big;
    private final List<Call> calls = new ArrayList<>();
    private final SieveCabinet cabinet = new SieveCabinet();
    private final PlainCabinet plain = new PlainCabinet();
    private long got, want;

    private ModelTest(long seed, boolean big) {
        random = new Random(seed);
        this.big = big;
    }

    private void ask(Call call, long due) {
        calls.add(call);
        got = call.on(cabinet);
        want = due;
    }

    private int upTo(int most) { return random.nextInt(most + 1); }

    private int odd() {
        int[] odd = {-1, -2, Integer.MIN_VALUE, Integer.MAX_VALUE, 8, 9, 30, 31, 1000, 1001, 4096, 4097};
        return odd[random.nextInt(odd.length)];
    }

    private boolean seldom() { return random.nextInt(40) == 0; }

    private int world() { return seldom() ? odd() : upTo(7); }

    private int sieve() { return seldom() ? odd() : upTo(Math.max(0, plain.sieves() - (seldom() ? 0 : 1))); }

    private int seed() {
        if (seldom()) return random.nextInt();
        return seldom() ? Integer.MAX_VALUE - upTo(3) : upTo(2);
    }

    private long thing() {
        if (seldom()) return random.nextLong();
        if (seldom()) return random.nextBoolean() ? Long.MAX_VALUE - upTo(2) : Long.MIN_VALUE + upTo(2);
        if (plain.sieves() > 0 && random.nextInt(3) == 0) {
            PlainCabinet.Sieve v = plain.sieves.get(upTo(plain.sieves() - 1));
            if (!v.contents.isEmpty()) return v.contents.get(upTo(v.contents.size() - 1));
        }
        return upTo(big ? 2000 : 60) - 10;
    }

    private int size(int kind) {
        if (seldom()) return odd();
        return kind == 2 ? 1 << upTo(big ? 8 : 3) : 1 << (3 + upTo(big ? 9 : 3));
    }

    private void span() {
        int w = world();
        long first = thing();
        int step = seldom() ? random.nextInt() : upTo(6) - 2;
        int n = seldom() ? odd() : 1 + upTo(big ? 400 : 30);
        ask(x -> x.span(w, first, step, n), plain.span(w, first, step, n));
    }

    private void make() {
        int kind = seldom() ? odd() : upTo(2), size = size(kind), seed = seed();
        int marks = seldom() ? odd() : upTo(9);
        ask(x -> x.make(kind, size, marks, seed), plain.make(kind, size, marks, seed));
    }

    private void join() {
        int how = seldom() ? odd() : upTo(1), a = sieve(), other = sieve();
        for (int i = 0; i < 20 && plain.about(a, 1) != plain.about(other, 1); i++) other = sieve();
        int b = other;
        ask(x -> x.join(how, a, b), plain.join(how, a, b));
    }

    private void fewest() {
        int in = world(), all = world(), most = seldom() ? odd() : upTo(big ? 5000 : 200), seed = seed();
        ask(x -> x.fewest(in, all, most, seed), plain.fewest(in, all, most, seed));
    }

    private void other(String call) {
        int s = sieve(), w = world(), v = world(), i = seldom() ? odd() : upTo(9) - 1, seed = seed();
        long t = thing();
        int far = random.nextInt(3) == 0 ? upTo(4200) : upTo(40) - 1;
        switch (call) {
            case "take": ask(x -> x.take(w, t), plain.take(w, t)); break;
            case "things": ask(x -> x.things(w), plain.things(w)); break;
            case "thing": ask(x -> x.thing(w, far), plain.thing(w, far)); break;
            case "solve": ask(x -> x.solve(w, seed), plain.solve(w, seed)); break;
            case "layered": ask(x -> x.layered(w, v, seed), plain.layered(w, v, seed)); break;
            case "put": ask(x -> x.put(s, t), plain.put(s, t)); break;
            case "putAll": ask(x -> x.putAll(s, w), plain.putAll(s, w)); break;
            case "drop": ask(x -> x.drop(s, t), plain.drop(s, t)); break;
            case "lets": ask(x -> x.lets(s, t), plain.lets(s, t)); break;
            case "falses": ask(x -> x.falses(s, w), plain.falses(s, w)); break;
            case "falseOne": ask(x -> x.falseOne(s, w, i), plain.falseOne(s, w, i)); break;
            case "missed": ask(x -> x.missed(s), plain.missed(s)); break;
            case "fold": ask(x -> x.fold(s), plain.fold(s)); break;
            case "about": ask(x -> x.about(s, i), plain.about(s, i)); break;
            case "cell": ask(x -> x.cell(s, far), plain.cell(s, far)); break;
            case "layer": ask(x -> x.layer(s, i, upToThree(seed)), plain.layer(s, i, upToThree(seed))); break;
            case "mark": ask(x -> x.mark(s, t, i), plain.mark(s, t, i)); break;
            case "remove": ask(x -> x.remove(), plain.remove()); break;
            default: ask(x -> x.sieves(), plain.sieves());
        }
    }

    private static int upToThree(int seed) { return seed < 0 ? -1 : Math.min(3, seed); }

    private void call(String call) {
        switch (call) {
            case "span": span(); break;
            case "make": make(); break;
            case "join": join(); break;
            case "fewest": fewest(); break;
            default: other(call);
        }
    }

    /** All calls up to here on a new object, and questions, drawn at random, for the calls that it has left. */
    private boolean sameInside() {
        SieveCabinet again = new SieveCabinet();
        for (Call call : calls) call.on(again);
        for (int n = calls.size(); n < MOST_CALLS; n++) {
            if (!sameAnswer(again)) return false;
        }
        return true;
    }

    private boolean sameAnswer(SieveCabinet x) {
        int s = upTo(plain.sieves()), w = upTo(7), size = Math.max(0, plain.about(s, 1));
        switch (upTo(9)) {
            case 0: case 1: case 2:
                int what = upTo(6);
                return x.about(s, what) == plain.about(s, what);
            case 3: case 4: case 5:
                int at = upTo(plain.about(s, 0) == 2 ? 4 * size : size);
                return x.cell(s, at) == plain.cell(s, at);
            case 6:
                int layer = upTo(size), fact = upTo(2);
                return x.layer(s, layer, fact) == plain.layer(s, layer, fact);
            case 7:
                return x.missed(s) == plain.missed(s);
            case 8:
                return x.falses(s, w) == plain.falses(s, w);
            default:
                int i = upTo(plain.things(w));
                return x.thing(w, i) == plain.thing(w, i);
        }
    }

    private boolean isAsDue(int run) {
        for (int n = 1; n <= MOST_CALLS; n++) {
            String call = CALLS[random.nextInt(CALLS.length)];
            if (call.equals("remove") && random.nextInt(3) > 0) call = "put";
            call(call);
            if (got != want) {
                System.out.println("run " + run + ", call " + n + ", " + call + " answered " + got + ", due is " + want);
                return false;
            }
            if (n % 64 == 0 && !sameInside()) {
                System.out.println("run " + run + ": inside it is not as due by call " + n);
                return false;
            }
        }
        return true;
    }

    public static void main(String[] args) {
        int wrong = 0;
        int runs = args.length > 0 ? Integer.parseInt(args[0]) : 300;
        for (int run = 0; run < runs; run++) {
            if (!new ModelTest(run, run % 10 == 9).isAsDue(run)) wrong++;
        }
        System.out.println(runs + " runs, " + wrong + " wrong");
        if (wrong != 0) System.exit(1);
    }
}
