/**
 * Each sentence of the promises that names a boundary, by itself: the last value that is taken and the
 * first that is refused, the empty and the full case, and the order in which refusals are asked. Its
 * words stand ahead of what is asked by them; no object is used for more than 512 calls.
 */
public final class CallsTest {
    private static final int NONE = Due.NONE, KIND = Due.KIND, CROWDED = Due.CROWDED, FULL = Due.FULL;
    private static final int LOW = Due.LOW, HIGH = Due.HIGH;

    /** One sieve of each kind, numbered as its kind; world 0 has 1 .. 10, world 1 has 1 .. 100. */
    private static SieveCabinet ofEachKind() {
        SieveCabinet x = new SieveCabinet();
        x.span(0, 1, 1, 10);
        x.span(1, 1, 1, 100);
        x.make(0, 64, 3, 9);
        x.make(1, 32, 4, -9);
        x.make(2, 16, 77, 8);
        x.solve(0, 5);
        x.layered(0, 1, -1);
        return x;
    }

    private static SieveCabinet withThirty(SieveCabinet x) {
        for (int i = x.sieves(); i < 30; i++) x.make(0, 8, 1, 0);
        return x;
    }

    // ---- 1 .. 5

    private static void p1() {
        Due.by("Promise 1: No sieves, all worlds empty.");
        SieveCabinet x = new SieveCabinet();
        Due.is("sieves", x.sieves(), 0);
        for (int w = 0; w < 8; w++) Due.is("things " + w, x.things(w), 0);
        for (int w = 0; w < 8; w++) Due.is("thing 0 of " + w, x.thing(w, 0), 0);
        Due.is("remove", x.remove(), NONE);
    }

    private static void p2Numbers() {
        Due.by("Promise 2: first, first + step, .. (n, 1 .. 1000, of them ..) come to a world");
        SieveCabinet x = new SieveCabinet();
        Due.is("n 1", x.span(0, 5, 9, 1), 1);
        Due.is("the one", x.thing(0, 0), 5);
        Due.is("n 1000", x.span(1, 5, 9, 1000), 1000);
        Due.is("the last", x.thing(1, 999), 5 + 9 * 999);
        for (int n : new int[] {0, -1, 1001, LOW, HIGH}) Due.is("n " + n, x.span(2, 5, 9, n), NONE);
        Due.is("n 1001 of one thing", x.span(2, 5, 0, 1001), NONE);
        Due.is("nothing came", x.things(2), 0);
        Due.by("Promise 2: each once: how many it has");
        Due.is("step 0", x.span(3, 5, 0, 1000), 1);
        Due.is("once more", x.span(3, 5, 0, 2), 1);
        Due.is("one is in it", x.span(3, 4, 1, 3), 3);
        Due.is("downwards", x.span(3, 7, -1, 5), 5);
        Due.is("the least", x.thing(3, 0), 3);
        Due.is("the last", x.thing(3, 4), 7);
    }

    private static void p2Longs() {
        Due.by("Promise 2: .. of them, as longs");
        SieveCabinet x = new SieveCabinet();
        Due.is("over the end", x.span(0, Long.MAX_VALUE - 1, 1, 4), 4);
        long[] due = {Long.MIN_VALUE, Long.MIN_VALUE + 1, Long.MAX_VALUE - 1, Long.MAX_VALUE};
        for (int i = 0; i < 4; i++) Due.is("thing " + i, x.thing(0, i), due[i]);
        Due.is("over the other end", x.span(1, Long.MIN_VALUE, -1, 2), 2);
        Due.is("the last", x.thing(1, 1), Long.MAX_VALUE);
        Due.is("the greatest step", x.span(2, 1, HIGH, 1000), 1000);
        Due.is("beyond the ints", x.thing(2, 999), 1 + 999L * HIGH);
        Due.is("the least step", x.span(3, 1, LOW, 1000), 1000);
        Due.is("beyond the ints, downwards", x.thing(3, 0), 1 + 999L * LOW);
    }

    private static void p2Full() {
        Due.by("Promise 2: FULL: it would have more.");
        SieveCabinet x = new SieveCabinet();
        x.span(0, 0, 2, 600);
        Due.is("1001", x.span(0, 1, 2, 401), FULL);
        Due.is("1000, some of them in it", x.span(0, 0, 1, 800), 1000);
        Due.is("all are in it", x.span(0, 0, 1, 800), 1000);
        Due.is("the last one is not", x.span(0, 0, 1, 802), FULL);
        Due.is("the first one is not", x.span(0, -1, 1, 3), FULL);
        Due.is("nothing came", x.things(0), 1000);
        Due.is("not the first", x.thing(0, 0), 0);
        Due.is("not the last", x.thing(0, 800), 800);
        Due.is("NONE is asked first", x.span(0, 5000, 1, 1001), NONE);
        x.take(0, 0);
        Due.is("room for one", x.span(0, -1, 5, 1), 1000);
    }

    private static void p3() {
        Due.by("Promise 3: A thing goes from a world: how many it has. NONE: no such world, or it is not in it.");
        SieveCabinet x = new SieveCabinet();
        Due.is("of an empty world", x.take(0, 0), NONE);
        x.span(0, 0, 1, 1000);
        Due.is("the last", x.take(0, 999), 999);
        Due.is("once more", x.take(0, 999), NONE);
        Due.is("the least", x.take(0, 0), 998);
        Due.is("the next is the least", x.thing(0, 0), 1);
        Due.is("below all", x.take(0, -1), NONE);
        Due.is("above all", x.take(0, 1000), NONE);
        Due.is("as many as before", x.things(0), 998);
        Crafted.come(x, 1, Long.MIN_VALUE, Long.MAX_VALUE);
        Due.is("the greatest long", x.take(1, Long.MAX_VALUE), 1);
        Due.is("the only one", x.take(1, Long.MIN_VALUE), 0);
        Due.is("none is left", x.take(1, Long.MIN_VALUE), NONE);
        Due.is("in another world", x.take(1, 5), NONE);
    }

    private static void p4p5() {
        Due.by("Promise 4: How many things a world has. NONE.");
        SieveCabinet x = new SieveCabinet();
        x.span(0, 50, 1, 1000);
        Due.is("1000", x.things(0), 1000);
        Due.is("none", x.things(1), 0);
        Due.is("no such world", x.things(8), NONE);
        Due.by("Promise 5: Thing i of a world; 0, if there is none such.");
        Due.is("0", x.thing(0, 0), 50);
        Due.is("999", x.thing(0, 999), 1049);
        for (int i : new int[] {-1, 1000, 1001, LOW, HIGH}) Due.is("thing " + i, x.thing(0, i), 0);
        x.take(0, 1049);
        Due.is("the last one went", x.thing(0, 999), 0);
        Due.is("of an empty world", x.thing(1, 0), 0);
        for (int w : new int[] {-1, 8, LOW, HIGH}) Due.is("world " + w, x.thing(w, 0), 0);
    }

    // ---- 6 .. 8

    private static void p6() {
        Due.by("Promise 6: NESTED one (2; marks does not count)");
        SieveCabinet x = new SieveCabinet();
        int made = 0;
        for (int marks : new int[] {LOW, -1, 0, 9, HIGH}) {
            Due.is("marks " + marks, x.make(2, 1, marks, 0), made);
            Due.is("MARKS", x.about(made++, 2), 0);
        }
        Due.by("Promise 6: NONE: another kind, size or marks are not as said.");
        for (int kind : new int[] {-1, 3, 4, 5, LOW, HIGH}) Due.is("kind " + kind, x.make(kind, 8, 1, 0), NONE);
        Due.is("the SIZE of a NESTED one", x.make(0, 4, 1, 0), NONE);
        Due.is("the SIZE of a MARKED one", x.make(2, 512, 1, 0), NONE);
        Due.is("marks", x.make(1, 8, 9, 0), NONE);
        Due.is("any seed", x.make(0, 8, 1, LOW), made);
        Due.is("SEED", x.about(made, 3), LOW);
        Due.by("Promise 6: FULL.");
        withThirty(x);
        Due.is("the 31st", x.make(0, 8, 1, 0), FULL);
        Due.is("NONE is asked first: kind", x.make(3, 8, 1, 0), NONE);
        Due.is("NONE is asked first: size", x.make(0, 9, 1, 0), NONE);
        Due.is("NONE is asked first: marks", x.make(0, 8, 0, 0), NONE);
        Due.is("marks does not count, FULL does", x.make(2, 1, 0, 0), FULL);
    }

    private static void p7() {
        Due.by("Promise 7: A new SOLVED one for a world: its number. NONE, CROWDED, FULL.");
        SieveCabinet x = new SieveCabinet();
        Due.is("of an empty world", x.solve(0, HIGH), 0);
        Due.is("SEED", x.about(0, 3), HIGH);
        x.span(0, 0, 1, 1000);
        Due.is("of a full one", x.solve(0, 0), 1);
        for (int w : new int[] {-1, 8, LOW, HIGH}) Due.is("world " + w, x.solve(w, 0), NONE);
        for (int i = 0; i < 50; i++) {
            Crafted.come(x, 1, Crafted.ofMix(i | 1L << 60, i), Crafted.ofMix(i | 2L << 60, i));
        }
        Due.is("all 50 SEEDs do not", x.solve(1, 0), CROWDED);
        withThirty(x);
        Due.is("FULL", x.solve(0, 0), FULL);
        Due.is("CROWDED is asked ahead of FULL", x.solve(1, 0), CROWDED);
        Due.is("NONE is asked ahead of FULL", x.solve(8, 0), NONE);
    }

    private static void p8() {
        Due.by("Promise 8: A new LAYERED one for the worlds IN and ALL: its number. NONE, FULL.");
        SieveCabinet x = new SieveCabinet();
        Due.is("of empty worlds", x.layered(0, 0, LOW), 0);
        Due.is("SEED", x.about(0, 3), LOW);
        x.span(0, 0, 1, 1000);
        x.span(1, 500, 1, 1000);
        Due.is("of full ones", x.layered(0, 1, HIGH), 1);
        Due.is("exact", x.falses(1, 1) + x.missed(1), 0);
        for (int w : new int[] {-1, 8, LOW, HIGH}) {
            Due.is("in " + w, x.layered(w, 0, 0), NONE);
            Due.is("all " + w, x.layered(0, w, 0), NONE);
        }
        withThirty(x);
        Due.is("FULL", x.layered(0, 1, 0), FULL);
        Due.is("NONE is asked first: in", x.layered(8, 1, 0), NONE);
        Due.is("NONE is asked first: all", x.layered(0, -1, 0), NONE);
    }

    // ---- 9 .. 11

    private static void p9() {
        Due.by("Promise 9: NONE, KIND (a SOLVED or LAYERED one)");
        SieveCabinet x = ofEachKind();
        for (int s = 0; s < 3; s++) Due.is("kind " + s, x.put(s, 5), 1);
        for (int s = 3; s < 5; s++) Due.is("kind " + s, x.put(s, 5), KIND);
        for (int s : new int[] {-1, 5, LOW, HIGH}) Due.is("sieve " + s, x.put(s, 5), NONE);
        Due.by("Promise 9: FULL");
        x.span(2, 0, 1, 999);
        x.putAll(0, 2);
        Due.is("the 1001st", x.put(0, 5), FULL);
        Due.is("it is not put in", x.about(0, 4), 1000);
        Due.by("REFUSALS, the first that holds: NONE (-1) .. KIND (-2) .. CROWDED (-3) .. FULL (-4)");
        x.span(2, 999, 1, 1);
        x.solve(2, 0);
        x.layered(2, 2, 0);
        Due.is("a SOLVED one of 1000", x.put(5, 5), KIND);
        Due.is("a LAYERED one of 1000", x.put(6, 5), KIND);
    }

    /** Found by search: 1006, 1019 and 1020 are CROWDED behind 999 things, and would be so behind the 1000th. */
    private static void p9FullAheadOfCrowded() {
        Due.by("Promise 9: CROWDED, FULL (asked ahead of CROWDED)");
        SieveCabinet x = new SieveCabinet();
        x.make(2, 256, 0, 37);
        x.span(0, 0, 1, 999);
        Due.is("999", x.putAll(0, 0), 999);
        for (long t : new long[] {1006, 1019, 1020}) Due.is("behind 999", x.put(0, t), CROWDED);
        Due.is("the 1000th", x.put(0, 999), 1000);
        for (long t : new long[] {1006, 1019, 1020}) Due.is("behind 1000", x.put(0, t), FULL);
        Due.is("there are places left", x.about(0, 6), 1000);
        Due.is("the 1001st, one that is in", x.put(0, 5), FULL);
        Due.is("one is dropped", x.drop(0, 5), 999);
        Due.is("room for one", x.put(0, 5), 1000);
    }

    private static void p10Order() {
        Due.by("Promise 10: All things of a world are put in, in rising order: how many were put in");
        SieveCabinet x = new SieveCabinet();
        x.make(2, 1, 0, 3);
        long[] things = new long[4];
        for (int i = 0; i < 4; i++) things[i] = Crafted.ofNest(10 + i, 0, 3);
        Crafted.come(x, 0, things);
        Due.is("of no things", x.putAll(0, 1), 0);
        Due.is("four", x.putAll(0, 0), 4);
        java.util.Arrays.sort(things);
        for (int place = 0; place < 4; place++) {
            for (int i = 0; i < 4; i++) {
                if (Crafted.ofNest(10 + i, 0, 3) == things[place]) Due.is("place " + place, x.cell(0, place), 10 + i);
            }
        }
        x.make(0, 8, 1, 3);
        x.span(2, 0, 1, 1000);
        Due.is("a full world", x.putAll(1, 2), 1000);
    }

    private static void p10UpTo() {
        Due.by("Promise 10: up to the first that is CROWDED or FULL");
        SieveCabinet x = new SieveCabinet();
        x.make(2, 2, 0, 3);
        for (int tag : new int[] {4, 5, 6, 10}) x.put(0, Crafted.ofNest(tag, 0, 3));
        // Tag 11 has no way out of nest 0, tag 12 finds nest 1 empty; bits 32 on are free, and bring them in that order.
        long room = Crafted.ofNest(12, 1, 3), stuck = room;
        for (long free = 0; stuck >= room; free++) stuck = Crafted.ofMix(10L << 56 | free << 32, 3);
        Crafted.come(x, 0, stuck, room);
        Due.is("the first is CROWDED", x.putAll(0, 0), 0);
        Due.is("the one behind it is not put in", x.cell(0, 4), 0);
        Due.is("CONTENTS", x.about(0, 4), 4);
        x.take(0, stuck);
        Due.is("without it", x.putAll(0, 0), 1);
        x.make(0, 8, 1, 3);
        x.span(1, 0, 1, 600);
        Due.is("600", x.putAll(1, 1), 600);
        Due.is("400 up to FULL", x.putAll(1, 1), 400);
        Due.is("0 when FULL", x.putAll(1, 1), 0);
        Due.is("CONTENTS", x.about(1, 4), 1000);
        Due.is("of no things when FULL", x.putAll(1, 7), 0);
    }

    private static void p10Refused() {
        Due.by("Promise 10: NONE, KIND.");
        SieveCabinet x = ofEachKind();
        for (int s = 0; s < 3; s++) Due.is("kind " + s, x.putAll(s, 0), 10);
        for (int s = 3; s < 5; s++) Due.is("kind " + s, x.putAll(s, 0), KIND);
        for (int s = 3; s < 5; s++) Due.is("kind " + s + ", of no things", x.putAll(s, 7), KIND);
        for (int w : new int[] {-1, 8, LOW, HIGH}) {
            Due.is("world " + w, x.putAll(0, w), NONE);
            Due.is("world " + w + " is asked ahead of KIND", x.putAll(3, w), NONE);
        }
        for (int s : new int[] {-1, 5, LOW, HIGH}) Due.is("sieve " + s, x.putAll(s, 0), NONE);
    }

    private static void p11() {
        Due.by("Promise 11: NONE, KIND (neither COUNTED nor NESTED)");
        SieveCabinet x = ofEachKind();
        x.putAll(0, 0);
        for (int s : new int[] {0, 3, 4}) {
            Due.is("let through by kind " + s, x.drop(s, 5), KIND);
            Due.is("KIND is asked ahead of -5, kind " + s, x.drop(s, -5555), KIND);
        }
        for (int s : new int[] {-1, 5, LOW, HIGH}) Due.is("sieve " + s, x.drop(s, 5), NONE);
        Due.by("Promise 11: -5, and nothing changes: it is not let through");
        for (int s = 1; s < 3; s++) Due.is("an empty one of kind " + s, x.drop(s, 5), -5);
        for (int s = 1; s < 3; s++) x.put(s, 5);
        Due.is("another of COUNTED", x.drop(1, 6), -5);
        Due.is("another of NESTED", x.drop(2, 6), -5);
        for (int s = 1; s < 3; s++) {
            Due.is("CONTENTS of kind " + s, x.about(s, 4), 1);
            Due.is("counts or tags of kind " + s, x.about(s, 6), s == 1 ? 4 : 1);
            Due.is("the one of kind " + s, x.drop(s, 5), 0);
            Due.is("once more of kind " + s, x.drop(s, 5), -5);
        }
    }

    private static void p11Contents() {
        Due.by("Promise 11: how many CONTENTS are left (one of that thing goes; none, if it is not among them)");
        SieveCabinet x = new SieveCabinet();
        x.make(1, 8, 1, 3);
        x.make(2, 2, 0, 3);
        long[] in = {Crafted.ofMarks(2, 1, 3), Crafted.ofNest(9, 1, 3)};
        long[] like = {Crafted.ofMarks(10, 1, 3), Crafted.ofMix(8L << 56 | 3, 3)};
        for (int s = 0; s < 2; s++) {
            for (int i = 0; i < 3; i++) x.put(s, in[s]);
            Due.is("one of three", x.drop(s, in[s]), 2);
            Due.is("one that is not among them", x.drop(s, like[s]), 2);
            Due.is("its count or tag goes all the same", s == 0 ? x.cell(0, 2) : x.about(1, 6), 1);
            Due.is("the next one", x.drop(s, in[s]), 1);
            Due.is("is not let through any more", x.drop(s, in[s]), -5);
            Due.is("but is among them", x.about(s, 4), 1);
            Due.is("and missed", x.missed(s), 1);
        }
    }

    // ---- 12 .. 15

    private static void p12() {
        Due.by("Promise 12: 1: a thing is let through, 0: it is not. NONE.");
        SieveCabinet x = ofEachKind();
        for (int s = 0; s < 3; s++) Due.is("an empty one of kind " + s, x.lets(s, 5), 0);
        for (int s = 0; s < 3; s++) x.putAll(s, 0);
        for (int s = 0; s < 5; s++) {
            for (long t = 1; t <= 10; t++) Due.is(t + " of kind " + s, x.lets(s, t), 1);
        }
        for (long t = 11; t <= 100; t++) Due.is(t + " of the LAYERED one", x.lets(4, t), 0);
        for (int s : new int[] {-1, 5, LOW, HIGH}) Due.is("sieve " + s, x.lets(s, 5), NONE);
        for (long t : new long[] {Long.MIN_VALUE, -1, 0, Long.MAX_VALUE}) {
            for (int s = 0; s < 3; s++) x.put(s, t);
            for (int s = 0; s < 3; s++) Due.is(t + " of kind " + s, x.lets(s, t), 1);
        }
    }

    private static void p13p14() {
        SieveCabinet x = ofEachKind();
        x.make(0, 8, 8, 7);
        Due.by("Promise 13: How many things of a world are FALSE. NONE.");
        Due.is("by a row of 0", x.falses(5, 1), 0);
        x.put(5, 3);
        Due.is("by a row of 1, all but the one that is in", x.falses(5, 1), 99);
        Due.is("of no things", x.falses(5, 7), 0);
        for (int w : new int[] {-1, 8, LOW, HIGH}) Due.is("world " + w, x.falses(5, w), NONE);
        for (int s : new int[] {-1, 6, LOW, HIGH}) Due.is("sieve " + s, x.falses(s, 1), NONE);
        Due.by("Promise 14: The i-th of these, in rising order; 0, if there is none such.");
        Due.is("the first", x.falseOne(5, 1, 0), 1);
        Due.is("ahead of the one that is in", x.falseOne(5, 1, 1), 2);
        Due.is("behind it", x.falseOne(5, 1, 2), 4);
        Due.is("the last", x.falseOne(5, 1, 98), 100);
        for (int i : new int[] {99, -1, LOW, HIGH}) Due.is("the i-th for " + i, x.falseOne(5, 1, i), 0);
        Due.is("of no things", x.falseOne(5, 7, 0), 0);
        for (int w : new int[] {-1, 8, LOW, HIGH}) Due.is("world " + w, x.falseOne(5, w, 0), 0);
        for (int s : new int[] {-1, 6, LOW, HIGH}) Due.is("sieve " + s, x.falseOne(s, 1, 0), 0);
        x.span(2, 5, -7, 9);
        for (int i = 0; i < 9; i++) Due.is("the negative ones first, " + i, x.falseOne(5, 2, i), 5 - 7 * (8 - i));
    }

    private static void p15() {
        Due.by("Promise 15: How many of the CONTENTS (each as often as it is there) are not let through. NONE.");
        SieveCabinet x = new SieveCabinet();
        x.make(1, 8, 1, 7);
        Due.is("of none", x.missed(0), 0);
        long a = Crafted.ofMarks(5, 1, 7), like = Crafted.ofMarks(13, 1, 7), other = Crafted.ofMarks(6, 1, 7);
        for (int i = 0; i < 3; i++) x.put(0, a);
        x.put(0, other);
        for (int i = 0; i < 2; i++) x.drop(0, like);
        Due.is("one count is left", x.missed(0), 0);
        x.drop(0, like);
        Due.is("three times the one, the other is let through", x.missed(0), 3);
        for (int s : new int[] {-1, 1, LOW, HIGH}) Due.is("sieve " + s, x.missed(s), NONE);
        Due.by("Promise 15: (0, as long as nothing was dropped that was not in the CONTENTS.)");
        SieveCabinet y = ofEachKind();
        for (int s = 0; s < 3; s++) y.putAll(s, 1);
        for (int t = 1; t <= 60; t++) y.drop(1, t);
        for (int t = 1; t <= Math.min(60, y.about(2, 4)); t++) y.drop(2, t);
        for (int s = 0; s < 5; s++) Due.is("kind " + s, y.missed(s), 0);
        Due.is("some are left of COUNTED", Math.min(1, y.about(1, 4)), 1);
    }

    // ---- 16, 17

    private static void p16Contents() {
        SieveCabinet x = new SieveCabinet();
        for (int s = 0; s < 3; s++) x.make(0, 4096, 1, 7);
        x.span(0, 0, 1, 500);
        x.span(1, 250, 1, 500);
        x.putAll(0, 0);
        x.putAll(1, 1);
        Due.by("Promise 16: its CONTENTS are those of both together (0; FULL, if they are more than 1000)");
        Due.is("1000", x.join(0, 0, 1), 3);
        Due.is("CONTENTS", x.about(3, 4), 1000);
        Due.is("none is missed", x.missed(3), 0);
        x.put(0, 3);
        Due.is("1001", x.join(0, 0, 1), FULL);
        Due.is("1001, the other way round", x.join(0, 1, 0), FULL);
        Due.is("1000 and none", x.join(0, 3, 2), 4);
        Due.is("none and 1000", x.join(0, 2, 3), 5);
        Due.is("CONTENTS", x.about(5, 4), 1000);
        x.put(2, 9);
        Due.is("1000 and one", x.join(0, 3, 2), FULL);
        Due.is("none was made", x.sieves(), 6);
        Due.by("Promise 16: or those that are in both, each as often as in the one that has fewer of it (1)");
        Due.is("of 501 and 500", x.join(1, 0, 1), 6);
        Due.is("250 are in both", x.about(6, 4), 250);
        Due.is("of 1000 and 1000", x.join(1, 3, 5), 7);
        Due.is("all are in both", x.about(7, 4), 1000);
        Due.is("twice in the one, once in the other", x.join(1, 3, 0), 8);
        Due.is("250 .. 499 and 0 .. 249 once each", x.about(8, 4), 500);
    }

    private static void p16Fewer() {
        Due.by("Promise 16: each as often as in the one that has fewer of it (1)");
        SieveCabinet x = new SieveCabinet();
        for (int s = 0; s < 2; s++) x.make(0, 64, 2, 7);
        for (long t : new long[] {1, 1, 1, 2, 3}) x.put(0, t);
        for (long t : new long[] {0, 1, 1, 2, 2, 4}) x.put(1, t);
        Due.is("join", x.join(1, 0, 1), 2);
        Due.is("1 twice, 2 once", x.about(2, 4), 3);
        Due.is("the other way round", x.join(1, 1, 0), 3);
        Due.is("1 twice, 2 once", x.about(3, 4), 3);
        x.span(0, 0, 1, 5);
        int passed = x.lets(2, 0) + x.lets(2, 3) + x.lets(2, 4);
        Due.is("FALSE are neither 1 nor 2", x.falses(2, 0), passed);
        Due.is("1 and 2 are let through", x.missed(2), 0);
        Due.by("Promise 16: A new MARKED one that has the bits of both (how 0), or those that both have (1)");
        x.join(0, 0, 1);
        for (int i = 0; i < 64; i++) {
            int a = x.cell(0, i), b = x.cell(1, i);
            Due.is("bit " + i + " of both", x.cell(4, i), a | b);
            Due.is("bit " + i + " that both have", x.cell(2, i), a & b);
        }
        Due.is("some are in one alone", Math.min(1, x.about(4, 6) - x.about(2, 6)), 1);
        Due.is("with itself", x.join(0, 0, 0), 5);
        Due.is("twice as many", x.about(5, 4), 10);
        Due.is("with itself, in both", x.join(1, 0, 0), 6);
        Due.is("as many", x.about(6, 4), 5);
    }

    private static void p16Refused() {
        Due.by("Promise 16: NONE.");
        SieveCabinet x = ofEachKind();
        for (int how : new int[] {-1, 2, LOW, HIGH}) {
            Due.is("how " + how, x.join(how, 0, 0), NONE);
            Due.is("how " + how + " is asked ahead of KIND", x.join(how, 0, 1), NONE);
        }
        for (int s : new int[] {-1, 5, LOW, HIGH}) {
            Due.is("a " + s, x.join(0, s, 0), NONE);
            Due.is("b " + s, x.join(0, 0, s), NONE);
            Due.is("b " + s + " is asked ahead of KIND", x.join(1, 1, s), NONE);
        }
        Due.by("Promise 16: KIND: not both MARKED, of one SIZE, MARKS and SEED.");
        x.make(0, 128, 3, 9);
        x.make(0, 64, 2, 9);
        x.make(0, 64, 3, 10);
        x.make(0, 64, 3, 9);
        x.make(1, 64, 3, 9);
        for (int how = 0; how < 2; how++) {
            for (int s : new int[] {1, 2, 3, 4, 5, 6, 7, 9}) {
                Due.is("0 and " + s, x.join(how, 0, s), KIND);
                Due.is(s + " and 0", x.join(how, s, 0), KIND);
            }
            for (int s : new int[] {1, 2, 3, 4, 9}) Due.is(s + " and itself", x.join(how, s, s), KIND);
            Due.is("alike", x.join(how, 0, 8), 10 + how);
        }
        Due.by("Promise 16: FULL.");
        x.span(2, 0, 1, 600);
        x.putAll(0, 2);
        Due.is("KIND is asked ahead of FULL, 1200", x.join(0, 0, 1), KIND);
        withThirty(x);
        Due.is("the 31st", x.join(1, 0, 0), FULL);
        Due.is("NONE is asked ahead of FULL", x.join(2, 0, 0), NONE);
        Due.is("KIND is asked ahead of FULL", x.join(1, 0, 1), KIND);
    }

    private static void p17() {
        Due.by("Promise 17: bit i is set if bit i or the one half the SIZE behind it is");
        SieveCabinet x = ofEachKind();
        x.make(0, 16, 1, 7);
        for (int mark : new int[] {0, 9, 3, 11, 15}) x.put(5, Crafted.ofMarks(mark, 1, 7));
        Due.is("fold", x.fold(5), 6);
        int[] due = {1, 1, 0, 1, 0, 0, 0, 1};
        for (int i = 0; i < 8; i++) Due.is("bit " + i, x.cell(6, i), due[i]);
        Due.is("no bit 8", x.cell(6, 8), NONE);
        Due.by("Promise 17: of half the SIZE, like it else .. the same CONTENTS");
        int[] about = {0, 8, 1, 7, 5, 8, 4};
        for (int what = 0; what < 7; what++) Due.is("about " + what, x.about(6, what), about[what]);
        Due.is("none is missed", x.missed(6), 0);
        Due.by("Promise 17: KIND: not MARKED, or of SIZE 8.");
        Due.is("of SIZE 16", x.fold(5), 7);
        Due.is("of SIZE 8", x.fold(6), KIND);
        for (int s = 1; s < 5; s++) Due.is("kind " + s, x.fold(s), KIND);
        x.make(0, 4096, 8, 7);
        Due.is("of SIZE 4096", x.fold(8), 9);
        Due.is("2048", x.about(9, 1), 2048);
        Due.by("Promise 17: NONE. .. FULL.");
        for (int s : new int[] {-1, 10, LOW, HIGH}) Due.is("sieve " + s, x.fold(s), NONE);
        withThirty(x);
        Due.is("the 31st", x.fold(5), FULL);
        Due.is("KIND is asked ahead of FULL", x.fold(6), KIND);
        Due.is("NONE is asked ahead of FULL", x.fold(30), NONE);
    }

    // ---- 18 .. 21

    private static void p18() {
        Due.by("Promise 18: NONE (an answer may be -1, too)");
        SieveCabinet x = ofEachKind();
        for (int s = 0; s < 5; s++) {
            Due.is("kind " + s, x.about(s, 0), s);
            for (int what : new int[] {-1, 7, LOW, HIGH}) Due.is("what " + what + " of " + s, x.about(s, what), NONE);
            Due.is("what 6 of " + s, Math.min(0, x.about(s, 6)), 0);
        }
        x.make(0, 8, 1, -1);
        Due.is("SEED -1", x.about(5, 3), -1);
        Due.by("Promise 18: 1 SIZE (3 c of a SOLVED one, of a LAYERED one how many layers)");
        int[] sizes = {64, 32, 16, 3 * 20};
        for (int s = 0; s < 4; s++) Due.is("SIZE of " + s, x.about(s, 1), sizes[s]);
        Due.is("the last layer", Math.min(0, x.layer(4, x.about(4, 1) - 1, 0)), 0);
        Due.is("no layer behind it", x.layer(4, x.about(4, 1), 0), NONE);
        Due.by("Promise 18: 2 MARKS (0 of kinds 2, 3; 3 of kind 4)");
        int[] marks = {3, 4, 0, 0, 3};
        for (int s = 0; s < 5; s++) Due.is("MARKS of " + s, x.about(s, 2), marks[s]);
        Due.by("Promise 18: 4 how many CONTENTS");
        int[] contents = {0, 0, 0, 10, 10};
        for (int s = 0; s < 5; s++) Due.is("CONTENTS of " + s, x.about(s, 4), contents[s]);
    }

    private static void p18Filled() {
        Due.by("Promise 18: 6 how many bits are set, counts above 0, tags, numbers above 0, things in the REST");
        SieveCabinet x = new SieveCabinet();
        for (int kind = 0; kind < 2; kind++) {
            x.make(kind, 8, 8, 0);
            Due.is("none of kind " + kind, x.about(kind, 6), 0);
            x.put(kind, 5);
            x.put(kind, 5);
            Due.is("all of kind " + kind, x.about(kind, 6), 8);
        }
        x.make(2, 1, 0, 3);
        Due.is("no tags", x.about(2, 6), 0);
        for (int i = 0; i < 4; i++) x.put(2, Crafted.ofNest(200, 0, 3));
        Due.is("four tags", x.about(2, 6), 4);
        x.drop(2, Crafted.ofNest(200, 0, 3));
        Due.is("three tags", x.about(2, 6), 3);
        x.solve(0, 0);
        Due.is("no numbers", x.about(3, 6), 0);
        x.layered(0, 0, 0);
        Due.is("no REST", x.about(4, 6), 0);
    }

    private static void p19() {
        Due.by("Promise 19: NONE: no such sieve, place (0 up to SIZE, 4 times of a NESTED one)");
        SieveCabinet x = ofEachKind();
        int[] places = {64, 32, 4 * 16, 3 * 20};
        for (int s = 0; s < 4; s++) {
            Due.is("place 0 of " + s, Math.min(0, x.cell(s, 0)), 0);
            Due.is("the last place of " + s, Math.min(0, x.cell(s, places[s] - 1)), 0);
            for (int i : new int[] {-1, places[s], places[s] + 1, 4096, LOW, HIGH}) Due.is("place " + i + " of " + s, x.cell(s, i), NONE);
        }
        for (int s : new int[] {-1, 5, LOW, HIGH}) Due.is("sieve " + s, x.cell(s, 0), NONE);
        Due.by("Promise 19: of a NESTED one the tag (place i mod 4 of nest i / 4; 0 if empty)");
        x.make(2, 256, 0, 3);
        for (int i = 0; i < 4; i++) x.put(5, Crafted.ofNest(252 + i, 255, 3));
        for (int i = 0; i < 4; i++) Due.is("place " + i + " of nest 255", x.cell(5, 1020 + i), 252 + i);
        Due.is("nest 254", x.cell(5, 1019), 0);
        Due.is("no nest 256", x.cell(5, 1024), NONE);
        x.make(0, 4096, 1, 3);
        x.put(6, Crafted.ofMarks(4095, 1, 3));
        Due.is("the last of 4096", x.cell(6, 4095), 1);
        Due.is("4096", x.cell(6, 4096), NONE);
        Due.by("Promise 19: KIND: a LAYERED one");
        Due.is("place 0", x.cell(4, 0), KIND);
        // No word puts the place behind KIND here, and the SIZE of a LAYERED one is how many layers it has.
        Due.is("no such place", x.cell(4, x.about(4, 1)), NONE);
        Due.is("below 0", x.cell(4, -1), NONE);
    }

    private static void p20() {
        Due.by("Promise 20: NONE: no such sieve, what, or layer (asked behind KIND). KIND.");
        SieveCabinet x = ofEachKind();
        int layers = x.about(4, 1);
        for (int what = 0; what < 3; what++) {
            Due.is("layer 0, what " + what, Math.min(1, x.layer(4, 0, what)), 1);
            Due.is("the last layer, what " + what, Math.min(1, x.layer(4, layers - 1, what)), 1);
            for (int i : new int[] {-1, layers, 20, LOW, HIGH}) Due.is("layer " + i, x.layer(4, i, what), NONE);
        }
        for (int what : new int[] {-1, 3, LOW, HIGH}) Due.is("what " + what, x.layer(4, 0, what), NONE);
        for (int s = 0; s < 4; s++) {
            Due.is("kind " + s, x.layer(s, 0, 0), KIND);
            Due.is("a layer below 0 of kind " + s, x.layer(s, -1, 2), KIND);
            Due.is("a layer above all of kind " + s, x.layer(s, HIGH, 2), KIND);
            Due.is("what -1 of kind " + s + " is asked first", x.layer(s, 0, -1), NONE);
            Due.is("what 3 of kind " + s + " is asked first", x.layer(s, 0, 3), NONE);
        }
        for (int s : new int[] {-1, 5, LOW, HIGH}) Due.is("sieve " + s, x.layer(s, 0, 0), NONE);
        Due.by("Promise 20: 0 its SIZE, 1 how many things came into it, 2 how many bits are set");
        SieveCabinet y = new SieveCabinet();
        y.layered(0, 0, 0);
        int[] empty = {8, 0, 0};
        for (int what = 0; what < 3; what++) Due.is("an empty layer, " + what, y.layer(0, 0, what), empty[what]);
        y.span(0, 1000, 0, 1);
        y.layered(0, 0, 0);
        int[] ofOne = {8, 1, 3};
        for (int what = 0; what < 3; what++) Due.is("a layer of one, " + what, y.layer(1, 0, what), ofOne[what]);
    }

    private static void p21() {
        Due.by("Promise 21: NONE: no such sieve, j (asked behind KIND). KIND: a LAYERED one.");
        SieveCabinet x = ofEachKind();
        int[] many = {3, 4, 2, 3};
        for (int s = 0; s < 4; s++) {
            Due.is("j 0 of " + s, Math.min(0, x.mark(s, 5, 0)), 0);
            Due.is("the last j of " + s, Math.min(0, x.mark(s, 5, many[s] - 1)), 0);
            for (int j : new int[] {-1, many[s], 8, LOW, HIGH}) Due.is("j " + j + " of " + s, x.mark(s, 5, j), NONE);
        }
        for (int j : new int[] {0, 2, 3, -1, LOW, HIGH}) Due.is("j " + j + " of a LAYERED one", x.mark(4, 5, j), KIND);
        for (int s : new int[] {-1, 5, LOW, HIGH}) Due.is("sieve " + s, x.mark(s, 5, 0), NONE);
        for (int marks : new int[] {1, 8}) {
            int s = x.make(0, 8, marks, 0);
            Due.is("the last of " + marks, Math.min(0, x.mark(s, 5, marks - 1)), 0);
            Due.is("behind the last of " + marks, x.mark(s, 5, marks), NONE);
        }
        Due.is("j 2 of a NESTED one of marks 77", x.mark(2, 5, 2), NONE);
    }

    // ---- 22 .. 24

    private static void p22Most() {
        Due.by("Promise 22: NONE: no such world; most is below 8 or above 4096.");
        SieveCabinet x = new SieveCabinet();
        x.span(0, 1, 7, 60);
        x.span(1, 0, 1, 500);
        for (int most : new int[] {LOW, -1, 0, 7, 4097, HIGH}) Due.is("most " + most, x.fewest(0, 1, most, 7), NONE);
        for (int w : new int[] {-1, 8, LOW, HIGH}) {
            Due.is("in " + w, x.fewest(w, 1, 64, 7), NONE);
            Due.is("all " + w, x.fewest(0, w, 64, 7), NONE);
        }
        Due.by("Promise 22: Of all MARKED ones of a SIZE up to most");
        // The rival has the one's marks in all rows up to half the SIZE, so that just that SIZE tells them apart.
        for (int size = 16; size <= 4096; size *= 2) {
            SieveCabinet y = new SieveCabinet();
            Crafted.come(y, 0, Crafted.ofMarks(3, 1, 5));
            Crafted.come(y, 1, Crafted.ofMarks(3 + size / 2, 1 + size, 5));
            Due.is("most " + (size - 1), y.fewest(0, 1, size - 1, 5), 16 * 8 + 1);
            Due.is("most " + size, y.fewest(0, 1, size, 5), 16 * size + 1);
            Due.is("most 4096", y.fewest(0, 1, 4096, 5), 16 * size + 1);
        }
        Due.is("most 8", x.fewest(0, 1, 8, 7) / 16, 8);
        Due.is("most 15", x.fewest(0, 1, 15, 7) / 16, 8);
    }

    /** In 8 bits the rival's first marks are the one's, up to the one that tells them apart. */
    private static void p22Marks() {
        Due.by("Promise 22: 1 .. 8 MARKS");
        Due.by("Promise 22: of several the one of the least SIZE, then of the fewest MARKS: 16 times its SIZE and its MARKS");
        SieveCabinet x = new SieveCabinet();
        long one = Crafted.ofMarks(0, 1, 5);
        Crafted.come(x, 0, one);
        Crafted.come(x, 1, Crafted.ofMarks(4, 1, 5));
        Due.is("all differ by 1", x.fewest(0, 1, 8, 5), 16 * 8 + 1);
        Crafted.come(x, 2, Crafted.ofMarks(8, 3, 5));
        Due.is("2 tell them apart in 8 bits", x.fewest(0, 2, 4096, 5), 16 * 8 + 2);
        Due.is("no RIVALS", x.fewest(0, 0, 4096, 5), 16 * 8 + 1);
        Due.is("no things", x.fewest(7, 7, 4096, 5), 16 * 8 + 1);
        Due.is("nothing in", x.fewest(7, 1, 4096, 5), 16 * 8 + 1);
        withEightMarks();
        Due.is("it makes no sieve", x.sieves(), 0);
        withThirty(x);
        Due.is("30 sieves are no hindrance", x.fewest(0, 2, 4096, 5), 16 * 8 + 2);
        Due.is("still 30", x.sieves(), 30);
    }

    /**
     * The one has the marks 0, 1, 2, .., rival k the marks k - 1, k - 2, ..: by k marks, and by no others,
     * it looks the same in 16 bits. So each 1 .. 7 has one FALSE thing, and 8 none; of 8 bits they are all.
     */
    private static void withEightMarks() {
        SieveCabinet x = new SieveCabinet();
        Crafted.come(x, 0, Crafted.ofMarks(0, 1, 5));
        for (int k = 1; k <= 7; k++) Crafted.come(x, 1, Crafted.ofMarks(k - 1, 15, 5));
        Due.is("8 bits: one each up to 7", x.fewest(0, 1, 8, 5), 16 * 8 + 1);
        Due.is("8 MARKS of 16 bits", x.fewest(0, 1, 16, 5), 16 * 16 + 8);
        Due.is("and no larger SIZE", x.fewest(0, 1, 4096, 5) / 16, 16);
    }

    private static void p23p24() {
        Due.by("Promise 23: The sieve that was made last goes: how many are left. NONE: there is none.");
        SieveCabinet x = new SieveCabinet();
        Due.is("of none", x.remove(), NONE);
        Due.is("none", x.sieves(), 0);
        for (int i = 0; i < 30; i++) x.make(i % 2, 8 << i % 10, 1, i);
        Due.by("Promise 24: How many sieves.");
        Due.is("30", x.sieves(), 30);
        for (int i = 29; i >= 0; i--) {
            Due.is("the one ahead of it stays", x.about(i, 3), i);
            Due.is("left", x.remove(), i);
            Due.is("sieves", x.sieves(), i);
            Due.is("it is gone", x.about(i, 3), NONE);
        }
        Due.is("none is left", x.remove(), NONE);
        Due.is("still none", x.sieves(), 0);
        Due.is("0 again", x.make(0, 8, 1, 77), 0);
        Due.is("a new one", x.about(0, 3), 77);
    }

    /** What was in the place of a removed sieve must not be seen in the next one, whatever the kinds. */
    private static void p23NothingStays() {
        Due.by("Promise 23: The sieve that was made last goes");
        for (int before = 0; before < 5; before++) {
            SieveCabinet x = new SieveCabinet();
            x.span(0, 0, 1, 200);
            madeOf(before, x);
            if (before < 3) x.putAll(0, 0);
            x.remove();
            for (int kind = 0; kind < 3; kind++) {
                Due.is("make", madeOf(kind, x), 0);
                Due.is("CONTENTS of " + kind + " behind " + before, x.about(0, 4), 0);
                Due.is("places of " + kind + " behind " + before, x.about(0, 6), 0);
                Due.is("falses of " + kind + " behind " + before, x.falses(0, 0), 0);
                x.remove();
            }
            x.solve(7, 0);
            Due.is("numbers of an empty SOLVED one behind " + before, x.about(0, 6), 0);
            x.remove();
            x.layered(7, 0, 0);
            Due.is("bits of an empty LAYERED one behind " + before, x.layer(0, 0, 2), 0);
            Due.is("it lets nothing through", x.lets(0, 5), 0);
        }
        SieveCabinet x = new SieveCabinet();
        Crafted.come(x, 0, Deep.IN);
        Crafted.come(x, 1, Deep.RIVALS);
        x.layered(0, 1, Deep.SEED);
        Due.is("a REST", x.about(0, 6), 1);
        x.remove();
        x.layered(0, 7, Deep.SEED);
        Due.is("a LAYERED one behind one with a REST: layers", x.about(0, 1), 1);
        Due.is("no REST", x.about(0, 6), 0);
        Due.is("no layer of the other", x.layer(0, 1, 0), NONE);
        Due.is("all is let through", x.missed(0), 0);
    }

    private static int madeOf(int kind, SieveCabinet x) {
        if (kind == 3) return x.solve(0, 0);
        if (kind == 4) return x.layered(0, 0, 0);
        return x.make(kind, kind == 2 ? 256 : 4096, 8, 0);
    }

    public static void main(String[] args) {
        p1();
        p2Numbers();
        p2Longs();
        p2Full();
        p3();
        p4p5();
        p6();
        p7();
        p8();
        p9();
        p9FullAheadOfCrowded();
        p10Order();
        p10UpTo();
        p10Refused();
        p11();
        p11Contents();
        p12();
        p13p14();
        p15();
        p16Contents();
        p16Fewer();
        p16Refused();
        p17();
        p18();
        p18Filled();
        p19();
        p20();
        p21();
        p22Most();
        p22Marks();
        p23p24();
        p23NothingStays();
        Due.end();
    }
}
