import java.util.ArrayList;
import java.util.List;

/** 'What it is' and 'Terms': numbers, sets, the refusals and their order. */
final class TermBounds {
    /** What no station, person, image is by its number, wherever there are four of them or fewer. */
    private static final int[] NOBODY = {Sentences.LEAST, -1000000001, -2, -1, 4, 5, 8, 9, 31, 32, 36, 256, Sentences.MOST};

    static void hold(Sentences s) {
        calls(s);
        whole(s);
        numbered(s);
        sets(s);
        constants(s);
        unknown(s);
        unknownWithoutLine(s);
        outside(s);
        order(s);
        refusedChangesNothing(s);
        farBelow(s);
    }

    private static void calls(Sentences s) {
        s.says("An object is used for at most 512 calls after it has been made");
        SpiteLine x = s.told("s2 1 0;p0 1 9 0 0;");
        // 18 letters and line() were 19 calls
        for (int call = 20; call <= 510; call++) {
            s.due("fog()", x.fog(call % 7), call == 20 ? 0 : (call - 1) % 7);
        }
        s.due("undo(30), the 511th", x.undo(30), 0);
        s.due("told(2), the 512th", x.told(2), 480 % 7);
    }

    private static void whole(Sentences s) {
        s.says("All numbers are whole; / cuts towards 0.");
        // 99 of a hundred, five times: 970299000 and 960596010 are whole, 950990049.9 is not
        SpiteLine x = s.told("s2 15 0;" + "p0 1 9 1 0;".repeat(5));
        s.due("chance(0, 1)", x.chance(0, 1), 950990049);
        // a hundredth of 10 is cut to 0
        x = s.told("s2 15 0;" + "p0 1 9 9 0;".repeat(8));
        s.due("chance(0, 11)", x.chance(0, 11), 0);
        s.due("chance(0, 10)", x.chance(0, 10), 10);
    }

    private static void numbered(Sentences s) {
        s.says("What has a number has it from 0 on, as it comes.");
        SpiteLine x = s.told("s8 1 0;p7 0 9 3 0;p3 6 0 0 0;p0 5 9 2 0;");
        s.stand("as told", x, 7, 3, 0);
        s.due("station(7, 0)", x.station(7, 0), 1);
        s.due("station(0, 0)", x.station(0, 0), 4);
        x.write(0, 6);
        x.write(1, 6);
        s.due("judge(), the first entry", x.judge(), 0);
        s.due("hoped(0), the first set", x.hoped(0), 0);
        s.due("keep(0), the first image", x.keep(0), 1);
    }

    private static void sets(Sentences s) {
        s.says("A SET is a whole number, bit k for k.");
        SpiteLine x = s.told("s8 1 0;p0 7 9 0 0;p1 7 9 0 0;p2 7 9 0 0;p3 7 9 0 0;p4 7 9 0 0;p5 7 9 0 0;p6 7 9 0 0;p7 0 9 1 0;");
        for (int k = 0; k < 8; k++) {
            s.due("station(" + k + ", 0)", x.station(k, 0), 1 << k);
        }
        s.due("told(7)", x.told(7), 128);
        s.due("stops()", x.stops(), 127);
        s.due("calm(255)", x.calm(255), 1);
        s.due("train(1)", x.train(1), 127);
        s.due("station(7, 0)", x.station(7, 0), 255);
        s.due("told(6)", x.told(6), 127);
    }

    private static void constants(Sentences s) {
        s.says("NONE is -1.");
        s.due("NONE", SpiteLine.NONE, -1);
        s.says("BILLION is 1000000000.");
        s.due("chance(1, 100) of nobody", s.told("s2 1 0;").chance(1, 100), 1000000000);
    }

    // ---- the refusals

    /** On four stations and persons: each call that names such a one, with k in its place. */
    private static void unknown(Sentences s) {
        s.says("UNKNOWN (a STATION, PERSON, IMAGE that there is not; bits of such)");
        SpiteLine x = s.told(Sentences.FOUR);
        for (int k : NOBODY) {
            unknownPerson(s, x, k);
            unknownStation(s, x, k);
        }
        s.due("told(11)", x.told(11), 0);
        for (int k : NOBODY) {
            s.due("keep(" + k + ")", x.keep(k), Sentences.UNKNOWN);
            s.due("goBack(" + k + ")", x.goBack(k), Sentences.UNKNOWN);
        }
        s.due("keep(2)", x.keep(2), Sentences.UNKNOWN);
        s.due("goBack(2)", x.goBack(2), Sentences.UNKNOWN);
        for (int bit = 4; bit < 32; bit++) {
            s.due("calm of bit " + bit, x.calm(1 << bit), Sentences.UNKNOWN);
            s.due("calm of bits 0 and " + bit, x.calm(1 | 1 << bit), Sentences.UNKNOWN);
        }
        s.due("calm(16 - 1)", x.calm(15), 1);
        for (int n = 2; n <= 8; n++) {
            x = s.told("s" + n + " 1 0;");
            s.due("calm of all " + n, x.calm((1 << n) - 1), 0);
            s.due("calm of one more than " + n, x.calm(1 << n), Sentences.UNKNOWN);
        }
    }

    private static void unknownPerson(Sentences s, SpiteLine x, int k) {
        s.due("person(" + k + ", 0)", x.person(k, 0), Sentences.UNKNOWN);
        s.due("mien(" + k + ", 0)", x.mien(k, 0), Sentences.UNKNOWN);
        s.due("feet(" + k + ", true)", x.feet(k, true), Sentences.UNKNOWN);
        s.due("flowers(" + k + ", true)", x.flowers(k, true), Sentences.UNKNOWN);
        s.due("walk(" + k + ", 0)", x.walk(k, 0), Sentences.UNKNOWN);
        s.due("journey(" + k + ")", x.journey(k), Sentences.UNKNOWN);
        s.due("cut(" + k + ")", x.cut(k), Sentences.UNKNOWN);
        s.due("aunts(" + k + ", 0)", x.aunts(k, 0), Sentences.UNKNOWN);
        s.due("write(" + k + ", 0)", x.write(k, 0), Sentences.UNKNOWN);
    }

    private static void unknownStation(Sentences s, SpiteLine x, int k) {
        s.due("station(" + k + ", 0)", x.station(k, 0), Sentences.UNKNOWN);
        s.due("walk(0, " + k + ")", x.walk(0, k), Sentences.UNKNOWN);
        s.due("aunts(0, " + k + ")", x.aunts(0, k), Sentences.UNKNOWN);
        s.due("chance(" + k + ", 0)", x.chance(k, 0), Sentences.UNKNOWN);
        s.due("ran(" + k + ", true)", x.ran(k, true), Sentences.UNKNOWN);
        s.due("write(0, " + k + ")", x.write(0, k), Sentences.UNKNOWN);
    }

    private static void unknownWithoutLine(Sentences s) {
        SpiteLine fresh = new SpiteLine();
        SpiteLine emptied = s.told(Sentences.FOUR);
        emptied.line();
        for (SpiteLine x : new SpiteLine[] {fresh, emptied}) {
            for (int k = 0; k <= 8; k++) {
                unknownPerson(s, x, k);
                unknownStation(s, x, k);
            }
            s.due("calm(0)", x.calm(0), 0);
            s.due("calm(1)", x.calm(1), Sentences.UNKNOWN);
        }
        // stations, but nobody there
        SpiteLine x = s.told("s8 1 0;");
        for (int k = 0; k <= 8; k++) {
            unknownPerson(s, x, k);
        }
        // fewer than the earlier line had
        x = s.told(Sentences.FOUR);
        Sentences.tell(x, "s2 1 0;p0 1 9 0 0;");
        unknownPerson(s, x, 1);
        unknownPerson(s, x, 3);
        unknownStation(s, x, 2);
        unknownStation(s, x, 3);
    }

    private static void outside(Sentences s) {
        s.says("OUTSIDE (another number out of its bounds)");
        SpiteLine x = s.told(Sentences.FOUR);
        bounded(s, x, "feed", 0, 255, SpiteLine::feed);
        bounded(s, x, "told", 0, 11, SpiteLine::told);
        bounded(s, x, "person 0", 0, 7, (o, v) -> o.person(0, v));
        bounded(s, x, "person 3", 0, 7, (o, v) -> o.person(3, v));
        bounded(s, x, "station 0", 0, 1, (o, v) -> o.station(0, v));
        bounded(s, x, "station 3", 0, 1, (o, v) -> o.station(3, v));
        bounded(s, x, "mien", 0, 9, (o, v) -> o.mien(0, v));
        bounded(s, x, "fog", 0, 9, SpiteLine::fog);
        bounded(s, x, "train", 1, 20, SpiteLine::train);
        bounded(s, x, "drift", 1, 20, SpiteLine::drift);
        bounded(s, x, "undo", 1, 30, SpiteLine::undo);
        bounded(s, x, "never", 0, 20, SpiteLine::never);
        bounded(s, x, "chance", 0, 100, (o, v) -> o.chance(0, v));
        bounded(s, x, "seed", 0, Sentences.MOST, SpiteLine::seed);
        // no refusal stands for hoped()
        s.due("hoped(-2)", x.hoped(-2), Sentences.NONE);
        s.due("hoped(least)", x.hoped(Sentences.LEAST), Sentences.NONE);
        s.due("hoped(most)", x.hoped(Sentences.MOST), Sentences.NONE);
    }

    /** A call with a number. */
    private interface Numbered {
        int on(SpiteLine x, int v);
    }

    private static void bounded(Sentences s, SpiteLine x, String name, int least, int most, Numbered call) {
        for (long v : new long[] {Sentences.LEAST, least - 256L, least - 2L, least - 1L, most + 1L, most + 2L, most + 256L, Sentences.MOST}) {
            if (v >= Sentences.LEAST && v <= Sentences.MOST && (v < least || v > most)) {
                s.due(name + " with " + v, call.on(x, (int) v), Sentences.OUTSIDE);
            }
        }
        int atLeast = call.on(x, least);
        int atMost = call.on(x, most);
        s.due(name + " with " + least + " is not outside", atLeast == Sentences.OUTSIDE ? 1 : 0, 0);
        s.due(name + " with " + most + " is not outside", atMost == Sentences.OUTSIDE ? 1 : 0, 0);
    }

    private static void order(Sentences s) {
        s.says("REFUSALS, of several the first in this order: UNKNOWN");
        SpiteLine x = s.told(Sentences.FOUR);
        s.due("person(4, 8)", x.person(4, 8), Sentences.UNKNOWN);
        s.due("station(4, 2)", x.station(4, 2), Sentences.UNKNOWN);
        s.due("mien(4, 10)", x.mien(4, 10), Sentences.UNKNOWN);
        s.due("chance(4, 101)", x.chance(4, 101), Sentences.UNKNOWN);
        s.due("goBack(2), none kept", x.goBack(2), Sentences.UNKNOWN);
        s.due("undo(31), none done", x.undo(31), Sentences.OUTSIDE);
        for (int k = 0; k < 20; k++) {
            x.write(0, 0);
            x.ran(0, true);
        }
        s.due("write(4, 0), full", x.write(4, 0), Sentences.UNKNOWN);
        s.due("write(0, 4), full", x.write(0, 4), Sentences.UNKNOWN);
        s.due("ran(4, true), full", x.ran(4, true), Sentences.UNKNOWN);
        for (int k = 0; k < 200; k++) {
            x.feed(32);
        }
        s.due("feed(256), full", x.feed(256), Sentences.OUTSIDE);
        x = new SpiteLine();
        s.due("fog(10), no line", x.fog(10), Sentences.OUTSIDE);
        s.due("train(0), no line", x.train(0), Sentences.OUTSIDE);
        s.due("train(21), no line", x.train(21), Sentences.OUTSIDE);
        s.due("drift(0), no line", x.drift(0), Sentences.OUTSIDE);
        s.due("drift(21), no line", x.drift(21), Sentences.OUTSIDE);
        s.due("never(21), no line", x.never(21), Sentences.OUTSIDE);
        s.due("person(0, 8), no line", x.person(0, 8), Sentences.UNKNOWN);
        s.due("chance(0, 101), no line", x.chance(0, 101), Sentences.UNKNOWN);
    }

    // ---- what is refused changes nothing

    private static void refusedChangesNothing(Sentences s) {
        s.says("What is refused changes nothing.");
        List<Sentences.Call> refused = refusals();
        for (int i = 0; i < refused.size(); i++) {
            SpiteLine one = busy(s);
            SpiteLine other = busy(s);
            int answer = refused.get(i).on(one);
            s.due("refusal " + i + " is one", answer <= Sentences.UNKNOWN && answer >= Sentences.FULL ? 1 : 0, 1);
            s.due("all behind refusal " + i, goOn(one), goOn(other));
        }
        SpiteLine none = new SpiteLine();
        none.seed(5);
        none.feed('s');
        int[] before = Sentences.lineOf(none);
        none.fog(3);
        none.train(1);
        none.drift(1);
        none.undo(1);
        none.goBack(0);
        s.due("all without a line", Sentences.lineOf(none), before);
        s.due("the seed without a line", none.seed(0), 5);
        refusedWhenFull(s);
    }

    /** Each is refused by an object that is busy. */
    private static List<Sentences.Call> refusals() {
        List<Sentences.Call> all = new ArrayList<>();
        all.add(x -> x.feed(256));
        all.add(x -> x.told(12));
        all.add(x -> x.person(2, 0));
        all.add(x -> x.person(0, 8));
        all.add(x -> x.station(3, 0));
        all.add(x -> x.station(0, 2));
        all.add(x -> x.mien(2, 5));
        all.add(x -> x.mien(0, 10));
        all.add(x -> x.mien(0, -1));
        all.add(x -> x.feet(2, true));
        all.add(x -> x.flowers(-1, true));
        all.add(x -> x.walk(0, 3));
        all.add(x -> x.walk(2, 0));
        all.add(x -> x.fog(10));
        all.add(x -> x.fog(-1));
        all.add(x -> x.train(0));
        all.add(x -> x.train(21));
        all.add(x -> x.drift(0));
        all.add(x -> x.drift(21));
        all.add(x -> x.undo(0));
        all.add(x -> x.undo(31));
        all.add(x -> x.undo(6));
        all.add(x -> x.calm(8));
        all.add(x -> x.journey(2));
        all.add(x -> x.never(21));
        all.add(x -> x.cut(2));
        all.add(x -> x.aunts(0, 3));
        all.add(x -> x.chance(0, 101));
        all.add(x -> x.ran(3, true));
        all.add(x -> x.write(0, 3));
        all.add(x -> x.write(2, 0));
        all.add(x -> x.seed(-1));
        all.add(x -> x.keep(2));
        all.add(x -> x.keep(-1));
        all.add(x -> x.goBack(2));
        all.add(x -> x.goBack(1));
        return all;
    }

    /** Two persons, three stations, image 0 kept, five deeds behind it, some that ran, a book, a text begun. */
    private static SpiteLine busy(Sentences s) {
        SpiteLine x = s.told("s3 4 1;p0 2 9 2 1;p1 2 0 3 2;");
        x.fog(3);
        x.seed(41);
        x.keep(0);
        x.drift(1);
        x.mien(0, 4);
        x.flowers(0, true);
        x.walk(1, 0);
        x.feet(1, true);
        x.ran(0, false);
        x.ran(2, true);
        x.write(1, 0);
        x.write(0, 1);
        x.feed('s');
        x.feed('2');
        return x;
    }

    /** All that can be seen on the way back and on. */
    private static int[] goOn(SpiteLine x) {
        List<Integer> all = new ArrayList<>();
        see(x, all);
        for (int k = 0; k < 5; k++) {
            all.add(x.undo(1));
            see(x, all);
        }
        all.add(x.undo(1));
        all.add(x.drift(2));
        all.add(x.goBack(1));
        all.add(x.goBack(0));
        see(x, all);
        all.add(x.drift(2));
        all.add(x.seed(0));
        x.feed(' ');
        x.feed('9');
        all.add(x.feed(' '));
        all.add(x.feed('0'));
        all.add(x.feed(';'));
        all.add(x.line());
        all.add(x.told(1));
        return all.stream().mapToInt(Integer::intValue).toArray();
    }

    private static void see(SpiteLine x, List<Integer> all) {
        for (int v : Sentences.lineOf(x)) {
            all.add(v);
        }
        all.add(x.fault());
        all.add(x.hoped(Sentences.NONE));
        all.add(x.judge());
    }

    private static void refusedWhenFull(Sentences s) {
        SpiteLine x = s.told(Sentences.FOUR);
        for (int k = 0; k < 8; k++) {
            x.ran(0, true);
        }
        for (int k = 0; k < 19; k++) {
            x.write(0, 0);
        }
        x.write(1, 1);
        s.due("hoped(NONE)", x.hoped(Sentences.NONE), 4);
        s.due("ran(0, false), full", x.ran(0, false), Sentences.FULL);
        s.due("hoped(NONE) behind it", x.hoped(Sentences.NONE), 4);
        s.due("write(0, 3), full", x.write(0, 3), Sentences.FULL);
        s.due("judge() behind it", x.judge(), Sentences.NONE);
        s.due("told(9)", x.told(9), 8);
        s.due("told(10)", x.told(10), 20);
    }

    private static void farBelow(Sentences s) {
        s.says("They are far below all that is counted: -1000000001 and on.");
        s.due("UNKNOWN", SpiteLine.UNKNOWN, -1000000001);
        s.due("OUTSIDE", SpiteLine.OUTSIDE, -1000000002);
        s.due("NOT", SpiteLine.NOT, -1000000003);
        s.due("FULL", SpiteLine.FULL, -1000000004);
    }
}
