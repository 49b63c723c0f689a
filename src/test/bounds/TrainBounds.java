/** Section 2, how a train runs, promises 13 to 15. */
final class TrainBounds {
    static void hold(Sentences s) {
        allStand(s);
        firstToLast(s);
        stopsWhereNotAwaited(s);
        getOut(s);
        met(s);
        board(s);
        runsThrough(s);
        last(s);
        counted(s);
        trains(s);
        trainsFull(s);
        drift(s);
        driftFull(s);
        draws(s);
        undone(s);
        undoneTrains(s);
        undo(s);
    }

    private static void allStand(Sentences s) {
        s.says("A PERSON stands at a STATION (between trains all do).");
        SpiteLine x = s.told("s5 6 1;p2 4 9 8 0;p0 2 0 3 1;p0 4 9 4 2;p1 3 1 1 0;p3 1 9 0 3;p4 0 9 9 3;");
        for (int k = 0; k < 20; k++) {
            x.drift(1);
            int all = 0;
            for (int at = 0; at < 5; at++) {
                s.due("twice there", all & x.station(at, 0), 0);
                all |= x.station(at, 0);
            }
            s.due("all who stand somewhere", all, 63);
        }
    }

    private static void firstToLast(Sentences s) {
        s.says("A TRAIN runs from STATION 0 to the last one");
        SpiteLine x = s.told("s8 9 0;p0 7 9 0 0;p7 0 9 0 0;p6 7 9 0 0;p1 0 9 0 0;");
        s.due("train(1)", x.train(1), 5);
        s.stand("behind one train", x, 7, 7, 7, 1);
        s.due("train(20), none runs back", x.train(20), 5);
        s.stand("behind more", x, 7, 7, 7, 1);
        x = s.told("s2 9 0;p0 1 9 0 0;p1 0 9 0 0;");
        s.due("train(1) of two stations", x.train(1), 1);
        s.stand("at two stations", x, 1, 1);
    }

    private static void stopsWhereNotAwaited(Sentences s) {
        s.says("at each (AWAITED or not, as all stand there as it comes) that is not AWAITED it STOPS");
        SpiteLine x = s.told("s4 3 0;p0 3 9 2 0;p1 0 9 3 0;p3 0 9 2 0;");
        s.due("train(1)", x.train(1), 1);
        s.due("told(6)", x.told(6), 13);
        // by who gets out it is awaited only when the next one comes: fog hid how much shows of him
        x = s.told("s4 3 9;p0 2 9 9 0;p2 0 9 0 0;");
        s.due("train(1)", x.train(1), 1);
        s.due("told(6)", x.told(6), 15);
        x.fog(0);
        s.due("stops() of the next", x.stops(), 11);
        s.due("train(1), the next", x.train(1), 1);
        s.due("told(6) of the next", x.told(6), 11);
        // nobody anywhere
        x = s.told("s8 1 0;");
        x.train(1);
        s.due("told(6) with nobody", x.told(6), 255);
    }

    private static void getOut(Sentences s) {
        s.says("first those on board who WANT there get out, lesser first");
        // 0 gets out first, so 1, whom he meets, does not; the other way round both would
        SpiteLine x = s.told("s4 9 0;p0 2 9 0 0;p0 2 0 0 0;");
        s.due("train(1)", x.train(1), 1);
        s.stand("lesser first", x, 2, 3);
        x = s.told("s4 9 0;p0 2 9 0 0;p0 1 9 0 0;p0 3 9 0 0;");
        s.due("train(1), each where he wants", x.train(1), 7);
        s.stand("each where he wants", x, 2, 1, 3);
        // first they get out, then he by whom 1 is met boards
        x = s.told("s4 9 0;p1 3 9 0 0;p0 1 0 0 0;");
        s.due("train(1), he is met by one who boards then", x.train(1), 1);
        s.stand("met by one who boards then", x, 3, 3);
    }

    private static void met(Sentences s) {
        s.says("but not who is MET, if the one by whom he is MET stands there (also one who got out just now)");
        SpiteLine x = s.told("s4 9 0;p2 0 9 0 0;p0 2 0 0 0;");
        s.due("train(1), met by one who stands there", x.train(1), 0);
        s.stand("met", x, 2, 3);
        x = s.told("s4 9 0;p0 2 9 0 0;p1 2 0 0 0;");
        s.due("train(1), met by one who got out just now", x.train(1), 1);
        s.stand("met just now", x, 2, 3);
        x = s.told("s4 9 0;p1 0 9 0 0;p0 2 0 0 0;");
        s.due("train(1), who would meet him stands elsewhere", x.train(1), 2);
        x = s.told("s4 9 0;p0 3 9 0 0;p0 2 0 0 0;");
        s.due("train(1), who would meet him is on board yet", x.train(1), 3);
        // 2 can get out, as 1, by whom he is met, cannot
        x = s.told("s4 9 0;p2 0 9 0 0;p0 2 0 0 0;p0 2 1 0 0;");
        s.due("train(1), a chain", x.train(1), 4);
        s.stand("a chain", x, 2, 3, 2);
        // the meeting holds him back on board only; he who stands there has arrived
        x = s.told("s4 9 0;p2 0 9 0 0;p0 2 0 0 0;");
        x.walk(1, 2);
        s.due("train(1), he stands there too", x.train(1), 2);
        x = s.told("s3 9 0;p1 0 9 0 0;p0 1 9 0 0;");
        s.due("train(1), met by nobody", x.train(1), 2);
    }

    private static void board(Sentences s) {
        s.says("then all who stood there, WANT elsewhere and that lies ahead, board");
        SpiteLine x = s.told("s4 9 0;p1 2 9 0 0;p1 3 9 0 0;p1 0 9 0 0;p1 3 9 0 0;");
        s.due("train(1)", x.train(1), 11);
        s.stand("all but who wants back", x, 2, 3, 1, 3);
        x = s.told("s4 9 0;p1 2 9 0 0;");
        x.walk(0, 2);
        x.train(1);
        s.stand("who is where he wants", x, 2);
        // who got out just now does not board again
        x = s.told("s4 9 0;p0 1 9 0 0;p1 2 9 0 0;");
        s.due("train(1), one out, one in", x.train(1), 3);
        x = s.told("s8 9 0;" + "p0 7 9 0 0;".repeat(8));
        s.due("train(1), eight board", x.train(1), 255);
    }

    private static void runsThrough(Sentences s) {
        s.says("Else it runs through.");
        // nobody boards at 0, as 1 waits there
        SpiteLine x = s.told("s3 3 0;p0 1 9 0 0;p0 1 9 3 0;");
        s.due("train(1), awaited where they stand", x.train(1), 0);
        s.stand("nobody boards", x, 0, 0);
        s.due("told(6)", x.told(6), 6);
        // nobody gets out at 1
        x = s.told("s3 3 0;p0 1 9 0 0;p1 0 9 3 0;");
        s.due("train(1), awaited where he wants", x.train(1), 0);
        s.stand("nobody gets out", x, 2, 1);
        s.due("told(6)", x.told(6), 5);
    }

    private static void last(Sentences s) {
        s.says("At the last one all who are on board yet get out, whatever else.");
        SpiteLine x = s.told("s3 3 0;p2 0 9 9 0;p0 2 0 0 0;p1 2 9 0 0;");
        s.due("train(1), awaited and met there", x.train(1), 6);
        s.stand("awaited and met there", x, 2, 2, 2);
        s.due("told(6), it did not stop there", x.told(6), 3);
        x = s.told("s3 9 0;p2 0 9 0 0;p0 2 0 0 0;");
        s.due("train(1), met there", x.train(1), 2);
        s.due("told(6), it stopped there", x.told(6), 7);
        x = s.told("s3 9 0;p1 0 9 0 0;p0 1 0 0 0;");
        s.due("train(1), carried past", x.train(1), 0);
        s.stand("carried past", x, 1, 2);
    }

    private static void counted(Sentences s) {
        s.says("TRAINS are counted.");
        SpiteLine x = s.told("s2 1 0;p0 1 9 9 0;");
        x.train(1);
        s.due("told(5)", x.told(5), 1);
        x.train(20);
        s.due("told(5)", x.told(5), 21);
        x.drift(3);
        s.due("told(5)", x.told(5), 24);
        x.stops();
        x.journey(0);
        x.never(20);
        x.fog(2);
        x.walk(0, 1);
        s.due("told(5)", x.told(5), 24);
    }

    private static void trains(Sentences s) {
        s.says("n TRAINS (1 .. 20): who has ARRIVED (a SET). OUTSIDE, NOT: no LINE; FULL: TRAINS are above 9000.");
        SpiteLine x = s.told("s4 9 0;p0 1 9 0 0;p1 0 9 0 0;p0 3 9 0 0;");
        s.due("train(0)", x.train(0), Sentences.OUTSIDE);
        s.due("train(21)", x.train(21), Sentences.OUTSIDE);
        s.due("train(-1)", x.train(-1), Sentences.OUTSIDE);
        s.due("told(5)", x.told(5), 0);
        s.due("train(1)", x.train(1), 5);
        s.due("train(20)", x.train(20), 5);
        s.due("told(5)", x.told(5), 21);
        s.due("train(1), nobody there", s.told("s2 1 0;").train(1), 0);
        s.due("train(1), no line", new SpiteLine().train(1), Sentences.NOT);
        s.due("train(20), no line", new SpiteLine().train(20), Sentences.NOT);
        s.due("train(21), no line", new SpiteLine().train(21), Sentences.OUTSIDE);
        x.line();
        s.due("train(1), no line any more", x.train(1), Sentences.NOT);
    }

    private static void trainsFull(Sentences s) {
        SpiteLine x = s.told("s2 1 0;");
        for (int k = 0; k < 450; k++) {
            x.train(20);
        }
        s.due("told(5)", x.told(5), 9000);
        s.due("train(1) at 9000", x.train(1), 0);
        s.due("train(1) at 9001", x.train(1), Sentences.FULL);
        s.due("train(20) at 9001", x.train(20), Sentences.FULL);
        s.due("train(21) at 9001", x.train(21), Sentences.OUTSIDE);
        s.due("told(5)", x.told(5), 9001);
        s.due("undo(1)", x.undo(1), 9000);
        s.due("train(20) at 9000", x.train(20), 0);
        s.due("told(5)", x.told(5), 9020);
        s.due("train(1) at 9020", x.train(1), Sentences.FULL);
        s.due("undo(30)", x.undo(30), 8990);
        s.due("a new line", Sentences.tell(x, "s2 1 0;"), 0);
        s.due("train(1) of a new line", x.train(1), 0);
    }

    private static void drift(Sentences s) {
        s.says("n TRAINS BY DRAWS (1 .. 20): who has ARRIVED (a SET). OUTSIDE, NOT: no LINE; FULL: TRAINS are above 9000.");
        SpiteLine x = s.told("s2 15 0;p0 1 9 0 0;p1 0 9 0 0;");
        s.due("drift(0)", x.drift(0), Sentences.OUTSIDE);
        s.due("drift(21)", x.drift(21), Sentences.OUTSIDE);
        s.due("drift(-1)", x.drift(-1), Sentences.OUTSIDE);
        s.due("told(5)", x.told(5), 0);
        s.due("seed(0), nothing drawn", x.seed(0), 0);
        s.due("drift(1)", x.drift(1), 1);
        s.due("drift(20)", x.drift(20), 1);
        s.due("told(5)", x.told(5), 21);
        x.line();
        x.seed(6);
        s.due("drift(1), no line", x.drift(1), Sentences.NOT);
        s.due("drift(20), no line", x.drift(20), Sentences.NOT);
        s.due("drift(21), no line", x.drift(21), Sentences.OUTSIDE);
        s.due("seed(0), nothing drawn", x.seed(0), 6);
    }

    private static void driftFull(Sentences s) {
        SpiteLine x = s.told("s2 1 0;");
        for (int k = 0; k < 450; k++) {
            x.drift(20);
        }
        s.due("told(5)", x.told(5), 9000);
        s.due("seed(0), a draw of fog each", x.seed(0), seedBehind(0, 9000));
        s.due("drift(20) at 9000", x.drift(20), 0);
        int seed = seedBehind(0, 20);
        s.due("drift(1) at 9020", x.drift(1), Sentences.FULL);
        s.due("train(1) at 9020", x.train(1), Sentences.FULL);
        s.due("drift(21) at 9020", x.drift(21), Sentences.OUTSIDE);
        s.due("told(5)", x.told(5), 9020);
        s.due("seed(0), nothing drawn", x.seed(0), seed);
        s.due("undo(20)", x.undo(20), 9000);
        s.due("drift(1) at 9000", x.drift(1), 0);
        s.due("drift(1) at 9001", x.drift(1), Sentences.FULL);
    }

    private static int seedBehind(long seed, int draws) {
        for (int k = 0; k < draws; k++) {
            seed = (seed * 1103515245L + 12345L) % 2147483648L;
        }
        return (int) seed;
    }

    private static int drawn(long seed, int draws, int of) {
        return seedBehind(seed, draws) / 65536 % of;
    }

    private static void draws(Sentences s) {
        s.says("THE SEED (0 at first: each DRAW it becomes it times 1103515245 and 12345, left over by 2 to the 31; "
            + "the DRAW of n is it / 65536, left over by n)");
        SpiteLine x = s.told("s2 15 0;");
        x.drift(1);
        s.due("seed(2147483647), behind 0", x.seed(Sentences.MOST), 12345);
        s.due("told(2), 12345 / 65536", x.told(2), 0);
        x.drift(1);
        // it wraps around: 12345 less 1103515245, and 2 to the 31
        s.due("seed(1), behind the greatest", x.seed(1), 1043980748);
        s.due("told(2), 15929 left over by 6", x.told(2), 5);
        x.drift(1);
        s.due("seed(0), behind 1", x.seed(0), 1103527590);
        s.due("told(2), 16838 left over by 6", x.told(2), 2);

        s.says("n TRAINS: ahead of each, if there are PERSONS, a DRAW of these whose MIEN becomes a DRAW of 10; "
            + "then FOG becomes a DRAW of 6");
        for (int persons = 0; persons <= 8; persons++) {
            for (int seed = 1; seed < 40; seed += 3) {
                drawnDay(s, persons, seed);
            }
        }
        // the train runs by what was drawn: from 1 it is 0 whose mien becomes 8, fog 3
        x = s.told("s2 6 0;p0 1 9 0 0;p1 0 9 0 0;");
        x.seed(1);
        s.due("drift(1), 8 shows of 9", x.drift(1), 1);
        x = s.told("s2 5 0;p0 1 9 0 0;p1 0 9 0 0;");
        x.seed(1);
        s.due("drift(1), 8 shows of 8", x.drift(1), 0);
        s.due("told(6)", x.told(6), 2);
    }

    private static void drawnDay(Sentences s, int persons, int seed) {
        SpiteLine x = s.told("s2 15 9;" + "p0 1 9 5 0;".repeat(persons));
        x.seed(seed);
        x.drift(1);
        int draws = persons == 0 ? 1 : 3;
        for (int p = 0; p < persons; p++) {
            int due = p == drawn(seed, 1, persons) ? drawn(seed, 2, 10) : 5;
            s.due("person(" + p + ", 3) of " + persons + ", seed " + seed, x.person(p, 3), due);
        }
        s.due("told(2) of " + persons + ", seed " + seed, x.told(2), drawn(seed, draws, 6));
        s.due("seed(0) of " + persons + ", seed " + seed, x.seed(0), seedBehind(seed, draws));
    }

    private static void undone(Sentences s) {
        s.says("UNDONE: the latest deeds (mien(), feet(), flowers(), walk(), fog(), each TRAIN, with the DRAWS ahead of it) "
            + "since the text or IMAGE (30 at most are kept)");
        SpiteLine x = s.told(Sentences.FOUR);
        s.due("told(11) of the text", x.told(11), 0);
        x.ran(0, true);
        x.write(0, 0);
        x.seed(3);
        x.tear();
        x.feed(32);
        x.stops();
        x.never(3);
        x.mien(0, 10);
        s.due("told(11), none of these is a deed", x.told(11), 0);
        x.mien(0, 1);
        x.feet(0, true);
        x.flowers(0, true);
        x.walk(0, 1);
        x.fog(2);
        x.train(3);
        x.drift(2);
        s.due("told(11), all of these are", x.told(11), 10);
        s.due("undo(11)", x.undo(11), Sentences.NOT);
        s.due("undo(2)", x.undo(2), 3);
        s.due("told(2), ahead of the draws", x.told(2), 2);
        s.due("undo(3)", x.undo(3), 0);
        s.due("person(0, 0)", x.person(0, 0), 1);
        s.due("told(6)", x.told(6), 0);
        s.due("undo(5)", x.undo(5), 0);
        s.due("undo(1)", x.undo(1), Sentences.NOT);
        x.fog(1);
        x.keep(0);
        s.due("told(11) of the image", x.told(11), 0);
        x.fog(2);
        s.due("undo(2)", x.undo(2), Sentences.NOT);
        x.goBack(0);
        s.due("undo(1)", x.undo(1), Sentences.NOT);
        manyUndone(s);
    }

    /** Thirty are kept, and the oldest gives way to each one more. */
    private static void manyUndone(Sentences s) {
        for (int deeds = 28; deeds <= 95; deeds++) {
            SpiteLine x = s.told("s2 1 0;");
            for (int k = 1; k <= deeds; k++) {
                x.fog(k % 10);
            }
            int kept = Math.min(30, deeds);
            s.due("told(11) of " + deeds, x.told(11), kept);
            s.due("undo(kept) of " + deeds, x.undo(kept), 0);
            s.due("told(2) of " + deeds, x.told(2), (deeds - kept) % 10);
            s.due("undo(1) of " + deeds, x.undo(1), Sentences.NOT);
        }
        SpiteLine x = s.told("s2 1 0;");
        x.fog(3);
        x.train(20);
        s.due("told(11), each train is one", x.told(11), 21);
        x.train(20);
        s.due("told(11), thirty at most", x.told(11), 30);
        s.due("undo(30), the ten first trains stay", x.undo(30), 10);
        s.due("told(2)", x.told(2), 3);
        // within a ring that has turned, some undone, others done in their place
        x = s.told("s2 1 0;");
        for (int k = 1; k <= 44; k++) {
            x.fog(k % 10);
        }
        s.due("undo(20)", x.undo(20), 0);
        s.due("told(2) behind 24", x.told(2), 4);
        x.fog(9);
        x.fog(8);
        s.due("told(11)", x.told(11), 12);
        s.due("undo(3)", x.undo(3), 0);
        s.due("told(2) behind 23", x.told(2), 3);
        s.due("undo(9)", x.undo(9), 0);
        s.due("told(2) behind 14", x.told(2), 4);
    }

    private static void undoneTrains(Sentences s) {
        s.says("all of section 2, MIENS, FEET, FLOWERS, FOG are as ahead of them; THE SEED stays");
        Sentences.Call[] deeds = {o -> o.mien(0, 9), o -> o.feet(1, true), o -> o.flowers(2, false), o -> o.walk(2, 0),
            o -> o.fog(9), o -> o.drift(1), o -> o.train(1)};
        for (int from = 0; from < deeds.length; from++) {
            SpiteLine x = s.told("s4 6 1;p0 3 9 2 1;p1 3 0 3 2;p2 0 9 9 3;");
            x.train(1);
            for (int k = 0; k < from; k++) {
                deeds[k].on(x);
            }
            int[] ahead = Sentences.lineOf(x);
            for (int k = from; k < deeds.length; k++) {
                deeds[k].on(x);
            }
            s.due("undo() from deed " + from, x.undo(deeds.length - from), from == deeds.length - 1 ? 2 : 1);
            s.due("all ahead of deed " + from, Sentences.lineOf(x), ahead);
            s.due("the seed stays behind a day's draws", x.seed(5), seedBehind(0, 3));
            s.due("undo(1) behind seed()", x.undo(1), from == 0 ? 0 : 1);
            s.due("the seed stays", x.seed(0), 5);
        }
    }

    private static void undo(Sentences s) {
        s.says("The n latest (1 .. 30) are undone: TRAINS. OUTSIDE, NOT: not so many.");
        SpiteLine x = s.told("s2 1 0;p0 1 9 0 0;");
        s.due("undo(0)", x.undo(0), Sentences.OUTSIDE);
        s.due("undo(31)", x.undo(31), Sentences.OUTSIDE);
        s.due("undo(-1)", x.undo(-1), Sentences.OUTSIDE);
        s.due("undo(1), none", x.undo(1), Sentences.NOT);
        s.due("undo(30), none", x.undo(30), Sentences.NOT);
        x.train(20);
        x.train(9);
        s.due("undo(30) of 29", x.undo(30), Sentences.NOT);
        s.due("told(5)", x.told(5), 29);
        x.train(1);
        s.due("undo(31) of 30", x.undo(31), Sentences.OUTSIDE);
        s.due("undo(30) of 30", x.undo(30), 0);
        s.stand("as told", x, 0);
        x.train(2);
        s.due("undo(1)", x.undo(1), 1);
        s.due("undo(2) of 1", x.undo(2), Sentences.NOT);
        s.due("undo(1)", x.undo(1), 0);
        s.due("undo(1), none left", x.undo(1), Sentences.NOT);
    }
}
