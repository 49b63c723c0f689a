/** Section 3, what is tried from now, promises 16 to 22. */
final class TriedBounds {
    /** Four stations, nowhere awaited: 0 stands at 2 and 3 at the last one, 1, 2, 4 ride. */
    private static final String RIDES = "s4 9 0;p2 0 9 0 0;p0 2 9 0 0;p1 2 9 0 0;p3 0 9 0 0;p0 3 9 0 0;";

    static void hold(Sentences s) {
        nothingChanges(s);
        stops(s);
        calm(s);
        journey(s);
        never(s);
        cut(s);
        cutAhead(s);
        aunts(s);
        chance(s);
        chanceInTurn(s);
    }

    private static void nothingChanges(Sentences s) {
        s.says("TRIED from now; nothing changes by it.");
        SpiteLine x = s.told("s4 9 2;p2 0 9 1 2;p0 2 0 2 0;p1 3 1 9 3;");
        x.train(1);
        x.seed(9);
        x.ran(0, true);
        x.ran(2, false);
        x.write(0, 1);
        int[] before = Sentences.lineOf(x);
        x.stops();
        x.calm(15);
        x.never(20);
        for (int k = 0; k < 4; k++) {
            x.journey(k);
            x.cut(k);
            x.aunts(1, k);
            x.aunts(2, k);
            x.chance(k, 50);
            x.hoped(k - 1);
        }
        x.sure();
        x.look();
        x.judge();
        s.due("all", Sentences.lineOf(x), before);
        s.due("seed(0)", x.seed(0), 9);
        s.due("undo(1)", x.undo(1), 0);
        s.stand("as told", x, 2, 0, 1);
    }

    private static void stops(Sentences s) {
        s.says("STOPS of the next TRAIN: a SET of STATIONS.");
        s.due("stops() of eight with nobody", s.told("s8 1 0;").stops(), 255);
        s.due("stops() of two, both awaited", s.told("s2 1 0;p0 1 9 1 0;p1 0 9 1 0;").stops(), 0);
        // the last one only, the first one only
        s.due("stops() but at the first", s.told("s8 3 0;p0 1 9 3 0;").stops(), 254);
        s.due("stops() but at the last", s.told("s8 3 0;p7 1 9 3 0;").stops(), 127);
        // who rides to the last one stands there when the next has run, not as it comes
        SpiteLine x = s.told("s3 3 9;p0 2 9 9 0;");
        s.due("stops()", x.stops(), 7);
        x.train(1);
        x.fog(0);
        s.due("stops() of the next", x.stops(), 3);

        s.says("`int stops()`: STOPS.");
        s.due("stops(), no line", new SpiteLine().stops(), 0);
        x = s.told(Sentences.FOUR);
        s.due("stops()", x.stops(), 7);
        x.train(1);
        s.due("told(6), as said ahead", x.told(6), 7);
    }

    private static void calm(Sentences s) {
        s.says("CALM for a SET of STATIONS: by how much less SHOWING (together) none of these is AWAITED (as all stand now).");
        SpiteLine x = s.told("s3 4 1;p0 1 9 4 0;p0 1 9 5 0;p1 0 9 6 0;p1 0 9 9 3;p2 0 9 4 0;");
        s.due("calm(0), none of them", x.calm(0), 0);
        // 4 shows less than 5, of 5 one less is needed
        s.due("calm(1)", x.calm(1), 1);
        s.due("calm(2), 2 and 10", x.calm(2), 12);
        s.due("calm(4)", x.calm(4), 0);
        s.due("calm(7)", x.calm(7), 13);
        x.fog(0);
        s.due("calm(7), by less fog", x.calm(7), 1 + 2 + 3 + 11 + 1);
        x.walk(3, 2);
        s.due("calm(2), as they stand now", x.calm(2), 3);
        x = s.told("s8 1 0;" + "p7 0 9 9 3;".repeat(8));
        s.due("calm(128), the most", x.calm(128), 112);
        s.due("calm(127), nobody there", x.calm(127), 0);
        s.due("calm(255)", x.calm(255), 112);
        x.fog(9);
        s.due("calm(255) by fog", x.calm(255), 40);

        s.says("`int calm(int set)`: CALM. UNKNOWN.");
        s.due("calm(256)", x.calm(256), Sentences.UNKNOWN);
        s.due("calm(-1)", x.calm(-1), Sentences.UNKNOWN);
        s.due("calm(least)", x.calm(Sentences.LEAST), Sentences.UNKNOWN);
        s.due("calm(most)", x.calm(Sentences.MOST), Sentences.UNKNOWN);
        s.due("calm(384), one there is and one there is not", x.calm(384), Sentences.UNKNOWN);
        s.due("calm(0), no line", new SpiteLine().calm(0), 0);
        s.due("calm(1), no line", new SpiteLine().calm(1), Sentences.UNKNOWN);
        s.due("calm(-1), no line", new SpiteLine().calm(-1), Sentences.UNKNOWN);
    }

    private static void journey(Sentences s) {
        s.says("JOURNEY of a PERSON: how many TRAINS (0 .. 20) till he has ARRIVED, nothing else coming; NONE.");
        SpiteLine x = s.told("s4 3 0;p0 2 9 0 0;p0 2 0 0 0;p3 0 9 0 0;p1 3 9 3 0;p0 1 9 0 0;p2 3 9 0 0;");
        s.due("journey(0), by the next", x.journey(0), 1);
        s.due("journey(1), he is met and carried past", x.journey(1), Sentences.NONE);
        s.due("journey(2), it lies behind", x.journey(2), Sentences.NONE);
        s.due("journey(3), he waits himself", x.journey(3), Sentences.NONE);
        s.due("journey(4), awaited there", x.journey(4), Sentences.NONE);
        s.due("journey(5)", x.journey(5), 1);
        x.walk(2, 0);
        s.due("journey(2), he has arrived", x.journey(2), 0);
        x.walk(0, 2);
        x.walk(0, 1);
        s.due("journey(0), awaited where he stands", x.journey(0), Sentences.NONE);
        x.mien(3, 2);
        s.due("journey(0), not any more", x.journey(0), 1);
        s.due("journey(3)", x.journey(3), 1);
        x = s.told("s3 9 0;p0 2 9 0 0;p2 0 9 9 0;");
        s.due("journey(0), awaited at the last one", x.journey(0), 1);

        s.says("`int journey(int p)`: JOURNEY; NONE. UNKNOWN.");
        s.due("journey(2)", x.journey(2), Sentences.UNKNOWN);
        s.due("journey(-1)", x.journey(-1), Sentences.UNKNOWN);
        s.due("journey(1)", x.journey(1), Sentences.NONE);
    }

    private static void never(Sentences s) {
        s.says("NEVER in n TRAINS (0 .. 20): STATIONS at which none of these STOPS (a SET).");
        SpiteLine x = s.told("s8 3 0;p0 7 9 0 0;p1 2 9 3 0;p7 0 9 3 0;");
        s.due("never(0), none runs", x.never(0), 255);
        s.due("never(1)", x.never(1), 130);
        s.due("never(20)", x.never(20), 130);
        // it stopped there once, ahead of his coming
        x = s.told("s3 3 9;p0 1 9 9 0;");
        x.train(1);
        x.fog(0);
        s.due("never(1), awaited now", x.never(1), 2);
        x = s.told("s3 3 0;p0 1 9 0 0;p1 0 9 2 0;");
        s.due("never(20), it stops at all", x.never(20), 0);
        s.due("never(0)", x.never(0), 7);

        s.says("`int never(int n)`: NEVER. OUTSIDE.");
        s.due("never(-1)", x.never(-1), Sentences.OUTSIDE);
        s.due("never(21)", x.never(21), Sentences.OUTSIDE);
        s.due("never(0), no line", new SpiteLine().never(0), 0);
        s.due("never(20), no line", new SpiteLine().never(20), 0);
        s.due("never(21), no line", new SpiteLine().never(21), Sentences.OUTSIDE);
    }

    private static void cut(Sentences s) {
        s.says("CUT of a PERSON: the fewest STATIONS to be AWAITED by others (a SET, as all else is) "
            + "so that he has not ARRIVED behind the next TRAIN");
        // to the last one he gets wherever it stops, so he is cut off where he stands
        for (int at = 0; at < 7; at++) {
            SpiteLine x = s.told("s8 9 0;p" + at + " 7 9 0 0;");
            s.due("cut(0) at " + at, x.cut(0), 1 << at);
        }
        SpiteLine x = s.told("s4 3 0;p2 1 9 0 0;p0 3 9 3 0;p1 3 9 0 0;p0 2 9 0 0;");
        s.due("cut(0), it lies behind: no station is needed", x.cut(0), 0);
        s.due("cut(1), he waits himself", x.cut(1), 0);
        s.due("cut(2)", x.cut(2), 2);
        s.due("cut(3), awaited where he stands", x.cut(3), 0);

        s.says("of like ones the least; NONE: he has ARRIVED, or arrives anyhow");
        x = s.told("s8 9 0;p1 2 9 0 0;p6 5 9 0 0;");
        s.due("cut(0), where he stands or where he wants", x.cut(0), 2);
        x.walk(0, 2);
        s.due("cut(0), he has arrived", x.cut(0), Sentences.NONE);
        x.walk(0, 3);
        s.due("cut(0), it lies behind", x.cut(0), 0);

        s.says("`int cut(int p)`: CUT: the SET; NONE. UNKNOWN.");
        s.due("cut(2)", x.cut(2), Sentences.UNKNOWN);
        s.due("cut(-1)", x.cut(-1), Sentences.UNKNOWN);
        s.due("cut(1)", x.cut(1), 0);
    }

    /** 0 gets out, so 1, met by him, does not, so 2, met by 1, does: without 0's boarding 2 is carried past. */
    private static void cutAhead(Sentences s) {
        s.says("CUT of a PERSON");
        SpiteLine x = s.told("s5 9 0;p0 3 9 0 0;p1 3 0 0 0;p2 3 1 0 0;");
        s.due("cut(0)", x.cut(0), 1);
        s.due("cut(1), he is met", x.cut(1), 0);
        s.due("cut(2), the least lies ahead of where he stands", x.cut(2), 1);
        s.due("train(1)", x.train(1), 5);
    }

    private static void aunts(Sentences s) {
        s.says("AUNTS of a PERSON at a STATION: by whom he would have to be MET (each other PERSON, NONE as bit 8: nobody) "
            + "so that behind the next TRAIN he stands there: a SET.");
        SpiteLine x = s.told(RIDES);
        s.due("aunts(1, 2), 2 would get out behind him", x.aunts(1, 2), 256 + 16 + 8 + 4);
        s.due("aunts(1, 3), 0 stands there", x.aunts(1, 3), 1);
        s.due("aunts(1, 0)", x.aunts(1, 0), 0);
        s.due("aunts(1, 1)", x.aunts(1, 1), 0);
        s.due("aunts(2, 2)", x.aunts(2, 2), 256 + 16 + 8);
        s.due("aunts(2, 3), 1 got out just now", x.aunts(2, 3), 3);
        s.due("aunts(3, 3), he does not board", x.aunts(3, 3), 256 + 16 + 4 + 2 + 1);
        s.due("aunts(3, 0)", x.aunts(3, 0), 0);
        s.due("aunts(4, 3), at the last one whatever else", x.aunts(4, 3), 256 + 8 + 4 + 2 + 1);
        s.due("aunts(0, 0) of one alone", s.told("s2 9 0;p0 1 9 0 0;").aunts(0, 0), 0);
        s.due("aunts(0, 1) of one alone", s.told("s2 9 0;p0 1 9 0 0;").aunts(0, 1), 256);
        x = s.told("s8 9 0;" + "p0 7 9 0 0;".repeat(8));
        s.due("aunts(0, 7) of eight", x.aunts(0, 7), 256 + 254);
        s.due("aunts(7, 7) of eight", x.aunts(7, 7), 256 + 127);
        // by whom he is met as told does not count, by whom others are met does
        x = s.told("s4 9 0;p2 0 9 0 0;p0 2 0 0 0;p0 2 1 0 0;");
        s.due("aunts(1, 2)", x.aunts(1, 2), 256 + 4);
        s.due("aunts(2, 2), 1 does not get out", x.aunts(2, 2), 256 + 2);
        s.due("person(1, 2), as told", x.person(1, 2), 0);
        // through where he wants
        x = s.told("s4 3 0;p0 2 9 0 0;p2 0 9 3 0;");
        s.due("aunts(0, 2), awaited", x.aunts(0, 2), 0);
        s.due("aunts(0, 3), awaited", x.aunts(0, 3), 256 + 2);

        s.says("`int aunts(int p, int x)`: AUNTS. UNKNOWN.");
        s.due("aunts(2, 0)", x.aunts(2, 0), Sentences.UNKNOWN);
        s.due("aunts(-1, 0)", x.aunts(-1, 0), Sentences.UNKNOWN);
        s.due("aunts(0, 4)", x.aunts(0, 4), Sentences.UNKNOWN);
        s.due("aunts(0, -1)", x.aunts(0, -1), Sentences.UNKNOWN);
    }

    private static void chance(Sentences s) {
        s.says("CHANCE of a STATION: odds that nobody there is taken to wait, each by q (0 .. 100) of a hundred times how much SHOWS (100 at most)");
        SpiteLine x = s.told("s5 9 0;p0 1 9 9 3;p1 0 9 1 0;p2 0 9 0 0;p3 0 9 2 0;");
        s.due("chance(4, 100), nobody", x.chance(4, 100), 1000000000);
        s.due("chance(2, 100), nothing shows", x.chance(2, 100), 1000000000);
        s.due("chance(0, 0)", x.chance(0, 0), 1000000000);
        s.due("chance(0, 7), 98", x.chance(0, 7), 20000000);
        s.due("chance(0, 8), above a hundred", x.chance(0, 8), 0);
        s.due("chance(0, 100)", x.chance(0, 100), 0);
        s.due("chance(1, 100), a hundred", x.chance(1, 100), 0);
        s.due("chance(1, 99)", x.chance(1, 99), 10000000);
        s.due("chance(3, 50), a hundred", x.chance(3, 50), 0);
        s.due("chance(3, 49)", x.chance(3, 49), 20000000);
        s.due("chance(3, 51), above a hundred", x.chance(3, 51), 0);

        s.says("`int chance(int x, int q)`: CHANCE. UNKNOWN, OUTSIDE.");
        s.due("chance(5, 0)", x.chance(5, 0), Sentences.UNKNOWN);
        s.due("chance(-1, 0)", x.chance(-1, 0), Sentences.UNKNOWN);
        s.due("chance(0, 101)", x.chance(0, 101), Sentences.OUTSIDE);
        s.due("chance(0, -1)", x.chance(0, -1), Sentences.OUTSIDE);
        s.due("chance(5, 101)", x.chance(5, 101), Sentences.UNKNOWN);
    }

    private static void chanceInTurn(Sentences s) {
        s.says("a BILLION times (100 less that) / 100 for each, rising (cut)");
        // falling, or cut only at the end, it would be one more
        SpiteLine x = s.told("s2 9 0;p0 1 9 5 0;p0 1 9 2 0;p0 1 9 6 0;p0 1 9 9 0;p0 1 9 7 0;p0 1 9 9 0;p0 1 9 4 0;p0 1 9 5 0;");
        s.due("chance(0, 5)", x.chance(0, 5), 55743186);
        // two far above a hundred: nothing is left, not less than nothing twice
        x = s.told("s2 9 0;p0 1 9 9 3;p0 1 9 9 3;");
        s.due("chance(0, 100)", x.chance(0, 100), 0);
        s.due("chance(0, 15)", x.chance(0, 15), 0);
        // each at this station only
        x.walk(1, 1);
        s.due("chance(0, 5)", x.chance(0, 5), 300000000);
        s.due("chance(1, 5)", x.chance(1, 5), 300000000);
    }
}
