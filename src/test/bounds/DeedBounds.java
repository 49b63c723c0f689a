/** Promises 5 to 12: what is told, and the deeds that are no trains. */
final class DeedBounds {
    static void hold(Sentences s) {
        toldOf(s);
        person(s);
        station(s);
        mien(s);
        feetAndFlowers(s);
        walk(s);
        fog(s);
        shows(s);
        awaited(s);
        arrivedOnFoot(s);
    }

    private static void toldOf(Sentences s) {
        s.says("0 STATIONS, 1 LIMIT, 2 FOG, 3 PERSONS, 4 letters of THE TEXT, 5 TRAINS, "
            + "6 where the latest TRAIN stopped (a SET; 0), 7 STATIONS that are AWAITED, 8 who has ARRIVED (SETS), "
            + "9 what RAN, 10 entries of THE BOOK, 11 how many can be undone. OUTSIDE.");
        SpiteLine x = s.told("s8 15 9;p0 7 9 0 0;p7 0 9 9 3;p6 0 9 9 3;");
        toldIs(s, x, 8, 15, 9, 3, 0, 0, 0, 0, 0, 0, 0, 0);
        s.due("told(-1)", x.told(-1), Sentences.OUTSIDE);
        s.due("told(12)", x.told(12), Sentences.OUTSIDE);
        x.train(1);
        toldIs(s, x, 8, 15, 9, 3, 0, 1, 255, 0, 1, 0, 0, 1);
        x.ran(3, true);
        x.write(2, 6);
        x.write(2, 6);
        x.feed('s');
        x.walk(1, 0);
        toldIs(s, x, 8, 15, 9, 3, 1, 1, 255, 0, 3, 1, 2, 2);
        x = s.told("s2 1 0;p0 1 9 1 0;p1 0 9 1 0;");
        toldIs(s, x, 2, 1, 0, 2, 0, 0, 0, 3, 0, 0, 0, 0);
        // all are awaited: the train stops nowhere, though one has run
        x.train(1);
        toldIs(s, x, 2, 1, 0, 2, 0, 1, 0, 3, 0, 0, 0, 1);
        // the latest one only, not all of them
        x = s.told("s2 1 0;p0 1 9 0 0;");
        x.train(1);
        x.mien(0, 1);
        x.train(1);
        s.due("told(6) of the latest", x.told(6), 1);
    }

    private static void toldIs(Sentences s, SpiteLine x, int... due) {
        for (int what = 0; what <= 11; what++) {
            s.due("told(" + what + ")", x.told(what), due[what]);
        }
    }

    private static void person(Sentences s) {
        s.says("Of a PERSON: what = 0 where he stands, 1 W, 2 by whom he is MET (NONE), 3 MIEN, "
            + "4 1 FEET to the rails, 0 not, 5 1 FLOWERS, 0 not, 6 how much SHOWS, 7 1 he has ARRIVED, 0 not. UNKNOWN, OUTSIDE.");
        SpiteLine x = s.told("s8 9 9;p0 7 9 9 3;p7 0 0 0 0;p3 4 1 5 1;p4 3 0 5 2;p5 6 9 1 0;p6 5 9 1 0;p7 6 9 1 0;p1 2 6 8 2;");
        personIs(s, x, 0, 0, 7, Sentences.NONE, 9, 1, 1, 14, 0);
        personIs(s, x, 1, 7, 0, 0, 0, 0, 0, 0, 0);
        personIs(s, x, 2, 3, 4, 1, 5, 1, 0, 7, 0);
        personIs(s, x, 3, 4, 3, 0, 5, 0, 1, 8, 0);
        personIs(s, x, 7, 1, 2, 6, 8, 0, 1, 11, 0);
        x.walk(7, 2);
        x.train(1);
        personIs(s, x, 0, 7, 7, Sentences.NONE, 9, 1, 1, 14, 1);
        personIs(s, x, 7, 2, 2, 6, 8, 0, 1, 11, 1);
        s.due("person(7, 8)", x.person(7, 8), Sentences.OUTSIDE);
        s.due("person(7, -1)", x.person(7, -1), Sentences.OUTSIDE);
        s.due("person(8, 0)", x.person(8, 0), Sentences.UNKNOWN);
        s.due("person(-1, 0)", x.person(-1, 0), Sentences.UNKNOWN);
    }

    private static void personIs(Sentences s, SpiteLine x, int p, int... due) {
        for (int what = 0; what < due.length; what++) {
            s.due("person(" + p + ", " + what + ")", x.person(p, what), due[what]);
        }
    }

    private static void station(Sentences s) {
        s.says("Of a STATION: what = 0 who stands there (a SET), 1 the most that SHOWS (0: nobody). UNKNOWN, OUTSIDE.");
        SpiteLine x = s.told("s8 15 9;p0 7 9 9 3;p0 7 9 9 2;p7 0 9 0 0;" + "p3 0 9 1 0;p3 0 9 2 1;p3 0 9 0 2;");
        s.due("station(0, 0)", x.station(0, 0), 3);
        s.due("station(0, 1)", x.station(0, 1), 14);
        s.due("station(3, 0)", x.station(3, 0), 56);
        s.due("station(3, 1)", x.station(3, 1), 4);
        s.due("station(1, 0), nobody", x.station(1, 0), 0);
        s.due("station(1, 1), nobody", x.station(1, 1), 0);
        s.due("station(7, 0)", x.station(7, 0), 4);
        s.due("station(7, 1), one of whom nothing shows", x.station(7, 1), 0);
        s.due("station(7, 2)", x.station(7, 2), Sentences.OUTSIDE);
        s.due("station(7, -1)", x.station(7, -1), Sentences.OUTSIDE);
        s.due("station(8, 0)", x.station(8, 0), Sentences.UNKNOWN);
        s.due("station(-1, 0)", x.station(-1, 0), Sentences.UNKNOWN);
        x = s.told("s2 9 0;" + "p1 0 9 0 0;".repeat(8));
        s.due("station(1, 0), all", x.station(1, 0), 255);
        s.due("station(1, 1), all", x.station(1, 1), 0);
        x.mien(7, 9);
        s.due("station(1, 1), the last one", x.station(1, 1), 9);
    }

    private static void mien(Sentences s) {
        s.says("MIEN becomes v (0 .. 9): what it was. UNKNOWN, OUTSIDE.");
        SpiteLine x = s.told("s2 15 0;" + "p0 1 9 5 3;".repeat(8));
        for (int p = 0; p < 8; p += 7) {
            s.due("mien(p, 0)", x.mien(p, 0), 5);
            s.due("mien(p, 9)", x.mien(p, 9), 0);
            s.due("mien(p, 9), as it is", x.mien(p, 9), 9);
            s.due("mien(p, -1)", x.mien(p, -1), Sentences.OUTSIDE);
            s.due("mien(p, 10)", x.mien(p, 10), Sentences.OUTSIDE);
            s.due("person(p, 3)", x.person(p, 3), 9);
            s.due("person(p, 6)", x.person(p, 6), 14);
        }
        s.due("person(1, 3), another", x.person(1, 3), 5);
        s.due("mien(8, 0)", x.mien(8, 0), Sentences.UNKNOWN);
        s.due("mien(-1, 0)", x.mien(-1, 0), Sentences.UNKNOWN);
        s.due("told(11)", x.told(11), 6);
    }

    private static void feetAndFlowers(Sentences s) {
        SpiteLine x = s.told("s2 15 0;" + "p0 1 9 5 0;".repeat(7) + "p0 1 9 5 3;");
        s.says("FEET are turned to the rails (is), or away: 1 they were, 0 not. UNKNOWN.");
        s.due("feet(0, false), away already", x.feet(0, false), 0);
        s.due("feet(0, true)", x.feet(0, true), 0);
        s.due("feet(0, true), turned already", x.feet(0, true), 1);
        s.due("feet(7, false)", x.feet(7, false), 1);
        s.due("person(0, 4)", x.person(0, 4), 1);
        s.due("person(0, 5), the flowers", x.person(0, 5), 0);
        s.due("person(1, 4), another", x.person(1, 4), 0);
        s.due("person(7, 4)", x.person(7, 4), 0);
        s.due("person(7, 5), the flowers", x.person(7, 5), 1);
        s.due("feet(8, true)", x.feet(8, true), Sentences.UNKNOWN);
        s.due("feet(-1, true)", x.feet(-1, true), Sentences.UNKNOWN);
        s.due("told(11)", x.told(11), 4);

        s.says("He has FLOWERS (is), or not: 1 he had, 0 not. UNKNOWN.");
        s.due("flowers(1, false), none already", x.flowers(1, false), 0);
        s.due("flowers(1, true)", x.flowers(1, true), 0);
        s.due("flowers(1, true), had already", x.flowers(1, true), 1);
        s.due("flowers(7, false)", x.flowers(7, false), 1);
        s.due("person(1, 5)", x.person(1, 5), 1);
        s.due("person(1, 4), the feet", x.person(1, 4), 0);
        s.due("person(2, 5), another", x.person(2, 5), 0);
        s.due("person(7, 5)", x.person(7, 5), 0);
        s.due("flowers(8, true)", x.flowers(8, true), Sentences.UNKNOWN);
        s.due("flowers(-1, true)", x.flowers(-1, true), Sentences.UNKNOWN);
        s.due("told(11)", x.told(11), 8);
    }

    private static void walk(Sentences s) {
        s.says("He WALKS to a STATION: how far. UNKNOWN.");
        SpiteLine x = s.told("s8 15 0;p0 3 9 5 0;" + "p7 3 9 5 0;".repeat(7));
        s.due("walk(0, 7), from the first to the last", x.walk(0, 7), 7);
        s.due("walk(0, 7), where he stands", x.walk(0, 7), 0);
        s.due("walk(0, 0), back", x.walk(0, 0), 7);
        s.due("walk(7, 6)", x.walk(7, 6), 1);
        s.due("person(7, 0)", x.person(7, 0), 6);
        s.due("walk(0, 8)", x.walk(0, 8), Sentences.UNKNOWN);
        s.due("walk(0, -1)", x.walk(0, -1), Sentences.UNKNOWN);
        s.due("walk(8, 0)", x.walk(8, 0), Sentences.UNKNOWN);
        s.due("walk(-1, 0)", x.walk(-1, 0), Sentences.UNKNOWN);
        s.stand("behind walks", x, 0, 7, 7, 7, 7, 7, 7, 6);
        s.due("told(11)", x.told(11), 4);
        s.due("told(5), no trains", x.told(5), 0);
    }

    private static void fog(Sentences s) {
        s.says("FOG (0 .. 9): what it was. OUTSIDE, NOT: no LINE.");
        SpiteLine x = s.told("s2 1 4;");
        s.due("fog(9)", x.fog(9), 4);
        s.due("fog(9), as it is", x.fog(9), 9);
        s.due("fog(0)", x.fog(0), 9);
        s.due("fog(10)", x.fog(10), Sentences.OUTSIDE);
        s.due("fog(-1)", x.fog(-1), Sentences.OUTSIDE);
        s.due("told(2)", x.told(2), 0);
        s.due("told(11)", x.told(11), 3);
        x.line();
        s.due("fog(0), no line", x.fog(0), Sentences.NOT);
        s.due("fog(9), no line", x.fog(9), Sentences.NOT);
        s.due("fog(10), no line", x.fog(10), Sentences.OUTSIDE);
        s.due("told(2), no line", x.told(2), 0);
    }

    private static void shows(Sentences s) {
        s.says("How much SHOWS: MIEN, 2 more with FEET to the rails, 3 more with FLOWERS.");
        int[] more = {0, 2, 3, 5};
        for (int t = 0; t <= 3; t++) {
            for (int c = 0; c <= 9; c += 3) {
                SpiteLine x = s.told("s2 15 9;p0 1 9 " + c + " " + t + ";");
                s.due("person(0, 6) of C " + c + ", T " + t, x.person(0, 6), c + more[t]);
                s.due("station(0, 1) of C " + c + ", T " + t, x.station(0, 1), c + more[t]);
            }
        }
    }

    private static void awaited(Sentences s) {
        s.says("A STATION is AWAITED, if how much SHOWS of one who stands there is LIMIT and FOG together or more.");
        for (int limit = 1; limit <= 15; limit++) {
            for (int fog = 0; fog <= 9; fog += 3) {
                // 0 to 14 show of him
                for (int shown = 0; shown <= 14; shown++) {
                    String look = shown > 9 ? (shown - 5) + " 3" : shown + " 0";
                    SpiteLine x = s.told("s3 " + limit + " " + fog + ";p1 2 9 " + look + ";");
                    s.due("told(7) of " + shown + " by " + limit + " and " + fog, x.told(7), shown >= limit + fog ? 2 : 0);
                }
            }
        }
        // many who show less are not one who shows enough
        SpiteLine x = s.told("s2 9 0;" + "p0 1 9 8 0;".repeat(8));
        s.due("told(7) of eight who show 8", x.told(7), 0);
        x.mien(7, 9);
        s.due("told(7), the last one shows 9", x.told(7), 1);
        x.walk(7, 1);
        s.due("told(7), he stands at 1", x.told(7), 2);
        x.fog(1);
        s.due("told(7) by fog", x.told(7), 0);
        // nobody stands there: not awaited by the least limit
        s.due("told(7) of nobody", s.told("s8 1 0;").told(7), 0);
        // who has arrived is taken to wait as any other
        x = s.told("s2 1 0;p0 1 9 1 0;");
        x.walk(0, 1);
        s.due("told(7) of one who has arrived", x.told(7), 2);
    }

    private static void arrivedOnFoot(Sentences s) {
        s.says("Who stands where he WANTS to be has ARRIVED (he does not board; if he WALKS elsewhere, he WANTS there again).");
        SpiteLine x = s.told("s4 9 0;p0 2 9 0 0;");
        s.due("told(8) at first", x.told(8), 0);
        x.walk(0, 2);
        s.due("told(8), there", x.told(8), 1);
        s.due("train(1), he does not board", x.train(1), 1);
        s.stand("he does not board", x, 2);
        x.walk(0, 1);
        s.due("told(8), elsewhere", x.told(8), 0);
        s.due("person(0, 1), he wants there", x.person(0, 1), 2);
        s.due("train(1), there again", x.train(1), 1);
        s.stand("there again", x, 2);
        x.walk(0, 3);
        s.due("train(1), it lies behind", x.train(1), 0);
        s.stand("behind it", x, 3);
    }
}
