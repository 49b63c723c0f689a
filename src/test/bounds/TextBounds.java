/** Section 1 with the texts below it, promises 1 to 4. */
final class TextBounds {
    private static final String PERSON = "p0 1 9 0 0;";

    static void hold(Sentences s) {
        newObject(s);
        letters(s);
        stationClause(s);
        personClause(s);
        metBy(s);
        numbers(s);
        blanks(s);
        firstFault(s);
        leastFault(s);
        cannotStandThere(s);
        numberFaults(s);
        tooMany(s);
        wantsWhereHeStands(s);
        emptyText(s);
        lineClears(s);
        nothingLeft(s);
        lineWithFault(s);
        faultOfLatest(s);
    }

    private static void newObject(Sentences s) {
        s.says("`SpiteLine()`: No LINE.");
        SpiteLine x = new SpiteLine();
        for (int what = 0; what <= 11; what++) {
            s.due("told(" + what + ")", x.told(what), 0);
        }
        s.due("fault()", x.fault(), Sentences.NONE);
        s.due("person(0, 0)", x.person(0, 0), Sentences.UNKNOWN);
        s.due("station(0, 0)", x.station(0, 0), Sentences.UNKNOWN);
        s.due("fog(0)", x.fog(0), Sentences.NOT);
        s.due("train(1)", x.train(1), Sentences.NOT);
        s.due("drift(1)", x.drift(1), Sentences.NOT);
        s.due("undo(1)", x.undo(1), Sentences.NOT);
        s.due("stops()", x.stops(), 0);
        s.due("never(0)", x.never(0), 0);
        s.due("judge()", x.judge(), Sentences.NONE);
        s.due("tear()", x.tear(), 0);
        s.due("goBack(0)", x.goBack(0), Sentences.NOT);
        s.due("goBack(1)", x.goBack(1), Sentences.NOT);
        s.due("seed(0)", x.seed(0), 0);
    }

    private static void letters(Sentences s) {
        s.says("A letter (0 .. 255) comes behind THE TEXT: how many it has. OUTSIDE, FULL (200).");
        SpiteLine x = new SpiteLine();
        s.due("feed(0)", x.feed(0), 1);
        s.due("feed(255)", x.feed(255), 2);
        s.due("feed(-1)", x.feed(-1), Sentences.OUTSIDE);
        s.due("feed(256)", x.feed(256), Sentences.OUTSIDE);
        // 's' in its low eight bits alone
        s.due("feed(256 + 115)", x.feed(256 + 's'), Sentences.OUTSIDE);
        s.due("feed(least)", x.feed(Sentences.LEAST), Sentences.OUTSIDE);
        s.due("feed(most)", x.feed(Sentences.MOST), Sentences.OUTSIDE);
        s.due("told(4)", x.told(4), 2);
        for (int k = 3; k <= 200; k++) {
            s.due("feed(" + k % 256 + ")", x.feed(k % 256), k);
        }
        s.due("feed(32), the 201st", x.feed(32), Sentences.FULL);
        s.due("feed(256), full", x.feed(256), Sentences.OUTSIDE);
        s.due("told(4), full", x.told(4), 200);
        x.line();
        s.due("feed(32) behind line()", x.feed(32), 1);

        s.says("THE LINE is told in a text (200 letters at most), letter by letter");
        String full = "s008 015 009;" + "p000 001 009 009 003;".repeat(8);
        s.reads(full + " ".repeat(200 - full.length()), 8);
        s.reads(" ".repeat(193) + "s2 1 0;", 0);
        s.fails(" ".repeat(199) + "?", 1, 199);
        s.fails("s2 1 0" + " ".repeat(194), 1, 200);
        x = new SpiteLine();
        Sentences.feedAll(x, " ".repeat(193) + "s2 1 0;");
        s.due("feed('?'), the 201st", x.feed('?'), Sentences.FULL);
        s.due("line() without it", x.line(), 0);
        s.due("told(0)", x.told(0), 2);
    }

    private static void stationClause(Sentences s) {
        s.says("STATIONS 0 .. N less 1, N 2 .. 8");
        for (int n = 0; n <= 11; n++) {
            if (n < 2 || n > 8) {
                s.fails("s" + n + " 1 0;", 2, 1);
            } else {
                s.reads("s" + n + " 1 0;", 0);
                SpiteLine x = s.told("s" + n + " 1 0;");
                s.due("told(0) of " + n, x.told(0), n);
                s.due("station(0, 0) of " + n, x.station(0, 0), 0);
                s.due("station(N less 1, 0) of " + n, x.station(n - 1, 0), 0);
                s.due("station(N, 0) of " + n, x.station(n, 0), Sentences.UNKNOWN);
            }
        }

        s.says("THE GUARD has a LIMIT G, 1 .. 15");
        for (int g = 0; g <= 17; g++) {
            if (g < 1 || g > 15) {
                s.fails("s2 " + g + " 0;", 2, 3);
            } else {
                s.reads("s2 " + g + " 0;", 0);
                s.due("told(1)", s.told("s2 " + g + " 0;").told(1), g);
            }
        }

        s.says("FOG F, 0 .. 9; first, once");
        for (int f = 0; f <= 11; f++) {
            if (f > 9) {
                s.fails("s2 1 " + f + ";", 2, 5);
            } else {
                s.reads("s2 1 " + f + ";", 0);
                s.due("told(2)", s.told("s2 1 " + f + ";").told(2), f);
            }
        }
        s.fails(PERSON + "s2 1 0;", 1, 0);
        s.fails("s2 1 0;s2 1 0;", 3, 7);
    }

    private static void personClause(Sentences s) {
        s.says("8 PERSONS at most");
        for (int persons = 0; persons <= 8; persons++) {
            s.reads("s2 1 0;" + PERSON.repeat(persons), persons);
        }
        s.fails("s2 1 0;" + PERSON.repeat(9), 3, 7 + 8 * PERSON.length());

        s.says("stands at STATION X; WANTS to go to STATION W");
        for (int n = 2; n <= 8; n++) {
            String head = "s" + n + " 1 0;p";
            s.reads(head + "0 " + (n - 1) + " 9 0 0;", 1);
            s.reads(head + (n - 1) + " 0 9 0 0;", 1);
            s.fails(head + n + " 0 9 0 0;", 2, 8);
            s.fails(head + "0 " + n + " 9 0 0;", 2, 10);
        }
        SpiteLine x = s.told("s8 1 0;p7 0 9 0 0;p0 7 9 0 0;");
        s.due("person(0, 0)", x.person(0, 0), 7);
        s.due("person(0, 1)", x.person(0, 1), 0);
        s.due("person(1, 0)", x.person(1, 0), 0);
        s.due("person(1, 1)", x.person(1, 1), 7);

        s.says("MIEN C 0 .. 9");
        for (int c = 0; c <= 9; c++) {
            s.due("person(0, 3)", s.told("s2 1 0;p0 1 9 " + c + " 0;").person(0, 3), c);
        }
        s.fails("s2 1 0;p0 1 9 10 0;", 2, 14);
        s.fails("s2 1 0;p0 1 9 999 0;", 2, 14);

        s.says("FEET and flowers T 0 .. 3: 1 his FEET are turned to the rails, 2 he has FLOWERS, 3 both");
        int[] feet = {0, 1, 0, 1};
        int[] flowers = {0, 0, 1, 1};
        for (int t = 0; t <= 3; t++) {
            x = s.told("s2 1 0;p0 1 9 0 " + t + ";");
            s.due("person(0, 4) of T " + t, x.person(0, 4), feet[t]);
            s.due("person(0, 5) of T " + t, x.person(0, 5), flowers[t]);
        }
        s.fails("s2 1 0;p0 1 9 0 4;", 2, 16);
        s.fails("s2 1 0;p0 1 9 0 10;", 2, 16);
    }

    private static void metBy(Sentences s) {
        s.says("is MET by PERSON M told ahead, or 9: by nobody");
        for (int ahead = 0; ahead < 8; ahead++) {
            String head = "s2 1 0;" + PERSON.repeat(ahead);
            int place = head.length() + 5;
            for (int m = 0; m <= 8; m++) {
                if (m < ahead) {
                    s.due("person(p, 2)", s.told(head + "p0 1 " + m + " 0 0;").person(ahead, 2), m);
                } else {
                    s.fails(head + "p0 1 " + m + " 0 0;", 2, place);
                }
            }
            s.due("person(p, 2)", s.told(head + "p0 1 9 0 0;").person(ahead, 2), Sentences.NONE);
            s.fails(head + "p0 1 10 0 0;", 2, place);
        }
    }

    private static void numbers(Sentences s) {
        s.says("NUMBERS have one to three figures");
        s.reads("s2 1 0;p0 1 9 0 0;", 1);
        s.reads("s02 01 00;p00 01 09 00 00;", 1);
        s.reads("s002 015 000;p000 001 009 009 003;", 1);
        s.fails("s0002 1 0;", 2, 1);
        s.fails("s2 0001 0;", 2, 3);
        s.fails("s2 1 0000;", 2, 5);
        s.fails("s2 1 0;p0 1 9 0 0000;", 2, 16);

        s.says("a word is one letter");
        s.fails("ss2 1 0;", 1, 1);
        s.fails("s2 1 0;pp0 1 9 0 0;", 1, 8);
        s.fails("s2 1 0;ps", 1, 8);
        s.fails("sp", 1, 1);

        s.says("two NUMBERS side by side need one");
        s.fails("s21 0;", 2, 1);
        s.fails("s2 10;", 1, 5);
        s.fails("s2 150;", 2, 3);
        s.fails("s2 1 0;p01 9 0 0;", 2, 11);
        s.fails("s2 1 0;p0 1 9 00;", 1, 16);
        s.reads("s2 1 0;p0 1 9 0 0;", 1);
    }

    private static void blanks(Sentences s) {
        s.says("blanks (32) may stand anywhere but within NUMBERS");
        s.reads("   s   2   1   0   ;   p   0   1   9   0   0   ;   ", 1);
        s.reads(" s2 1 0;", 0);
        s.reads("s2 1 0; ", 0);
        s.reads("s2 1 0 ;", 0);
        // 1 5 is not 15, so the 0 is one number too many
        s.fails("s2 1 5 0;", 1, 7);
        s.fails("s2 1 0;p0 1 9 0 0 3;", 1, 18);
        for (int letter : new int[] {0, 9, 10, 11, 12, 13, 31, 33, 160, 255}) {
            s.fails((char) letter + "s2 1 0;", 1, 0);
            s.fails("s" + (char) letter + "2 1 0;", 1, 1);
            s.fails("s2" + (char) letter + "1 0;", 1, 2);
            s.fails("s2 1 0;" + (char) letter, 1, 7);
        }
    }

    private static void firstFault(Sentences s) {
        s.says("at the first letter that has one (the end at the text's length)");
        s.fails("s9 0 10;p?", 2, 1);
        s.fails("s2 0 10;", 2, 3);
        s.fails("s2 1 10?", 2, 5);
        // W like X stands ahead of the wrong M, and behind the wrong X
        s.fails("s2 1 0;p0 0 7 0 0;", 4, 10);
        s.fails("s2 1 0;p2 2 9 0 0;", 2, 8);
        s.fails("s2 1 0;p0 1 7 10 4?", 2, 12);
        s.fails("s2 1 0;s;;;", 3, 7);
        for (int end = 0; end <= Sentences.FOUR.length(); end++) {
            String part = Sentences.FOUR.substring(0, end);
            if (part.isEmpty() || part.endsWith(";")) {
                s.reads(part, part.replaceAll("[^p]", "").length());
            } else {
                s.fails(part, 1, end);
                s.fails(part + "  ", 1, end + 2);
            }
        }
    }

    private static void leastFault(Sentences s) {
        s.says("of these the least");
        // 1 of 1 and 2: a number of four figures where none may stand
        s.fails("5555", 1, 0);
        s.fails("s2 1 0 5555;", 1, 7);
        s.fails("s2 1 0;5555", 1, 7);
        s.fails("s2 1 0;p0 1 9 0 0 5555;", 1, 18);
        // 1 of 1 and 3: 's' again within a clause, a ninth 'p' within one
        s.fails("s2 s", 1, 3);
        s.fails("s2 1 0;p0 1 s", 1, 12);
        s.fails("s2 1 0;" + PERSON.repeat(7) + "p0 1 9 0 p", 1, 7 + 7 * PERSON.length() + 9);
        // 2 of 2 and 4: a W like X of four figures
        s.fails("s2 1 0;p0 0000 9 0 0;", 2, 10);
        s.fails("s2 1 0;p1 0001 9 0 0;", 2, 10);
    }

    private static void cannotStandThere(Sentences s) {
        s.says("1 it cannot stand there (a letter that is no word, another word first than 's')");
        for (int c = 0; c <= 255; c++) {
            first(s, c);
            behindClause(s, c);
            asNumber(s, c);
            asSign(s, c);
        }
        s.fails("p0 1 9 0 0;", 1, 0);
        s.fails("  p", 1, 2);
        s.fails("s;", 1, 1);
        s.fails("s2;", 1, 2);
        s.fails("s2 1;", 1, 4);
        s.fails("s2 1 0;p;", 1, 8);
        s.fails("s2 1 0;p0 1 9 0;", 1, 15);
        s.fails("s2 1 0;;", 1, 7);
        s.fails("s-2 1 0;", 1, 1);
        s.fails("s+2 1 0;", 1, 1);
    }

    private static boolean isFigure(int c) {
        return c >= '0' && c <= '9';
    }

    private static void first(Sentences s, int c) {
        String text = "" + (char) c;
        if (c == ' ') {
            s.reads(text, 0);
        } else {
            s.fails(text, 1, c == 's' ? 1 : 0);
        }
    }

    private static void behindClause(Sentences s, int c) {
        String text = "s4 3 0;" + (char) c;
        if (c == ' ') {
            s.reads(text, 0);
        } else if (c == 's') {
            s.fails(text, 3, 7);
        } else {
            s.fails(text, 1, c == 'p' ? 8 : 7);
        }
    }

    /** Where W is due. */
    private static void asNumber(Sentences s, int c) {
        String text = "s4 3 0;p0 " + (char) c;
        if (c == '0') {
            s.fails(text, 4, 10);
        } else if (isFigure(c)) {
            s.fails(text, c < '4' ? 1 : 2, c < '4' ? 11 : 10);
        } else {
            s.fails(text, 1, c == ' ' ? 11 : 10);
        }
    }

    /** Behind the last number of a clause. */
    private static void asSign(Sentences s, int c) {
        String text = "s4 3 0;p0 1 9 0 0" + (char) c;
        if (c == ';') {
            s.reads(text, 1);
        } else if (isFigure(c)) {
            s.fails(text, c < '4' ? 1 : 2, c < '4' ? 18 : 16);
        } else {
            s.fails(text, 1, c == ' ' ? 18 : 17);
        }
    }

    private static void numberFaults(Sentences s) {
        s.says("2 a NUMBER of four figures or more, or out of its bounds; a STATION that there is not; "
            + "an M that is neither told yet nor 9 (at its first)");
        s.fails("s1000 1 0;", 2, 1);
        s.fails("s 2222", 2, 2);
        // these would be 2 if a number wrapped around at 2 to the 16, 32 or 64
        s.fails("s65538 1 0;", 2, 1);
        s.fails("s4294967298 1 0;", 2, 1);
        s.fails("s18446744073709551618 1 0;", 2, 1);
        s.fails("s" + "0".repeat(190) + "2 1 0;", 2, 1);
        s.fails("s258 1 0;", 2, 1);
        s.fails("s999 1 0;", 2, 1);
        s.fails("s2   16   0;", 2, 5);
        s.fails("s2 1 0;p 2 0 9 0 0;", 2, 9);
        s.fails("s2 1 0;p0  2 9 0 0;", 2, 11);
        s.fails("s2 1 0;p0 1 0 0 0;", 2, 12);
        s.fails("s2 1 0;p0 1  8 0 0;", 2, 13);
        s.fails("s2 1 0;" + PERSON + "p0 1 1 0 0;", 2, 23);
        s.reads("s2 1 0;" + PERSON + "p0 1 0 0 0;", 2);
    }

    private static void tooMany(Sentences s) {
        s.says("3 's' again, a ninth 'p' (at it)");
        s.fails("s2 1 0;s", 3, 7);
        s.fails("s2 1 0;  s2 1 0;", 3, 9);
        s.fails("s2 1 0;" + PERSON + "s2 1 0;", 3, 18);
        s.fails("s2 1 0;" + PERSON.repeat(8) + "p", 3, 95);
        s.fails("s2 1 0;" + PERSON.repeat(8) + " p0 1 9 0 0;", 3, 96);
        s.fails("s2 1 0;" + PERSON.repeat(8) + "s", 3, 95);
        s.reads("s2 1 0;" + PERSON.repeat(8), 8);
    }

    private static void wantsWhereHeStands(Sentences s) {
        s.says("4 W like X (at the W)");
        s.fails("s2 1 0;p0 0 9 0 0;", 4, 10);
        s.fails("s2 1 0;p1 1 9 0 0;", 4, 10);
        s.fails("s8 1 0;p007   7 9 0 0;", 4, 14);
        s.fails("s8 1 0;p7 007 9 0 0;", 4, 10);
        s.fails("s8 1 0;" + PERSON + "p3 3", 4, 21);
    }

    private static void emptyText(Sentences s) {
        s.says("An empty text: no LINE.");
        SpiteLine x = s.told(Sentences.FOUR);
        x.train(1);
        x.fog(5);
        s.due("line()", x.line(), 0);
        s.due("fault()", x.fault(), Sentences.NONE);
        for (int what = 0; what <= 11; what++) {
            s.due("told(" + what + ")", x.told(what), 0);
        }
        s.due("person(0, 0)", x.person(0, 0), Sentences.UNKNOWN);
        s.due("station(0, 0)", x.station(0, 0), Sentences.UNKNOWN);
        s.due("fog(0)", x.fog(0), Sentences.NOT);
        s.due("train(1)", x.train(1), Sentences.NOT);
        s.due("drift(1)", x.drift(1), Sentences.NOT);
        s.due("stops()", x.stops(), 0);
        s.due("a line behind none", Sentences.tell(x, Sentences.FOUR), 4);
    }

    private static void lineClears(Sentences s) {
        s.says("THE TEXT (it is empty then, with a FAULT, too) becomes THE LINE (no TRAINS; nothing RAN, no BOOK; "
            + "IMAGES, what could be undone are gone; THE SEED stays): how many PERSONS");
        SpiteLine x = s.told(Sentences.FOUR);
        x.keep(0);
        x.keep(1);
        x.train(2);
        x.fog(9);
        x.ran(0, true);
        x.write(0, 0);
        x.seed(77);
        s.due("line()", Sentences.tell(x, "s3 2 1;p0 1 9 0 0;"), 1);
        int[] due = {3, 2, 1, 1, 0, 0, 0, 0, 0, 0, 0, 0};
        for (int what = 0; what <= 11; what++) {
            s.due("told(" + what + ")", x.told(what), due[what]);
        }
        s.due("goBack(0)", x.goBack(0), Sentences.NOT);
        s.due("goBack(1)", x.goBack(1), Sentences.NOT);
        s.due("undo(1)", x.undo(1), Sentences.NOT);
        s.due("person(1, 0)", x.person(1, 0), Sentences.UNKNOWN);
        s.due("station(3, 0)", x.station(3, 0), Sentences.UNKNOWN);
        s.due("seed(0)", x.seed(0), 77);
        s.due("the first entry behind it", x.write(0, 0), 1);
        s.due("the first that ran behind it", x.ran(0, true), 1);
    }

    /** A line told behind a greater one is like one told to a new object. */
    private static void nothingLeft(Sentences s) {
        s.says("THE TEXT (it is empty then, with a FAULT, too) becomes THE LINE");
        for (String text : new String[] {"", "s2 1 0;", "s3 2 1;p0 1 9 0 0;", "s2 1 0;p1 0 9 0 0;p0 1 9 3 1;"}) {
            SpiteLine used = s.told("s8 15 9;" + "p0 7 9 9 3;".repeat(2) + "p1 0 0 9 3;".repeat(3) + "p2 0 1 9 3;".repeat(3));
            used.train(3);
            used.ran(7, false);
            used.write(7, 7);
            SpiteLine fresh = new SpiteLine();
            s.due("line() of '" + text + "'", Sentences.tell(used, text), Sentences.tell(fresh, text));
            s.due("all of '" + text + "'", Sentences.lineOf(used), Sentences.lineOf(fresh));
            s.due("stops()", used.stops(), fresh.stops());
            s.due("hoped(NONE)", used.hoped(Sentences.NONE), fresh.hoped(Sentences.NONE));
            s.due("look()", used.look(), fresh.look());
            s.due("never(1)", used.never(1), fresh.never(1));
            s.due("judge()", used.judge(), fresh.judge());
            s.due("chance(0, 10)", used.chance(0, 10), fresh.chance(0, 10));
            s.due("calm(3)", used.calm(3), fresh.calm(3));
            s.due("aunts(0, 1)", used.aunts(0, 1), fresh.aunts(0, 1));
            s.due("drift(5)", used.drift(5), fresh.drift(5));
            s.due("all then", Sentences.lineOf(used), Sentences.lineOf(fresh));
        }
    }

    private static void lineWithFault(Sentences s) {
        s.says("-10 less the number of its FAULT (all is as it was)");
        String[] texts = {"?", "s1", "s2 1 0;s", "s2 1 0;p1 1"};
        for (int kind = 1; kind <= 4; kind++) {
            SpiteLine x = s.told(Sentences.FOUR);
            x.train(2);
            x.keep(1);
            x.fog(4);
            x.seed(77);
            x.mien(0, 9);
            x.ran(1, true);
            x.write(0, 3);
            int[] before = Sentences.lineOf(x);
            s.due("line()", Sentences.tell(x, texts[kind - 1]), -10 - kind);
            s.due("all", Sentences.lineOf(x), before);
            s.due("judge()", x.judge(), Sentences.NONE);
            s.due("hoped(0)", x.hoped(0), 0);
            s.due("undo(2)", x.undo(2), 2);
            s.due("told(2)", x.told(2), 0);
            s.due("goBack(0)", x.goBack(0), Sentences.NOT);
            s.due("seed(1)", x.seed(1), 77);
            s.due("goBack(1)", x.goBack(1), 1);
            s.due("seed(1) of the image", x.seed(1), 0);
        }
    }

    private static void faultOfLatest(Sentences s) {
        s.says("The letter of the FAULT of the latest line(); NONE.");
        SpiteLine x = new SpiteLine();
        s.due("fault() of none", x.fault(), Sentences.NONE);
        Sentences.tell(x, "?");
        s.due("fault() at the first letter", x.fault(), 0);
        Sentences.tell(x, "s2 1 0;" + " ".repeat(192) + "?");
        s.due("fault() at the last letter", x.fault(), 199);
        Sentences.tell(x, "s2 1 0;" + " ".repeat(192) + "p");
        s.due("fault() at the end", x.fault(), 200);
        Sentences.feedAll(x, "s2");
        s.due("fault() while a text comes", x.fault(), 200);
        Sentences.tell(x, " 1 0;");
        s.due("fault() behind a right text", x.fault(), Sentences.NONE);
        Sentences.tell(x, "?");
        x.line();
        s.due("fault() behind an empty text", x.fault(), Sentences.NONE);
    }
}
