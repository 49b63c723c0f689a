import java.util.ArrayList;
import java.util.List;

/** Section 3, what ran and the book, promises 23 to 29. */
final class RanBounds {
    /** Four stations, limit 3, one of whom nothing shows at each but the last. */
    private static final String THREE = "s4 3 0;p0 1 9 0 0;p1 2 9 0 0;p2 3 9 0 0;";

    static void hold(Sentences s) {
        ran(s);
        twoAtMost(s);
        allElseAsItIs(s);
        ofTheNextTrain(s);
        order(s);
        hoped(s);
        sure(s);
        look(s);
        lookAlike(s);
        book(s);
        judge(s);
        tear(s);
    }

    private static void setsAre(Sentences s, String when, SpiteLine x, int... due) {
        s.due("hoped(NONE) " + when, x.hoped(Sentences.NONE), due.length);
        for (int i = 0; i < due.length; i++) {
            s.due("hoped(" + i + ") " + when, x.hoped(i), due[i]);
        }
        s.due("hoped(" + due.length + ") " + when, x.hoped(due.length), Sentences.NONE);
    }

    private static void ran(Sentences s) {
        s.says("RAN (8 at most): the next TRAIN STOPS at a STATION, or runs through.");
        SpiteLine x = s.told(THREE);
        for (int k = 1; k <= 8; k++) {
            s.due("ran(3, true)", x.ran(3, true), k);
        }
        s.due("ran(3, true), the ninth", x.ran(3, true), Sentences.FULL);
        s.due("ran(0, false), the ninth", x.ran(0, false), Sentences.FULL);
        s.due("told(9)", x.told(9), 8);
        setsAre(s, "by eight like ones", x, 0, 1, 2, 4, 3, 5, 6);
        // the eighth counts as the first does
        x = s.told(THREE);
        for (int k = 0; k < 7; k++) {
            x.ran(3, true);
        }
        s.due("ran(0, false), the eighth", x.ran(0, false), 8);
        setsAre(s, "by the eighth", x, 1, 3, 5);

        s.says("RAN: how much. UNKNOWN, FULL (8).");
        x = s.told(THREE);
        s.due("ran(4, true)", x.ran(4, true), Sentences.UNKNOWN);
        s.due("ran(-1, false)", x.ran(-1, false), Sentences.UNKNOWN);
        s.due("told(9)", x.told(9), 0);
        s.due("ran(3, false)", x.ran(3, false), 1);
        s.due("ran(0, true)", x.ran(0, true), 2);
    }

    private static void twoAtMost(Sentences s) {
        s.says("HOPED: SETS of PERSONS, 2 at most, whose MIEN would be 9");
        SpiteLine x = s.told(THREE);
        setsAre(s, "by nothing", x, 0, 1, 2, 4, 3, 5, 6);
        x.ran(0, false);
        setsAre(s, "by one", x, 1, 3, 5);
        x.ran(2, false);
        setsAre(s, "by two", x, 5);
        x.ran(1, false);
        setsAre(s, "by three, who are too many", x);
        x = s.told("s2 3 0;");
        setsAre(s, "of nobody", x, 0);
        x.ran(0, false);
        setsAre(s, "of nobody, run through", x);
        x = s.told("s2 3 0;p0 1 9 0 0;");
        setsAre(s, "of one", x, 0, 1);
        // 9 is less than what the guard asks for, or just that
        x = s.told("s2 10 0;p0 1 9 0 0;");
        x.ran(0, false);
        setsAre(s, "by 9 of 10", x);
        x = s.told("s2 9 0;p0 1 9 0 0;");
        x.ran(0, false);
        setsAre(s, "by 9 of 9", x, 1);
        x.fog(1);
        setsAre(s, "by 9 of 9 and fog", x);
    }

    private static void allElseAsItIs(Sentences s) {
        s.says("(all else as it is), by which all that RAN is so: how many");
        // with flowers 12 would show of 0, with feet 11 of 1, with both 14 of 2
        SpiteLine x = s.told("s4 12 0;p0 1 9 0 2;p1 2 9 0 1;p2 3 9 0 3;");
        x.ran(0, false);
        setsAre(s, "flowers", x, 1, 3, 5);
        x.tear();
        x.ran(1, false);
        setsAre(s, "feet", x);
        x.tear();
        x.ran(2, false);
        setsAre(s, "both", x, 4, 5, 6);
        // who waits already: it runs through there whoever hopes
        x = s.told("s3 3 0;p0 1 9 9 0;p1 0 9 0 0;");
        x.ran(0, false);
        setsAre(s, "awaited already", x, 0, 1, 2, 3);
        x.ran(0, true);
        setsAre(s, "both at once", x);
        x.tear();
        x.ran(0, true);
        setsAre(s, "it cannot stop there", x);
        x.tear();
        x.ran(2, false);
        setsAre(s, "nobody stands there", x);
    }

    private static void ofTheNextTrain(Sentences s) {
        s.says("the next TRAIN STOPS at a STATION, or runs through");
        SpiteLine x = s.told(THREE);
        x.ran(0, false);
        x.ran(3, true);
        setsAre(s, "as they stand", x, 1, 3, 5);
        x.walk(0, 3);
        setsAre(s, "who walked to 3 may not hope, and nobody is at 0", x);
        x.undo(1);
        setsAre(s, "as they stood", x, 1, 3, 5);
        x.walk(1, 0);
        setsAre(s, "two at 0", x, 1, 2, 3, 5, 6);
    }

    private static void order(Sentences s) {
        s.says("the i-th (fewest first, then rising)");
        for (int persons = 0; persons <= 8; persons++) {
            List<Integer> due = new ArrayList<>();
            for (int many = 0; many <= 2; many++) {
                for (int set = 0; set < 1 << persons; set++) {
                    if (Integer.bitCount(set) == many) {
                        due.add(set);
                    }
                }
            }
            SpiteLine x = s.told("s2 3 0;" + "p0 1 9 0 0;".repeat(persons));
            setsAre(s, "of " + persons, x, due.stream().mapToInt(Integer::intValue).toArray());
        }
    }

    private static void hoped(Sentences s) {
        s.says("HOPED: i = NONE how many, else the i-th; NONE.");
        SpiteLine x = s.told(THREE);
        s.due("hoped(NONE)", x.hoped(Sentences.NONE), 7);
        s.due("hoped(0)", x.hoped(0), 0);
        s.due("hoped(6)", x.hoped(6), 6);
        s.due("hoped(7)", x.hoped(7), Sentences.NONE);
        s.due("hoped(37)", x.hoped(37), Sentences.NONE);
        s.due("hoped(most)", x.hoped(Sentences.MOST), Sentences.NONE);
        s.due("hoped(-2)", x.hoped(-2), Sentences.NONE);
        s.due("hoped(least)", x.hoped(Sentences.LEAST), Sentences.NONE);
        x = s.told("s2 3 0;" + "p0 1 9 0 0;".repeat(8));
        s.due("hoped(NONE), the most", x.hoped(Sentences.NONE), 37);
        s.due("hoped(36)", x.hoped(36), 192);
        s.due("hoped(37)", x.hoped(37), Sentences.NONE);
        x = new SpiteLine();
        s.due("hoped(NONE), no line", x.hoped(Sentences.NONE), 1);
        s.due("hoped(0), no line", x.hoped(0), 0);
        s.due("hoped(1), no line", x.hoped(1), Sentences.NONE);
    }

    private static void sure(Sentences s) {
        s.says("SURE: those in all of them (0 without any).");
        SpiteLine x = s.told(THREE);
        s.due("sure(), the set of nobody is one", x.sure(), 0);
        x.ran(0, false);
        s.due("sure(), one", x.sure(), 1);
        x.ran(2, false);
        s.due("sure(), two", x.sure(), 5);
        x.ran(1, false);
        s.due("sure(), without any", x.sure(), 0);

        s.says("`int sure()`: SURE.");
        s.due("sure(), no line", new SpiteLine().sure(), 0);
        s.due("sure(), nobody", s.told("s2 1 0;").sure(), 0);
        // either of two, so surely none of them
        x = s.told("s3 3 0;p0 1 9 0 0;p0 1 9 0 0;p1 0 9 0 0;");
        x.ran(0, false);
        s.due("sure(), either", x.sure(), 0);
        x.ran(1, false);
        s.due("sure(), the last one", x.sure(), 4);
        x = s.told("s2 3 0;" + "p0 1 9 0 0;".repeat(7) + "p1 0 9 0 0;");
        x.ran(1, false);
        s.due("sure(), the eighth", x.sure(), 128);
    }

    private static void look(Sentences s) {
        s.says("LOOK: the PERSON by whom these SETS are parted best (in it or not): the greatest part is least");
        // 2, 4, 3, 5, 6, 10, 12: 0 and 3 are in two of seven, 1 and 2 in four
        SpiteLine x = s.told("s4 3 0;p0 1 9 0 0;p1 2 9 0 0;p1 2 9 0 0;p2 0 9 0 0;");
        x.ran(1, false);
        setsAre(s, "to part", x, 2, 4, 3, 5, 6, 10, 12);
        s.due("look()", x.look(), 1);
        // 1, 3, 5, 9, 17: 0 is in all, the others in one of five
        x = s.told("s3 3 0;p0 1 9 0 0;" + "p1 0 9 0 0;".repeat(4));
        x.ran(0, false);
        s.due("look(), who is in all parts nothing", x.look(), 1);
        // as it stops at 0, neither 0 nor 1 is in any set
        x = s.told("s3 3 0;p0 1 9 0 0;p0 1 9 0 0;p1 0 9 0 0;");
        x.ran(0, true);
        setsAre(s, "two sets", x, 0, 4);
        s.due("look(), the last one", x.look(), 2);
    }

    private static void lookAlike(Sentences s) {
        s.says("of like ones the least; NONE: none parts them");
        SpiteLine x = s.told("s2 3 0;" + "p0 1 9 0 0;".repeat(8));
        s.due("look(), eight alike", x.look(), 0);
        s.due("look() of one", s.told("s2 3 0;p0 1 9 0 0;").look(), 0);
        s.due("look() of two", s.told("s2 3 0;p0 1 9 0 0;p1 0 9 0 0;").look(), 0);

        s.says("`int look()`: LOOK; NONE.");
        s.due("look() of nobody", s.told("s2 3 0;").look(), Sentences.NONE);
        s.due("look(), no line", new SpiteLine().look(), Sentences.NONE);
        x = s.told(THREE);
        x.ran(0, false);
        x.ran(1, false);
        setsAre(s, "one set", x, 3);
        s.due("look(), one set", x.look(), Sentences.NONE);
        x.ran(2, false);
        s.due("look(), no set", x.look(), Sentences.NONE);
        x = s.told(THREE);
        x.ran(0, true);
        x.ran(1, true);
        x.ran(2, true);
        setsAre(s, "the set of nobody", x, 0);
        s.due("look(), the set of nobody", x.look(), Sentences.NONE);
    }

    private static void book(Sentences s) {
        s.says("THE BOOK (20 at most) tells where PERSONS stand");
        SpiteLine x = s.told(THREE);
        for (int k = 1; k <= 20; k++) {
            s.due("write()", x.write(k % 3, k % 3), k);
        }
        s.due("write(0, 0), one more", x.write(0, 0), Sentences.FULL);
        s.due("write(0, 3), one more", x.write(0, 3), Sentences.FULL);
        s.due("told(10)", x.told(10), 20);
        s.due("judge()", x.judge(), Sentences.NONE);

        s.says("An entry behind THE BOOK: how many. UNKNOWN, FULL (20).");
        s.due("write(3, 0), full", x.write(3, 0), Sentences.UNKNOWN);
        s.due("write(0, 4), full", x.write(0, 4), Sentences.UNKNOWN);
        x = s.told(THREE);
        s.due("write(3, 0)", x.write(3, 0), Sentences.UNKNOWN);
        s.due("write(-1, 0)", x.write(-1, 0), Sentences.UNKNOWN);
        s.due("write(0, 4)", x.write(0, 4), Sentences.UNKNOWN);
        s.due("write(0, -1)", x.write(0, -1), Sentences.UNKNOWN);
        s.due("told(10)", x.told(10), 0);
        s.due("write(2, 3)", x.write(2, 3), 1);
        s.due("write(2, 3), the same", x.write(2, 3), 2);
    }

    private static void judge(Sentences s) {
        s.says("WRONG: the first that is otherwise now; NONE.");
        SpiteLine x = s.told(THREE);
        s.due("judge(), no book", x.judge(), Sentences.NONE);
        for (int k = 0; k < 19; k++) {
            x.write(0, 0);
        }
        x.write(2, 2);
        s.due("judge(), all is so", x.judge(), Sentences.NONE);
        x.walk(2, 3);
        s.due("judge(), the last", x.judge(), 19);
        x.walk(0, 3);
        s.due("judge(), the first", x.judge(), 0);
        x.undo(2);
        s.due("judge(), all is so now", x.judge(), Sentences.NONE);
        x.train(1);
        s.due("judge(), behind a train", x.judge(), 0);

        s.says("`int judge()`: WRONG; NONE.");
        s.due("judge(), no line", new SpiteLine().judge(), Sentences.NONE);
        x = s.told(THREE);
        x.write(0, 0);
        x.write(0, 1);
        x.write(0, 2);
        s.due("judge(), entries that differ", x.judge(), 1);
    }

    private static void tear(Sentences s) {
        s.says("Nothing RAN, no BOOK: how much both had.");
        SpiteLine x = s.told(THREE);
        s.due("tear(), none", x.tear(), 0);
        for (int k = 0; k < 20; k++) {
            x.write(0, 1);
            x.ran(0, false);
        }
        s.due("tear(), full", x.tear(), 28);
        s.due("told(9)", x.told(9), 0);
        s.due("told(10)", x.told(10), 0);
        s.due("judge()", x.judge(), Sentences.NONE);
        setsAre(s, "by nothing", x, 0, 1, 2, 4, 3, 5, 6);
        s.due("tear(), none again", x.tear(), 0);
        s.due("ran(0, true)", x.ran(0, true), 1);
        s.due("tear(), what ran only", x.tear(), 1);
        s.due("write(0, 0)", x.write(0, 0), 1);
        s.due("tear(), the book only", x.tear(), 1);
        s.due("tear(), no line", new SpiteLine().tear(), 0);
    }
}
