/** Each promise by itself: ordinary inputs, the edges that the document names, wrong inputs. */
public final class SpiteLinePromises {
    private static final int NONE = -1, UNKNOWN = -1000000001, OUTSIDE = -1000000002, NOT = -1000000003, FULL = -1000000004;
    /** Four stations, limit 3: who stands 0, 1, 3, 0 and wants 3, 3, 0, 1; 1 is met by 0. */
    private static final String FOUR = "s4 3 0;p0 3 9 0 0;p1 3 0 2 0;p3 0 9 3 0;p0 1 9 1 0;";
    private static int wrong = 0;
    private static int promise = 0;

    private static void due(String call, int got, int want) {
        if (got != want) {
            wrong++;
            System.out.println("promise " + promise + ": " + call + " answered " + got + ", due is " + want);
        }
    }

    private static int tell(SpiteLine x, String text) {
        for (int i = 0; i < text.length(); i++) {
            x.feed(text.charAt(i));
        }
        return x.line();
    }

    private static SpiteLine told(String text) {
        SpiteLine x = new SpiteLine();
        int answer = tell(x, text);
        if (answer < 0) {
            due("line() of " + text, answer, 0);
        }
        return x;
    }

    private static void fails(String text, int kind, int place) {
        SpiteLine x = told(FOUR);
        due("line() of '" + text + "'", tell(x, text), -10 - kind);
        due("fault() of '" + text + "'", x.fault(), place);
        due("told(3) behind a fault", x.told(3), 4);
        due("told(4) behind a fault", x.told(4), 0);
    }

    private static void reads(String text, int persons) {
        SpiteLine x = told(FOUR);
        tell(x, "?");
        due("line() of '" + text + "'", tell(x, text), persons);
        due("fault() of '" + text + "'", x.fault(), NONE);
        due("told(3) of '" + text + "'", x.told(3), persons);
    }

    public static void main(String[] args) {
        newObject();
        feed();
        lineThatReads();
        lineThatFails();
        lineThatClears();
        fault();
        toldOf();
        person();
        station();
        faces();
        walk();
        fog();
        trains();
        meetings();
        trainsFull();
        drift();
        undo();
        stops();
        calm();
        journey();
        never();
        cut();
        aunts();
        chance();
        ran();
        hoped();
        book();
        seed();
        images();
        System.out.println(wrong == 0 ? "all promises hold" : wrong + " answers are not as due");
        if (wrong != 0) {
            System.exit(1);
        }
    }

    private static void newObject() {
        promise = 1;
        SpiteLine x = new SpiteLine();
        for (int what = 0; what <= 11; what++) {
            due("told(" + what + ")", x.told(what), 0);
        }
        due("fault()", x.fault(), NONE);
        due("person(0, 0)", x.person(0, 0), UNKNOWN);
        due("station(0, 0)", x.station(0, 0), UNKNOWN);
        due("mien(0, 0)", x.mien(0, 0), UNKNOWN);
        due("walk(0, 0)", x.walk(0, 0), UNKNOWN);
        due("stops()", x.stops(), 0);
        due("calm(0)", x.calm(0), 0);
        due("calm(1)", x.calm(1), UNKNOWN);
        due("journey(0)", x.journey(0), UNKNOWN);
        due("never(20)", x.never(20), 0);
        due("cut(0)", x.cut(0), UNKNOWN);
        due("aunts(0, 0)", x.aunts(0, 0), UNKNOWN);
        due("chance(0, 0)", x.chance(0, 0), UNKNOWN);
        due("ran(0, true)", x.ran(0, true), UNKNOWN);
        due("hoped(NONE)", x.hoped(NONE), 1);
        due("hoped(0)", x.hoped(0), 0);
        due("sure()", x.sure(), 0);
        due("look()", x.look(), NONE);
        due("write(0, 0)", x.write(0, 0), UNKNOWN);
        due("judge()", x.judge(), NONE);
        due("tear()", x.tear(), 0);
        due("undo(1)", x.undo(1), NOT);
        due("goBack(0)", x.goBack(0), NOT);
        due("seed(0)", x.seed(0), 0);
        due("line()", x.line(), 0);
        due("fault()", x.fault(), NONE);
    }

    private static void feed() {
        promise = 2;
        SpiteLine x = new SpiteLine();
        due("feed(-1)", x.feed(-1), OUTSIDE);
        due("feed(256)", x.feed(256), OUTSIDE);
        due("feed(0)", x.feed(0), 1);
        due("feed(255)", x.feed(255), 2);
        due("told(4)", x.told(4), 2);
        for (int i = 3; i <= 200; i++) {
            due("feed(32)", x.feed(32), i);
        }
        due("feed(32)", x.feed(32), FULL);
        due("feed(256)", x.feed(256), OUTSIDE);
        due("told(4)", x.told(4), 200);
        due("line()", x.line(), -11);
        due("feed(115)", x.feed(115), 1);
    }

    private static void lineThatReads() {
        promise = 3;
        reads("", 0);
        reads("   ", 0);
        reads("s2 1 0;", 0);
        reads("s8 15 9;", 0);
        reads("s002 001 000;", 0);
        reads(" s 2 1 0 ; p 0 1 9 0 0 ; ", 1);
        reads("s2 1 0;p1 0 9 9 3;p0 1 0 0 0;p0 1 1 0 0;", 3);
        reads("s2 1 0;" + "p0 1 9 0 0;".repeat(8), 8);
        SpiteLine x = told(FOUR);
        tell(x, "");
        due("told(0) without a line", x.told(0), 0);
        due("train(1) without a line", x.train(1), NOT);
        x = told(" ".repeat(189) + "s7 12 3;");
        due("told(0)", x.told(0), 7);
        due("told(1)", x.told(1), 12);
        due("told(2)", x.told(2), 3);
    }

    private static void lineThatFails() {
        promise = 3;
        fails("?", 1, 0);
        fails(";", 1, 0);
        fails("5", 1, 0);
        fails("5555", 1, 0);
        fails("S2 1 0;", 1, 0);
        fails("\t", 1, 0);
        fails("\u00e9", 1, 0);
        fails("p0 1 9 0 0;", 1, 0);
        fails("  p", 1, 2);
        fails("s", 1, 1);
        fails("s  ", 1, 3);
        fails("s2", 1, 2);
        fails("s2 1 0", 1, 6);
        fails("s2 1;", 1, 4);
        fails("s2 s", 1, 3);
        fails("s2 1 0 5;", 1, 7);
        fails("s2 1 0 5555;", 1, 7);
        fails("s2 1 0;;", 1, 7);
        fails("s2 1 0;q", 1, 7);
        fails("s2 1 0;p0 1 9 0;", 1, 15);
        fails("s2 1 0;p0 1 9 0 0", 1, 17);
        fails("s1 1 0;", 2, 1);
        fails("s9 1 0;", 2, 1);
        fails("s2 0 0;", 2, 3);
        fails("s2 16 0;", 2, 3);
        fails("s2 1 10;", 2, 5);
        fails("s0002 1 0;", 2, 1);
        fails("s 99999999999999999999", 2, 2);
        fails("s2 1 0;p2 0 9 0 0;", 2, 8);
        fails("s2 1 0;p0 2 9 0 0;", 2, 10);
        fails("s2 1 0;p0 1 0 0 0;", 2, 12);
        fails("s2 1 0;p0 1 8 0 0;", 2, 12);
        fails("s2 1 0;p0 1 10 0 0;", 2, 12);
        fails("s2 1 0;p0 1 9 0 0;p0 1 1 0 0;", 2, 23);
        fails("s2 1 0;p0 1 9 10 0;", 2, 14);
        fails("s2 1 0;p0 1 9 0 4;", 2, 16);
        fails("s2 1 0;s", 3, 7);
        fails("s2 1 0;p0 1 9 0 0; s2 1 0;", 3, 19);
        fails("s2 1 0;" + "p0 1 9 0 0;".repeat(8) + "p", 3, 95);
        fails("s2 1 0;" + "p0 1 9 0 0;".repeat(8) + "q", 1, 95);
        fails("s2 1 0;p0 0 9 0 0;", 4, 10);
        fails("s2 1 0;p1 001 8 0 0;", 4, 10);
    }

    private static void lineThatClears() {
        promise = 3;
        SpiteLine x = told(FOUR);
        x.train(2);
        x.keep(0);
        x.mien(0, 4);
        x.ran(0, true);
        x.write(0, 0);
        x.seed(77);
        tell(x, "s2 1 0;s");
        due("told(5) behind a fault", x.told(5), 2);
        due("told(9) behind a fault", x.told(9), 1);
        due("told(10) behind a fault", x.told(10), 1);
        due("told(11) behind a fault", x.told(11), 1);
        due("goBack(0) behind a fault", x.goBack(0), 1);
        due("seed(78)", x.seed(78), 0);
        x.keep(1);
        x.mien(0, 4);
        tell(x, FOUR);
        for (int what = 5; what <= 11; what++) {
            if (what != 7) {
                due("told(" + what + ")", x.told(what), 0);
            }
        }
        due("goBack(0)", x.goBack(0), NOT);
        due("goBack(1)", x.goBack(1), NOT);
        due("undo(1)", x.undo(1), NOT);
        due("seed(1)", x.seed(1), 78);
    }

    private static void fault() {
        promise = 4;
        SpiteLine x = new SpiteLine();
        due("fault()", x.fault(), NONE);
        tell(x, "s2 1 0;q");
        due("fault()", x.fault(), 7);
        x.feed('s');
        due("fault() while the next text is fed", x.fault(), 7);
        x.line();
        due("fault()", x.fault(), 1);
        tell(x, "s2 1 0;");
        due("fault()", x.fault(), NONE);
    }

    private static void toldOf() {
        promise = 5;
        SpiteLine x = told("s4 3 1;p0 3 9 0 0;p1 3 0 2 1;p3 0 9 3 0;");
        int[] first = {4, 3, 1, 3, 0, 0, 0, 2, 0, 0, 0, 0};
        for (int what = 0; what < first.length; what++) {
            due("told(" + what + ")", x.told(what), first[what]);
        }
        due("told(-1)", x.told(-1), OUTSIDE);
        due("told(12)", x.told(12), OUTSIDE);
        x.feed('s');
        x.train(1);
        x.ran(0, true);
        x.ran(0, true);
        x.write(0, 0);
        x.fog(5);
        int[] later = {4, 3, 5, 3, 1, 1, 13, 0, 1, 2, 1, 2};
        for (int what = 0; what < later.length; what++) {
            due("told(" + what + ")", x.told(what), later[what]);
        }
    }

    private static void person() {
        promise = 6;
        SpiteLine x = told("s3 5 0;p0 2 9 4 3;p2 0 0 9 1;p1 2 9 0 2;");
        int[][] all = {{0, 2, NONE, 4, 1, 1, 9, 0}, {2, 0, 0, 9, 1, 0, 11, 0}, {1, 2, NONE, 0, 0, 1, 3, 0}};
        for (int p = 0; p < 3; p++) {
            for (int what = 0; what < 8; what++) {
                due("person(" + p + ", " + what + ")", x.person(p, what), all[p][what]);
            }
        }
        x.walk(1, 0);
        due("person(1, 7)", x.person(1, 7), 1);
        due("person(3, 0)", x.person(3, 0), UNKNOWN);
        due("person(-1, 0)", x.person(-1, 0), UNKNOWN);
        due("person(8, 99)", x.person(8, 99), UNKNOWN);
        due("person(0, 8)", x.person(0, 8), OUTSIDE);
        due("person(0, -1)", x.person(0, -1), OUTSIDE);
    }

    private static void station() {
        promise = 7;
        SpiteLine x = told("s3 5 0;p0 2 9 4 0;p0 1 0 1 3;p2 0 9 0 0;");
        due("station(0, 0)", x.station(0, 0), 3);
        due("station(0, 1)", x.station(0, 1), 6);
        due("station(1, 0)", x.station(1, 0), 0);
        due("station(1, 1)", x.station(1, 1), 0);
        due("station(2, 0)", x.station(2, 0), 4);
        due("station(2, 1)", x.station(2, 1), 0);
        due("station(3, 0)", x.station(3, 0), UNKNOWN);
        due("station(-1, 9)", x.station(-1, 9), UNKNOWN);
        due("station(0, 2)", x.station(0, 2), OUTSIDE);
        due("station(0, -1)", x.station(0, -1), OUTSIDE);
    }

    private static void faces() {
        promise = 8;
        SpiteLine x = told(FOUR);
        due("mien(1, 9)", x.mien(1, 9), 2);
        due("mien(1, 0)", x.mien(1, 0), 9);
        due("mien(1, 10)", x.mien(1, 10), OUTSIDE);
        due("mien(1, -1)", x.mien(1, -1), OUTSIDE);
        due("mien(4, 10)", x.mien(4, 10), UNKNOWN);
        due("mien(-1, 0)", x.mien(-1, 0), UNKNOWN);
        due("told(11)", x.told(11), 2);
        promise = 9;
        due("feet(1, true)", x.feet(1, true), 0);
        due("feet(1, true)", x.feet(1, true), 1);
        due("person(1, 6)", x.person(1, 6), 2);
        due("feet(1, false)", x.feet(1, false), 1);
        due("person(1, 4)", x.person(1, 4), 0);
        due("feet(4, true)", x.feet(4, true), UNKNOWN);
        due("feet(-1, true)", x.feet(-1, true), UNKNOWN);
        due("told(11)", x.told(11), 5);
        promise = 10;
        due("flowers(3, true)", x.flowers(3, true), 0);
        due("person(3, 6)", x.person(3, 6), 4);
        due("person(3, 5)", x.person(3, 5), 1);
        due("flowers(3, false)", x.flowers(3, false), 1);
        due("flowers(3, false)", x.flowers(3, false), 0);
        due("flowers(4, true)", x.flowers(4, true), UNKNOWN);
        due("flowers(-1, true)", x.flowers(-1, true), UNKNOWN);
        due("told(11)", x.told(11), 8);
    }

    private static void walk() {
        promise = 11;
        SpiteLine x = told(FOUR);
        due("walk(0, 3)", x.walk(0, 3), 3);
        due("told(8)", x.told(8), 1);
        due("walk(0, 1)", x.walk(0, 1), 2);
        due("told(8)", x.told(8), 0);
        due("walk(0, 1)", x.walk(0, 1), 0);
        due("station(1, 0)", x.station(1, 0), 3);
        due("walk(0, 4)", x.walk(0, 4), UNKNOWN);
        due("walk(0, -1)", x.walk(0, -1), UNKNOWN);
        due("walk(4, 0)", x.walk(4, 0), UNKNOWN);
        due("walk(-1, 0)", x.walk(-1, 0), UNKNOWN);
        due("told(11)", x.told(11), 3);
        due("journey(0)", x.journey(0), 1);
    }

    private static void fog() {
        promise = 12;
        SpiteLine x = told("s2 1 3;");
        due("fog(9)", x.fog(9), 3);
        due("fog(0)", x.fog(0), 9);
        due("fog(10)", x.fog(10), OUTSIDE);
        due("fog(-1)", x.fog(-1), OUTSIDE);
        due("told(2)", x.told(2), 0);
        x = new SpiteLine();
        due("fog(1)", x.fog(1), NOT);
        due("fog(10)", x.fog(10), OUTSIDE);
        x = told("s2 3 0;p0 1 9 3 0;");
        due("told(7)", x.told(7), 1);
        x.fog(1);
        due("told(7)", x.told(7), 0);
    }

    private static void trains() {
        promise = 13;
        SpiteLine x = told(FOUR);
        due("train(0)", x.train(0), OUTSIDE);
        due("train(21)", x.train(21), OUTSIDE);
        due("train(1)", x.train(1), 11);
        due("told(6)", x.told(6), 7);
        due("station(3, 0)", x.station(3, 0), 7);
        due("station(1, 0)", x.station(1, 0), 8);
        due("train(20)", x.train(20), 11);
        due("told(5)", x.told(5), 21);
        x = new SpiteLine();
        due("train(21)", x.train(21), OUTSIDE);
        due("train(20)", x.train(20), NOT);
        x = told("s2 1 0;");
        due("train(1)", x.train(1), 0);
        due("told(6)", x.told(6), 3);
        // the last station is awaited: it runs through, but who is on board gets out
        x = told("s3 3 0;p0 2 9 0 0;p2 0 9 9 0;p0 1 9 0 0;");
        due("train(1)", x.train(1), 5);
        due("told(6)", x.told(6), 3);
        // the station that he wants is awaited: he is carried on to the last one and stays
        x = told("s4 3 0;p0 1 9 0 0;p1 0 9 3 0;");
        due("train(1)", x.train(1), 0);
        due("person(0, 0)", x.person(0, 0), 3);
        due("train(5)", x.train(5), 0);
        due("person(0, 0)", x.person(0, 0), 3);
    }

    private static void meetings() {
        promise = 13;
        behindAndThere();
        // he by whom 1 is met stands at 1's station
        SpiteLine x = told("s4 9 0;p2 3 9 0 0;p0 2 0 0 0;");
        due("train(1)", x.train(1), 1);
        due("person(1, 0)", x.person(1, 0), 3);
        // he gets out there just now
        x = told("s4 9 0;p0 2 9 0 0;p1 2 0 0 0;");
        due("train(1)", x.train(1), 1);
        due("person(1, 0)", x.person(1, 0), 3);
        // he is on board yet and goes on
        x = told("s4 9 0;p0 3 9 0 0;p1 2 0 0 0;");
        due("train(1)", x.train(1), 3);
        // a chain: 1 cannot get out as 0 does, so 2 can, as 1 does not stand there
        x = told("s4 9 0;p0 2 9 0 0;p0 2 0 0 0;p0 2 1 0 0;");
        due("train(1)", x.train(1), 5);
        // at the last one meeting does not hold him back
        x = told("s3 9 0;p2 0 9 0 0;p0 2 0 0 0;");
        due("train(1)", x.train(1), 2);
    }

    private static void behindAndThere() {
        // who wants back does not board, nor who is where he wants to be, though the train stops
        SpiteLine x = told("s4 9 0;p1 0 9 0 0;p2 3 9 0 0;");
        due("train(1)", x.train(1), 2);
        due("person(0, 0)", x.person(0, 0), 1);
        x.walk(0, 0);
        due("train(1)", x.train(1), 3);
        due("told(6)", x.told(6), 15);
        due("person(0, 0)", x.person(0, 0), 0);
    }

    private static void trainsFull() {
        promise = 13;
        SpiteLine x = told("s2 1 0;p0 1 9 0 0;");
        for (int k = 0; k < 450; k++) {
            x.train(20);
        }
        due("told(5)", x.told(5), 9000);
        due("train(1)", x.train(1), 1);
        due("train(1) above 9000", x.train(1), FULL);
        due("drift(1) above 9000", x.drift(1), FULL);
        due("train(21) above 9000", x.train(21), OUTSIDE);
        due("seed(0)", x.seed(0), 0);
        due("undo(1)", x.undo(1), 9000);
        due("drift(20)", x.drift(20), 1);
        due("told(5)", x.told(5), 9020);
    }

    private static void drift() {
        promise = 14;
        SpiteLine x = new SpiteLine();
        due("drift(0)", x.drift(0), OUTSIDE);
        due("drift(21)", x.drift(21), OUTSIDE);
        due("drift(1)", x.drift(1), NOT);
        x = told("s2 15 0;p0 1 9 0 0;p1 0 9 0 0;");
        x.seed(1);
        // 1103527590 / 65536 = 16838 is even: 0; 377401575 / 65536 = 5758: 8; 662824084 / 65536 = 10113: 3
        due("drift(1)", x.drift(1), 1);
        due("person(0, 3)", x.person(0, 3), 8);
        due("person(1, 3)", x.person(1, 3), 0);
        due("told(2)", x.told(2), 3);
        due("told(5)", x.told(5), 1);
        due("seed(1)", x.seed(1), 662824084);
        x = told("s2 15 0;");
        x.seed(1);
        // without persons the first draw is the fog's: 16838 left over by 6
        due("drift(1)", x.drift(1), 0);
        due("told(2)", x.told(2), 2);
        due("seed(1)", x.seed(1), 1103527590);
    }

    private static void undo() {
        promise = 15;
        SpiteLine x = told(FOUR);
        due("undo(0)", x.undo(0), OUTSIDE);
        due("undo(31)", x.undo(31), OUTSIDE);
        due("undo(1)", x.undo(1), NOT);
        x.mien(0, 5);
        x.feet(0, true);
        x.flowers(0, true);
        x.walk(0, 2);
        x.fog(7);
        due("told(11)", x.told(11), 5);
        due("undo(6)", x.undo(6), NOT);
        due("undo(1)", x.undo(1), 0);
        due("told(2)", x.told(2), 0);
        due("person(0, 0)", x.person(0, 0), 2);
        due("undo(1)", x.undo(1), 0);
        due("person(0, 0)", x.person(0, 0), 0);
        due("person(0, 6)", x.person(0, 6), 10);
        due("undo(3)", x.undo(3), 0);
        due("person(0, 6)", x.person(0, 6), 0);
        x.mien(0, 10);
        x.walk(0, 4);
        due("told(11) behind refusals", x.told(11), 0);
        x.train(1);
        int stopped = x.told(6);
        x.mien(3, 9);
        x.train(1);
        due("told(6)", x.told(6), 5);
        due("undo(1)", x.undo(1), 1);
        due("told(6) undone", x.told(6), stopped);
        due("undo(2)", x.undo(2), 0);
        due("told(6) undone", x.told(6), 0);
        x.seed(9);
        x.drift(2);
        due("undo(1)", x.undo(1), 1);
        due("undo(1)", x.undo(1), 0);
        due("told(2)", x.told(2), 0);
        due("the seed is not undone", x.seed(9), seedBehind(9, 6));
        undoOfMany();
    }

    private static int seedBehind(long seed, int draws) {
        for (int k = 0; k < draws; k++) {
            seed = (seed * 1103515245L + 12345L) % 2147483648L;
        }
        return (int) seed;
    }

    private static void undoOfMany() {
        SpiteLine x = told("s2 1 0;p0 1 9 0 0;");
        x.ran(0, true);
        x.write(0, 0);
        for (int k = 1; k <= 47; k++) {
            x.fog(k % 10);
        }
        due("told(11)", x.told(11), 30);
        due("undo(5)", x.undo(5), 0);
        due("told(2)", x.told(2), 2);
        due("undo(26)", x.undo(26), NOT);
        due("undo(25)", x.undo(25), 0);
        due("told(2)", x.told(2), 7);
        due("told(11)", x.told(11), 0);
        due("told(9) is not undone", x.told(9), 1);
        due("told(10) is not undone", x.told(10), 1);
        x.train(20);
        x.train(20);
        due("undo(30)", x.undo(30), 10);
    }

    private static void stops() {
        promise = 16;
        SpiteLine x = told(FOUR);
        due("stops()", x.stops(), 7);
        x.mien(3, 3);
        due("stops()", x.stops(), 6);
        x.fog(1);
        due("stops()", x.stops(), 15);
        due("told(5)", x.told(5), 0);
        due("told(6)", x.told(6), 0);
    }

    private static void calm() {
        promise = 17;
        SpiteLine x = told("s3 4 1;p0 1 9 9 3;p0 1 9 5 0;p1 0 9 4 0;p2 0 9 6 0;");
        due("calm(0)", x.calm(0), 0);
        due("calm(1)", x.calm(1), 11);
        due("calm(2)", x.calm(2), 0);
        due("calm(4)", x.calm(4), 2);
        due("calm(7)", x.calm(7), 13);
        due("calm(8)", x.calm(8), UNKNOWN);
        due("calm(9)", x.calm(9), UNKNOWN);
        due("calm(-1)", x.calm(-1), UNKNOWN);
        due("calm(min)", x.calm(Integer.MIN_VALUE), UNKNOWN);
    }

    private static void journey() {
        promise = 18;
        SpiteLine x = told("s4 9 0;p1 3 9 9 0;p0 1 9 0 0;p0 3 0 0 0;p3 0 9 0 0;");
        due("journey(0)", x.journey(0), NONE);
        due("journey(1)", x.journey(1), NONE);
        due("journey(2)", x.journey(2), 1);
        due("journey(3)", x.journey(3), NONE);
        due("journey(4)", x.journey(4), UNKNOWN);
        due("journey(-1)", x.journey(-1), UNKNOWN);
        due("told(5)", x.told(5), 0);
        due("person(2, 0)", x.person(2, 0), 0);
        x.walk(3, 0);
        due("journey(3)", x.journey(3), 0);
        // the station where he stands is awaited because of another
        x = told("s3 3 0;p0 2 9 0 0;p0 1 9 9 0;");
        due("journey(0)", x.journey(0), NONE);
        x.mien(1, 0);
        due("journey(0)", x.journey(0), 1);
    }

    private static void never() {
        promise = 19;
        SpiteLine x = told("s3 3 0;p0 1 9 2 0;p1 2 9 3 0;p2 0 9 0 0;");
        due("never(0)", x.never(0), 7);
        due("never(1)", x.never(1), 2);
        due("never(20)", x.never(20), 2);
        due("never(21)", x.never(21), OUTSIDE);
        due("never(-1)", x.never(-1), OUTSIDE);
        due("told(5)", x.told(5), 0);
    }

    private static void cut() {
        promise = 20;
        SpiteLine x = told("s4 3 0;p1 2 9 0 0;p1 0 9 0 0;p0 2 9 0 0;p3 0 9 9 0;");
        due("cut(0)", x.cut(0), 2);
        due("cut(1)", x.cut(1), 0);
        due("cut(2)", x.cut(2), 1);
        due("cut(4)", x.cut(4), UNKNOWN);
        due("cut(-1)", x.cut(-1), UNKNOWN);
        x.walk(0, 2);
        due("cut(0)", x.cut(0), NONE);
        x.walk(0, 1);
        x.mien(1, 9);
        due("cut(0)", x.cut(0), 0);
        due("told(5)", x.told(5), 0);
    }

    private static void aunts() {
        promise = 21;
        SpiteLine x = told("s4 9 0;p2 0 9 0 0;p0 2 0 0 0;p1 2 9 0 0;p3 0 9 0 0;");
        // 2 stands at 1 and gets out at 2 behind 1, who goes first
        due("aunts(1, 2)", x.aunts(1, 2), 256 + 8 + 4);
        due("aunts(1, 3)", x.aunts(1, 3), 1);
        due("aunts(1, 0)", x.aunts(1, 0), 0);
        // 1, met by 0, does not get out at 2, so he cannot hold 2 back
        due("aunts(2, 2)", x.aunts(2, 2), 256 + 8 + 2);
        due("aunts(3, 3)", x.aunts(3, 3), 256 + 7);
        due("person(1, 2)", x.person(1, 2), 0);
        due("aunts(4, 0)", x.aunts(4, 0), UNKNOWN);
        due("aunts(0, 4)", x.aunts(0, 4), UNKNOWN);
        due("aunts(-1, 0)", x.aunts(-1, 0), UNKNOWN);
        due("aunts(0, -1)", x.aunts(0, -1), UNKNOWN);
    }

    private static void chance() {
        promise = 22;
        SpiteLine x = told("s3 9 0;p0 1 9 3 0;p0 1 9 4 0;p0 1 9 5 0;p0 1 9 6 0;p0 1 9 7 0;p1 0 9 9 3;");
        due("chance(2, 100)", x.chance(2, 100), 1000000000);
        due("chance(0, 0)", x.chance(0, 0), 1000000000);
        // 97 96 95 94 93 of a hundred
        due("chance(0, 1)", x.chance(0, 1), 773352288);
        due("chance(1, 7)", x.chance(1, 7), 20000000);
        due("chance(1, 8)", x.chance(1, 8), 0);
        due("chance(1, 100)", x.chance(1, 100), 0);
        due("chance(3, 101)", x.chance(3, 101), UNKNOWN);
        due("chance(-1, 0)", x.chance(-1, 0), UNKNOWN);
        due("chance(0, 101)", x.chance(0, 101), OUTSIDE);
        due("chance(0, -1)", x.chance(0, -1), OUTSIDE);
        // cut behind each: falling, or cut once at the end, it would be 55743187
        x = told("s2 9 0;p0 1 9 5 0;p0 1 9 2 0;p0 1 9 6 0;p0 1 9 9 0;p0 1 9 7 0;p0 1 9 9 0;p0 1 9 4 0;p0 1 9 5 0;");
        due("chance(0, 5)", x.chance(0, 5), 55743186);
        x = told("s2 9 0;" + "p0 1 9 9 0;".repeat(7));
        due("chance(0, 10)", x.chance(0, 10), 100);
        due("chance(0, 11)", x.chance(0, 11), 0);
    }

    private static void ran() {
        promise = 23;
        SpiteLine x = told(FOUR);
        due("ran(4, true)", x.ran(4, true), UNKNOWN);
        due("ran(-1, true)", x.ran(-1, true), UNKNOWN);
        for (int k = 1; k <= 8; k++) {
            due("ran(0, true)", x.ran(0, true), k);
        }
        due("ran(0, true)", x.ran(0, true), FULL);
        due("ran(4, true)", x.ran(4, true), UNKNOWN);
        due("told(9)", x.told(9), 8);
        due("told(11)", x.told(11), 0);
    }

    private static void hoped() {
        promise = 24;
        SpiteLine x = told(FOUR);
        due("hoped(NONE)", x.hoped(NONE), 11);
        int[] all = {0, 1, 2, 4, 8, 3, 5, 6, 9, 10, 12};
        for (int i = 0; i < all.length; i++) {
            due("hoped(" + i + ")", x.hoped(i), all[i]);
        }
        due("hoped(11)", x.hoped(11), NONE);
        due("hoped(-2)", x.hoped(-2), NONE);
        x.ran(0, false);
        x.ran(1, true);
        int[] some = {1, 8, 5, 9, 12};
        due("hoped(NONE)", x.hoped(NONE), some.length);
        for (int i = 0; i < some.length; i++) {
            due("hoped(" + i + ")", x.hoped(i), some[i]);
        }
        due("person(0, 3)", x.person(0, 3), 0);
        promise = 25;
        due("sure()", x.sure(), 0);
        x.tear();
        x.ran(1, false);
        due("sure()", x.sure(), 2);
        x.ran(1, true);
        due("hoped(NONE)", x.hoped(NONE), 0);
        due("sure()", x.sure(), 0);
        promise = 26;
        due("look()", x.look(), NONE);
        x.tear();
        due("look()", x.look(), 0);
        x.ran(0, false);
        x.ran(1, true);
        // of 1, 8, 5, 9, 12: 0 parts them 3 to 2, like 3
        due("look()", x.look(), 0);
        x.tear();
        // two surely: one set is left
        x.ran(0, false);
        x.ran(1, false);
        x.mien(3, 3);
        due("look()", x.look(), 0);
        x = told("s3 3 0;p0 1 9 0 0;p1 2 9 0 0;p2 0 9 0 0;");
        x.ran(1, false);
        x.ran(2, false);
        due("hoped(0)", x.hoped(0), 6);
        due("sure()", x.sure(), 6);
        due("look()", x.look(), NONE);
        x = told("s4 3 0;p0 1 9 0 0;p1 2 9 0 0;p1 2 9 0 0;p2 0 9 0 0;");
        x.ran(1, false);
        // 2, 4, 3, 5, 6, 10, 12: 0 parts 5 to 2, 1 and 2 part 4 to 3
        due("look()", x.look(), 1);
        x = told("s2 3 0;" + "p0 1 9 0 0;".repeat(8));
        due("hoped(NONE)", x.hoped(NONE), 37);
        due("hoped(36)", x.hoped(36), 192);
        due("hoped(37)", x.hoped(37), NONE);
        // a limit and fog that nobody's mien reaches
        x = told("s2 15 0;p0 1 9 0 2;");
        x.ran(0, false);
        due("hoped(NONE)", x.hoped(NONE), 0);
        x.feet(0, true);
        due("hoped(NONE) with less", x.hoped(NONE), 0);
    }

    private static void book() {
        promise = 27;
        SpiteLine x = told(FOUR);
        due("write(4, 0)", x.write(4, 0), UNKNOWN);
        due("write(0, 4)", x.write(0, 4), UNKNOWN);
        due("write(-1, 0)", x.write(-1, 0), UNKNOWN);
        due("write(0, -1)", x.write(0, -1), UNKNOWN);
        for (int k = 1; k <= 20; k++) {
            due("write", x.write(k % 4, k % 4 == 3 ? 0 : k % 4 == 2 ? 3 : k % 4), k);
        }
        due("write(0, 0)", x.write(0, 0), FULL);
        due("write(4, 0)", x.write(4, 0), UNKNOWN);
        promise = 28;
        due("judge()", x.judge(), NONE);
        x.walk(2, 1);
        due("judge()", x.judge(), 1);
        x.walk(1, 2);
        due("judge()", x.judge(), 0);
        x.undo(2);
        due("judge()", x.judge(), NONE);
        promise = 29;
        x.ran(0, true);
        due("tear()", x.tear(), 21);
        due("told(9)", x.told(9), 0);
        due("told(10)", x.told(10), 0);
        x.walk(2, 1);
        due("judge()", x.judge(), NONE);
        due("tear()", x.tear(), 0);
    }

    private static void seed() {
        promise = 30;
        SpiteLine x = new SpiteLine();
        due("seed(2147483647)", x.seed(2147483647), 0);
        due("seed(-1)", x.seed(-1), OUTSIDE);
        due("seed(min)", x.seed(Integer.MIN_VALUE), OUTSIDE);
        due("seed(5)", x.seed(5), 2147483647);
        tell(x, "s2 1 0;");
        x.seed(2147483647);
        x.drift(1);
        // it times 1103515245 and 12345 is 12345 less 1103515245 left over by 2 to the 31
        due("seed(0)", x.seed(0), 1043980748);
    }

    private static void images() {
        promise = 31;
        SpiteLine x = told(FOUR);
        due("keep(-1)", x.keep(-1), UNKNOWN);
        due("keep(2)", x.keep(2), UNKNOWN);
        x.train(1);
        x.seed(4);
        due("keep(0)", x.keep(0), 1);
        due("told(11)", x.told(11), 0);
        due("undo(1)", x.undo(1), NOT);
        promise = 32;
        due("goBack(-1)", x.goBack(-1), UNKNOWN);
        due("goBack(2)", x.goBack(2), UNKNOWN);
        due("goBack(1)", x.goBack(1), NOT);
        int stopped = x.told(6);
        x.seed(8);
        x.mien(0, 6);
        x.feet(1, true);
        x.flowers(2, true);
        x.fog(4);
        x.walk(3, 3);
        x.train(3);
        x.ran(0, true);
        x.write(0, 0);
        due("keep(1)", x.keep(1), 1);
        x.mien(0, 7);
        due("goBack(0)", x.goBack(0), 1);
        due("told(11)", x.told(11), 0);
        due("told(5)", x.told(5), 1);
        due("told(6)", x.told(6), stopped);
        due("told(2)", x.told(2), 0);
        due("person(0, 3)", x.person(0, 3), 0);
        due("person(1, 4)", x.person(1, 4), 0);
        due("person(2, 5)", x.person(2, 5), 0);
        due("person(3, 0)", x.person(3, 0), 1);
        due("told(9) stays", x.told(9), 1);
        due("told(10) stays", x.told(10), 1);
        due("seed(3)", x.seed(3), 4);
        due("goBack(1)", x.goBack(1), 1);
        due("person(0, 3)", x.person(0, 3), 6);
        due("told(5)", x.told(5), 4);
        due("seed(3)", x.seed(3), 8);
        due("goBack(1) again", x.goBack(1), 1);
    }
}
