/** The seed and the images, promises 30 to 32. */
final class ImageBounds {
    static void hold(Sentences s) {
        seed(s);
        keepThese(s);
        notKept(s);
        keep(s);
        goBack(s);
    }

    private static void seed(Sentences s) {
        s.says("THE SEED becomes v (0 .. 2147483647): what it was. OUTSIDE.");
        SpiteLine x = new SpiteLine();
        s.due("seed(2147483647)", x.seed(Sentences.MOST), 0);
        s.due("seed(-1)", x.seed(-1), Sentences.OUTSIDE);
        s.due("seed(least)", x.seed(Sentences.LEAST), Sentences.OUTSIDE);
        s.due("seed(0)", x.seed(0), Sentences.MOST);
        s.due("seed(0)", x.seed(0), 0);
        s.due("seed(1)", x.seed(1), 0);
        Sentences.tell(x, "s2 1 0;");
        s.due("seed(2) behind a text", x.seed(2), 1);
        s.due("told(11), no deed", x.told(11), 0);
    }

    private static void keepThese(Sentences s) {
        s.says("IMAGES 0, 1 keep these, THE SEED.");
        SpiteLine x = s.told("s4 6 1;p0 3 9 2 1;p1 3 0 3 2;p2 0 9 9 3;");
        x.seed(11);
        x.train(1);
        x.keep(0);
        int[] first = Sentences.lineOf(x);
        changeAll(x);
        x.keep(1);
        int[] second = Sentences.lineOf(x);
        int seed = x.seed(7);
        changeAll(x);
        s.due("goBack(0)", x.goBack(0), 1);
        s.due("all of image 0", Sentences.lineOf(x), first);
        s.due("seed(5), of image 0", x.seed(5), 11);
        changeAll(x);
        s.due("goBack(1)", x.goBack(1), 1);
        s.due("all of image 1", Sentences.lineOf(x), second);
        s.due("seed(5), of image 1", x.seed(5), seed);
        s.due("goBack(0), it is kept yet", x.goBack(0), 1);
        s.due("all of image 0", Sentences.lineOf(x), first);
    }

    private static void changeAll(SpiteLine x) {
        x.mien(0, 8);
        x.feet(1, true);
        x.flowers(2, false);
        x.fog(5);
        x.walk(2, 1);
        x.drift(2);
    }

    /** What ran, the book, the text come from elsewhere and stay. */
    private static void notKept(Sentences s) {
        s.says("keep these, THE SEED");
        SpiteLine x = s.told(Sentences.FOUR);
        x.ran(0, true);
        x.write(0, 0);
        x.keep(0);
        x.ran(1, true);
        x.write(1, 1);
        x.write(1, 1);
        x.feed('s');
        x.goBack(0);
        s.due("told(9)", x.told(9), 2);
        s.due("told(10)", x.told(10), 3);
        s.due("told(4)", x.told(4), 1);
    }

    private static void keep(Sentences s) {
        s.says("IMAGE i becomes what is so (nothing can be undone then): 1. UNKNOWN.");
        SpiteLine x = s.told("s2 1 0;");
        s.due("keep(-1)", x.keep(-1), Sentences.UNKNOWN);
        s.due("keep(2)", x.keep(2), Sentences.UNKNOWN);
        x.fog(4);
        x.fog(5);
        s.due("told(11) behind refusals", x.told(11), 2);
        s.due("keep(0)", x.keep(0), 1);
        s.due("told(11)", x.told(11), 0);
        s.due("undo(1)", x.undo(1), Sentences.NOT);
        s.due("told(2)", x.told(2), 5);
        x.fog(6);
        s.due("keep(0), again", x.keep(0), 1);
        x.fog(7);
        s.due("undo(1), behind the image", x.undo(1), 0);
        s.due("told(2), as in the image", x.told(2), 6);
        x.fog(8);
        x.goBack(0);
        s.due("told(2), what was kept later", x.told(2), 6);
        s.due("goBack(1), the other one", x.goBack(1), Sentences.NOT);
        x = new SpiteLine();
        s.due("keep(1), no line", x.keep(1), 1);
        s.due("goBack(1), no line", x.goBack(1), 1);
        s.due("told(0), no line", x.told(0), 0);
    }

    private static void goBack(Sentences s) {
        s.says("What is so becomes IMAGE i (nothing can be undone then): 1. UNKNOWN, NOT: it was not kept.");
        SpiteLine x = s.told("s2 1 3;p0 1 9 0 0;");
        s.due("goBack(-1)", x.goBack(-1), Sentences.UNKNOWN);
        s.due("goBack(2)", x.goBack(2), Sentences.UNKNOWN);
        s.due("goBack(0)", x.goBack(0), Sentences.NOT);
        s.due("goBack(1)", x.goBack(1), Sentences.NOT);
        x.keep(1);
        x.train(2);
        s.due("goBack(0), the other one", x.goBack(0), Sentences.NOT);
        s.due("told(11) behind refusals", x.told(11), 2);
        s.due("goBack(1)", x.goBack(1), 1);
        s.due("told(11)", x.told(11), 0);
        s.due("undo(1)", x.undo(1), Sentences.NOT);
        s.due("told(5)", x.told(5), 0);
        s.stand("in the image", x, 0);
        Sentences.tell(x, "?");
        s.due("goBack(1) behind a fault", x.goBack(1), 1);
        Sentences.tell(x, "s2 1 0;");
        s.due("goBack(1) behind a text", x.goBack(1), Sentences.NOT);
        x.keep(1);
        x.line();
        s.due("goBack(1) behind an empty text", x.goBack(1), Sentences.NOT);
    }
}
