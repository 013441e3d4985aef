/** The promises one by one, by answers that were found by hand. */
public final class RaysOfShapesPromises {
    private static final int BAD = -62;
    private static final int OTHER = -63;
    private static final int NOTHING = -64;
    private static final int STUCK = -65;
    private static final int FULL = -66;
    private static final long LONG_BAD = -9000000000062L;

    private static int wrong = 0;
    private static int promise = 0;

    private static void due(String call, long got, long want) {
        if (got != want) {
            wrong++;
            System.out.println("promise " + promise + ": " + call + " answered " + got + ", due is " + want);
        }
    }

    /** Feeds a text and reads it. */
    private static int read(RaysOfShapes x, String text) {
        x.wipe();
        for (int i = 0; i < text.length(); i++) {
            due("feed of " + text, x.feed(text.charAt(i)), i + 1);
        }
        return x.shape();
    }

    /** A new object with the ROW of ints 0, 1, .. n - 1 in SHELF s. */
    private static RaysOfShapes withRow(int s, int n) {
        RaysOfShapes x = new RaysOfShapes();
        x.row(s, 2, n);
        for (int i = 0; i < n; i++) {
            x.set(s, i, i);
        }
        return x;
    }

    /** 0: a BALL of 1 PLACE in the middle; 1: a BOX of 4 x 4 x 4 at 0; 2: a HALF, x not above 7. */
    private static RaysOfShapes withSolids() {
        RaysOfShapes x = new RaysOfShapes();
        x.ball(8, 8, 8, 0);
        x.box(0, 0, 0, 3, 3, 3);
        x.half(1, 0, 0, 7);
        return x;
    }

    private static int place(int x, int y, int z) {
        return 256 * x + 16 * y + z;
    }

    private static void newObject() {
        RaysOfShapes x = new RaysOfShapes();
        for (int what = 0; what <= 16; what++) {
            due("status(" + what + ")", x.status(what), what == 5 ? 1 : what > 6 && what < 12 ? -1 : 0);
        }
        for (int s = 0; s < 8; s++) {
            due("holds", x.holds(s), -1);
        }
        due("block(0)", x.block(0), 0);
        due("block(2)", x.block(2), 0);
        due("in(0, 0)", x.in(0, 0), BAD);
        due("wipe()", x.wipe(), 0);
        due("NONE", RaysOfShapes.NONE, -1);
    }

    private static void row() {
        RaysOfShapes x = new RaysOfShapes();
        due("row(0, 0, 0)", x.row(0, 0, 0), 1);
        due("row(7, 4, 40)", x.row(7, 4, 40), 1);
        due("holds(0)", x.holds(0), 0);
        due("holds(7)", x.holds(7), 4);
        due("set(7, 39, 1)", x.set(7, 39, 1), 1);
        due("element(7, 39)", x.element(7, 39), 1);
        due("row(7, 3, 40)", x.row(7, 3, 40), 1);
        due("element(7, 39)", x.element(7, 39), 0);
        due("row(-1, 0, 0)", x.row(-1, 0, 0), BAD);
        due("row(8, 0, 0)", x.row(8, 0, 0), BAD);
        due("row(0, -1, 0)", x.row(0, -1, 0), BAD);
        due("row(0, 5, 0)", x.row(0, 5, 0), BAD);
        due("row(0, 0, -1)", x.row(0, 0, -1), BAD);
        due("row(0, 0, 41)", x.row(0, 0, 41), BAD);
        due("status(12)", x.status(12), 6);
        due("status(6)", x.status(6), 2);
        x.ball(0, 0, 0, 0);
        x.show(1, 0);
        due("row(1, 2, 3)", x.row(1, 2, 3), 1);
        due("holds(1)", x.holds(1), 2);
    }

    private static void set() {
        RaysOfShapes x = new RaysOfShapes();
        for (int sort = 0; sort < 5; sort++) {
            x.row(sort, sort, 3);
        }
        long[] puts = {300, 40000, (5L << 32) + 7, Long.MIN_VALUE, 256};
        long[] gets = {44, -25536, 7, Long.MIN_VALUE, 1};
        long[] all = {-1, -1, -1, -1, 1};
        for (int sort = 0; sort < 5; sort++) {
            due("set", x.set(sort, 1, puts[sort]), 1);
            due("element", x.element(sort, 1), gets[sort]);
            due("set", x.set(sort, 2, -1), 1);
            due("element", x.element(sort, 2), all[sort]);
            due("set", x.set(sort, 2, 0), 1);
            due("element", x.element(sort, 2), 0);
            due("element", x.element(sort, 0), 0);
        }
        due("set(0, 0, 128)", x.set(0, 0, 128), 1);
        due("element(0, 0)", x.element(0, 0), -128);
        x.ball(0, 0, 0, 0);
        x.show(6, 0);
        due("set(-1, 9, 0)", x.set(-1, 9, 0), BAD);
        due("set(8, 0, 0)", x.set(8, 0, 0), BAD);
        due("set(6, 9, 0)", x.set(6, 9, 0), OTHER);
        due("set(7, 9, 0)", x.set(7, 9, 0), NOTHING);
        due("set(0, 3, 0)", x.set(0, 3, 0), BAD);
        due("set(0, -1, 0)", x.set(0, -1, 0), BAD);
        due("status(12)", x.status(12), 4);
        due("status(13)", x.status(13), 1);
        due("status(14)", x.status(14), 1);
    }

    private static void copy() {
        RaysOfShapes x = withRow(0, 10);
        due("copy(0, 0, 0, 2, 8)", x.copy(0, 0, 0, 2, 8), 8);
        long[] want = {0, 1, 0, 1, 2, 3, 4, 5, 6, 7};
        for (int i = 0; i < 10; i++) {
            due("element(0, " + i + ")", x.element(0, i), want[i]);
        }
        due("copy(0, 0, 2, 0, 8)", x.copy(0, 0, 2, 0, 8), 8);
        due("element(0, 7)", x.element(0, 7), 7);
        due("element(0, 8)", x.element(0, 8), 6);
        x.row(1, 2, 4);
        due("copy(0, 1, 5, 1, 3)", x.copy(0, 1, 5, 1, 3), 3);
        due("element(1, 0)", x.element(1, 0), 0);
        due("element(1, 3)", x.element(1, 3), 7);
        due("copy(0, 1, 10, 4, 0)", x.copy(0, 1, 10, 4, 0), 0);
        due("copy(0, 1, 11, 0, 0)", x.copy(0, 1, 11, 0, 0), BAD);
        due("copy(0, 1, 0, 5, 0)", x.copy(0, 1, 0, 5, 0), BAD);
        due("copy(0, 1, 0, 0, 5)", x.copy(0, 1, 0, 0, 5), BAD);
        due("copy(0, 1, 8, 0, 3)", x.copy(0, 1, 8, 0, 3), BAD);
        due("copy(0, 1, -1, 0, 1)", x.copy(0, 1, -1, 0, 1), BAD);
        due("copy(0, 1, 0, -1, 1)", x.copy(0, 1, 0, -1, 1), BAD);
        due("copy(0, 1, 0, 0, -1)", x.copy(0, 1, 0, 0, -1), BAD);
        due("copy of far too many", x.copy(0, 1, 2147483647, 0, 2147483647), BAD);
        x.row(2, 3, 4);
        x.ball(0, 0, 0, 0);
        x.show(3, 0);
        due("copy(8, 2, 0, 0, 1)", x.copy(8, 2, 0, 0, 1), BAD);
        due("copy(0, -1, 0, 0, 1)", x.copy(0, -1, 0, 0, 1), BAD);
        due("copy(0, 2, 99, 0, 1)", x.copy(0, 2, 99, 0, 1), OTHER);
        due("copy(3, 4, 0, 0, 1)", x.copy(3, 4, 0, 0, 1), OTHER);
        due("copy(4, 3, 0, 0, 1)", x.copy(4, 3, 0, 0, 1), OTHER);
        due("copy(0, 4, 99, 0, 1)", x.copy(0, 4, 99, 0, 1), NOTHING);
        due("copy(4, 0, 99, 0, 1)", x.copy(4, 0, 99, 0, 1), NOTHING);
    }

    private static void element() {
        RaysOfShapes x = withRow(2, 5);
        x.ball(0, 0, 0, 0);
        x.show(3, 0);
        due("element(2, 4)", x.element(2, 4), 4);
        due("element(2, 5)", x.element(2, 5), 0);
        due("element(2, -1)", x.element(2, -1), 0);
        due("element(3, 0)", x.element(3, 0), 0);
        due("element(4, 0)", x.element(4, 0), 0);
        due("element(-1, 0)", x.element(-1, 0), 0);
        due("element(8, 0)", x.element(8, 0), 0);
        due("element(2, least)", x.element(2, Integer.MIN_VALUE), 0);
        due("status(12)", x.status(12), 0);
    }

    private static void holds() {
        RaysOfShapes x = withSolids();
        x.row(0, 3, 0);
        x.show(1, 2);
        due("holds(0)", x.holds(0), 3);
        due("holds(1)", x.holds(1), 12);
        due("holds(2)", x.holds(2), -1);
        due("holds(8)", x.holds(8), -1);
        due("holds(-1)", x.holds(-1), -1);
        due("status(12)", x.status(12), 0);
    }

    private static void show() {
        RaysOfShapes x = withSolids();
        due("show(0, 2)", x.show(0, 2), 1);
        due("show(1, 2)", x.show(1, 2), 1);
        due("status(6)", x.status(6), 2);
        due("show(0, -1)", x.show(0, -1), 1);
        due("holds(0)", x.holds(0), -1);
        due("show(0, 3)", x.show(0, 3), BAD);
        due("show(0, -2)", x.show(0, -2), BAD);
        due("show(8, 0)", x.show(8, 0), BAD);
        due("show(-1, -1)", x.show(-1, -1), BAD);
        due("holds(1)", x.holds(1), 12);
        x.row(2, 0, 5);
        due("show(2, 0)", x.show(2, 0), 1);
        due("element(2, 0)", x.element(2, 0), 0);
        due("set(2, 0, 1)", x.set(2, 0, 1), OTHER);
    }

    private static int said(RaysOfShapes x, int shape, int kind) {
        x.show(5, shape);
        return x.says(5, kind);
    }

    private static void saysOfSolids() {
        RaysOfShapes x = withSolids();
        due("SOLID of 1", said(x, 1, 1), 64);
        due("SHAPE of 1", said(x, 1, 0), 0);
        due("BOX of 1", said(x, 1, 4), 64);
        due("HALF of 2", said(x, 2, 5), 7);
        due("SOLID of 2", said(x, 2, 1), 2048);
        x.ball(0, 0, 0, 40);
        due("BALL of 3", said(x, 3, 3), 40);
        x.box(-40, -40, -40, 55, 55, 54);
        due("BOX of 4", said(x, 4, 4), 96 * 96 * 95);
        due("OVER of 4", said(x, 4, 2), OTHER);
        due("BALL of 4", said(x, 4, 3), OTHER);
        due("says(5, 18)", x.says(5, 18), BAD);
        due("says(5, -1)", x.says(5, -1), BAD);
        due("says(8, 0)", x.says(8, 0), BAD);
        due("says(-1, 0)", x.says(-1, 0), BAD);
        due("says(6, 0)", x.says(6, 0), NOTHING);
        x.row(6, 0, 0);
        due("says(6, 0)", x.says(6, 0), OTHER);
    }

    private static void saysOfPairs() {
        RaysOfShapes x = withSolids();
        x.pair(8, 0, 1);
        x.pair(9, 1, 2);
        x.pair(10, 2, 1);
        x.blend(1, 2, 9, 4);
        x.pair(8, 3, 6);
        due("SHAPE of 7", said(x, 7, 0), 2);
        due("OVER of 7", said(x, 7, 2), 3);
        due("PAIR of 7", said(x, 7, 6), 6);
        due("UNION of 3", said(x, 3, 8), 65);
        due("COMMON of 4", said(x, 4, 9), 2048 - 64);
        due("CUT of 5", said(x, 5, 10), 64);
        due("BLEND of 6", said(x, 6, 11), 94);
        due("BLEND of 5", said(x, 5, 11), OTHER);
        due("CHANGE of 5", said(x, 5, 7), OTHER);
        due("SOLID of 5", said(x, 5, 1), OTHER);
        due("COMMON of 3", said(x, 3, 9), OTHER);
    }

    private static void saysOfChanges() {
        RaysOfShapes x = withSolids();
        x.shift(1, 14, 2, -1);
        x.change(13, 1, 1, 8);
        x.change(14, 1, 2, 5);
        x.change(15, 2, 0, 2);
        x.grown(16, 2, 3, 2);
        x.grown(17, 2, 4, 1);
        due("SHIFT of 3", said(x, 3, 12), 15);
        // moved by 14, 2, -1 there stay 2 x 4 x 3 of the 64
        due("CHANGE of 3", said(x, 3, 7), 24 - 64);
        due("REPEAT of 4", said(x, 4, 13), 8);
        due("CHANGE of 4", said(x, 4, 7), 64);
        due("MIRROR of 5", said(x, 5, 14), 5);
        due("TURN of 6", said(x, 6, 15), 1);
        due("GROWN of 7", said(x, 7, 16), 3);
        due("SHELL of 7", said(x, 7, 17), OTHER);
        due("SHELL of 8", said(x, 8, 17), 4);
        due("GROWN of 8", said(x, 8, 16), 4);
        due("OVER of 8", said(x, 8, 2), 2);
        due("PAIR of 8", said(x, 8, 6), OTHER);
        due("SHIFT of 8", said(x, 8, 12), OTHER);
    }

    private static void feed() {
        RaysOfShapes x = new RaysOfShapes();
        due("feed(0)", x.feed(0), 1);
        due("feed(255)", x.feed(255), 2);
        due("feed(256)", x.feed(256), BAD);
        due("feed(-1)", x.feed(-1), BAD);
        for (int i = 3; i <= 250; i++) {
            due("feed(32)", x.feed(32), i);
        }
        due("feed(32)", x.feed(32), FULL);
        due("feed(999)", x.feed(999), BAD);
        due("status(4)", x.status(4), 250);
        due("status(16)", x.status(16), 1);
        due("status(12)", x.status(12), 3);
    }

    private static void wipe() {
        RaysOfShapes x = new RaysOfShapes();
        x.feed('b');
        x.feed('a');
        due("wipe()", x.wipe(), 2);
        due("wipe()", x.wipe(), 0);
        due("feed(32)", x.feed(32), 1);
        due("status(4)", x.status(4), 1);
    }

    private static void shapesFromTexts() {
        RaysOfShapes x = new RaysOfShapes();
        due("a ball", read(x, " ball -40 55 - 3 40 "), 0);
        due("its X", x.worth(0, -40, 55, -3, 0), -1600);
        due("a box", read(x, "box-1-1-1 2 3 4"), 1);
        due("its size", said(x, 1, 4), 4 * 5 * 6);
        due("a half", read(x, "half-9 9 0-999"), 2);
        due("its D", said(x, 2, 5), -999);
        due("status(4)", x.status(4), 0);
        due("all kinds", read(x, "union(common(cut(ball0 0 0 0,ball1 0 0 0),blend 9 9(ball2 0 0 0,ball 3 0 0 0)),"
            + "shift-40 55 0(repeat 2 16(mirror 0 15(turn 2 1(grown-99 9(ball 4 0 0 000))))))"), 16);
        due("a shell", read(x, "shell99 9(ball 0 0 0 40)"), 18);
        int[] kinds = {3, 3, 10, 3, 3, 11, 9, 3, 16, 15, 14, 13, 12, 8, 3, 17};
        for (int i = 0; i < kinds.length; i++) {
            due("kind of " + (3 + i), x.shapeOf(3 + i, 0), kinds[i]);
        }
    }

    private static void faults() {
        String[] texts = {"", "   ", "ball 1 2", "bal 1 2 3 4", "balls 1 2 3 4", "Ball 1 2 3 4", " 5", "(ball 1 1 1 1)",
            "ball 1 1 1 1 1", "ball 1 1 1 1,", "ball 1 1 1 1 \t", "ball 56 1 1 1", "ball -41 1 1 1", "ball 0001 1 1 1",
            "ball 1 1 1 41", "ball 1 1 1 -1", "ball --1 1 1 1", "ball - x 1 1", "ball 1 1 1 -0", "ball 12345 1 1 1",
            "box 3 3 3 2 3 3", "box 3 3 3 3 3 - 4", "half 10 0 0 0", "half 1 1 1 1000", "half -1 -1 -1 -999 -",
            "union ball 1 1 1 1", "union(ball 1 1 1 1)", "union(ball 1 1 1 1,", "union(ball 1 1 1 1,ball 1 1 1 1,",
            "blend 0 0(", "blend 10 0(", "blend 9 10(", "blend 4 5(", "blend -1", "shift 1 1(", "shift 56 0 0(",
            "repeat 3 1(", "repeat 0 0(", "repeat 0 17(", "repeat -1", "mirror 0 16(", "mirror 3 0(", "mirror 0 -1",
            "turn 1 1(", "turn 0 3(", "turn -1", "grown -100 1(", "grown 100 1(", "grown 1 0(", "grown 1 10(",
            "grown 1 -1", "shell -1", "shell 100 1(", "shell 1 0(", "cut(ball 1 1 1 1;", "shell 1 1(ball 1 1 1 1,",
            "ball 1 1 1 1 ball", "ball 1 1 1 1 (", "half 9 9 9 9\u00e9"};
        int[] faults = {0, 3, 8, 0, 0, 0, 1, 0,
            13, 12, 13, 5, 6, 5,
            11, 11, 6, 7, 11, 5,
            10, 16, 5, 11, 19,
            6, 18, 19, 31,
            6, 6, 8, 8, 6, 9, 6,
            7, 9, 9, 7, 9, 7, 9,
            7, 7, 5, 7, 6, 8, 8,
            8, 6, 6, 8, 16, 22,
            13, 13, 12};
        RaysOfShapes x = new RaysOfShapes();
        for (int i = 0; i < texts.length; i++) {
            due("shape() of «" + texts[i] + "»", read(x, texts[i]), -700 - faults[i]);
            due("status(4)", x.status(4), 0);
            if (i % 20 == 19) {
                due("status(0)", x.status(0), 0);
                due("status(12)", x.status(12), 20);
                x = new RaysOfShapes();
            }
        }
    }

    private static void deepTexts() {
        RaysOfShapes x = new RaysOfShapes();
        StringBuilder six = new StringBuilder("ball 1 1 1 1");
        for (int i = 0; i < 6; i++) {
            six.insert(0, "turn0 1(").append(')');
        }
        due("6 DEEP", read(x, six.toString()), 6);
        due("7 DEEP", read(x, "  shell 1 1(" + six + ") x"), -702);
        due("7 DEEP, not whole", read(x, "shell 1 1(" + six), -700 - 10 - six.length());
        due("7 DEEP within", read(x, "turn 0 1( shell 1 1(" + six + ")x"), -710);
        due("status(0)", x.status(0), 7);
        String blends = "blend 1 1(union(blend 1 0(ball 1 1 1 1,ball 1 1 1 1),ball 1 1 1 1),ball 1 1 1 1)";
        due("2 BLENDS", read(x, blends), 13);
        due("3 BLENDS", read(x, "union(ball 1 1 1 1, blend 2 1(ball 1 1 1 1," + blends + "))"), -720);
        due("brackets of 62", read(x, "cut(".repeat(62) + "xx"), -948);
        due("brackets alone", read(x, "cut(".repeat(62)), -948);
        due("status(0)", x.status(0), 14);
    }

    private static void fullTexts() {
        RaysOfShapes x = new RaysOfShapes();
        for (int i = 0; i < 22; i++) {
            x.ball(0, 0, 0, i);
        }
        due("no room for 3", read(x, "cut(ball0 0 0 0,ball0 0 0 0)"), FULL);
        due("status(0)", x.status(0), 22);
        due("status(4)", x.status(4), 0);
        due("status(16)", x.status(16), 1);
        due("a FAULT ahead of FULL", read(x, "cut(ball0 0 0 0,ball0 0 0 0))"), -728);
        due("room for 2", read(x, "turn0 1(ball0 0 0 0)"), 23);
        due("shapeOf(23, 1)", x.shapeOf(23, 1), 22);
        due("no room for 1", read(x, "ball 0 0 0 0"), FULL);
        // the shortest texts of many SHAPES: more of them than there is room for at all
        String two = "cut(ball0 0 0 0,ball0 0 0 0)";
        String many = two;
        for (int i = 0; i < 3; i++) {
            many = "cut(" + many + "," + (i < 2 ? many : two) + ")";
        }
        due("many", read(new RaysOfShapes(), many), 18);
    }

    private static void solids() {
        RaysOfShapes x = new RaysOfShapes();
        due("ball(-40, 55, 0, 40)", x.ball(-40, 55, 0, 40), 0);
        due("ball(-41, 0, 0, 0)", x.ball(-41, 0, 0, 0), BAD);
        due("ball(0, 56, 0, 0)", x.ball(0, 56, 0, 0), BAD);
        due("ball(0, 0, 99, 0)", x.ball(0, 0, 99, 0), BAD);
        due("ball(0, 0, 0, -1)", x.ball(0, 0, 0, -1), BAD);
        due("ball(0, 0, 0, 41)", x.ball(0, 0, 0, 41), BAD);
        promise = 13;
        due("box(-40, -40, -40, 55, 55, 55)", x.box(-40, -40, -40, 55, 55, 55), 1);
        due("box(1, 1, 1, 1, 1, 1)", x.box(1, 1, 1, 1, 1, 1), 2);
        due("box(1, 1, 1, 0, 1, 1)", x.box(1, 1, 1, 0, 1, 1), BAD);
        due("box(1, 1, 1, 1, 0, 1)", x.box(1, 1, 1, 1, 0, 1), BAD);
        due("box(1, 1, 1, 1, 1, 0)", x.box(1, 1, 1, 1, 1, 0), BAD);
        due("box(-41, 1, 1, 1, 1, 1)", x.box(-41, 1, 1, 1, 1, 1), BAD);
        due("box(1, 1, 1, 1, 1, 56)", x.box(1, 1, 1, 1, 1, 56), BAD);
        promise = 14;
        due("half(-9, 9, 0, -999)", x.half(-9, 9, 0, -999), 3);
        due("half(-10, 0, 0, 0)", x.half(-10, 0, 0, 0), BAD);
        due("half(0, 10, 0, 0)", x.half(0, 10, 0, 0), BAD);
        due("half(0, 0, 10, 0)", x.half(0, 0, 10, 0), BAD);
        due("half(0, 0, 0, 1000)", x.half(0, 0, 0, 1000), BAD);
        due("half(0, 0, 0, -1000)", x.half(0, 0, 0, -1000), BAD);
        due("half(0, 0, 0, 999)", x.half(0, 0, 0, 999), 4);
        due("status(12)", x.status(12), 15);
        for (int i = 5; i < 24; i++) {
            due("ball(0, 0, 0, 0)", x.ball(0, 0, 0, 0), i);
        }
        due("ball(0, 0, 0, 0)", x.ball(0, 0, 0, 0), FULL);
        due("box(0, 0, 0, 0, 0, 0)", x.box(0, 0, 0, 0, 0, 0), FULL);
        due("half(0, 0, 0, 0)", x.half(0, 0, 0, 0), FULL);
        due("ball(0, 0, 0, -1)", x.ball(0, 0, 0, -1), BAD);
        due("status(16)", x.status(16), 3);
        due("status(0)", x.status(0), 24);
    }

    private static void pair() {
        RaysOfShapes x = withSolids();
        due("pair(8, 0, 0)", x.pair(8, 0, 0), 3);
        due("pair(9, 0, 3)", x.pair(9, 0, 3), 4);
        due("pair(10, 4, 1)", x.pair(10, 4, 1), 5);
        due("pair(7, 0, 1)", x.pair(7, 0, 1), BAD);
        due("pair(11, 0, 1)", x.pair(11, 0, 1), BAD);
        due("pair(8, 6, 1)", x.pair(8, 6, 1), BAD);
        due("pair(8, 1, 6)", x.pair(8, 1, 6), BAD);
        due("pair(8, -1, 1)", x.pair(8, -1, 1), BAD);
        due("pair(8, 1, -1)", x.pair(8, 1, -1), BAD);
        for (int i = 6; i < 9; i++) {
            due("pair(8, 0, last)", x.pair(8, 0, i - 1), i);
        }
        due("shapeOf(8, 3)", x.shapeOf(8, 3), 6);
        due("pair(8, 0, 8)", x.pair(8, 0, 8), STUCK);
        due("pair(8, 8, 0)", x.pair(8, 8, 0), STUCK);
        due("pair(11, 8, 0)", x.pair(11, 8, 0), BAD);
        fill(x);
        due("pair(8, 8, 0)", x.pair(8, 8, 0), STUCK);
        due("pair(8, 0, 0)", x.pair(8, 0, 0), FULL);
        due("status(15)", x.status(15), 3);
    }

    private static void fill(RaysOfShapes x) {
        for (int i = x.status(0); i < 24; i++) {
            x.ball(0, 0, 0, 0);
        }
    }

    private static void blend() {
        RaysOfShapes x = withSolids();
        due("blend(0, 1, 9, 9)", x.blend(0, 1, 9, 9), 3);
        due("blend(0, 1, 1, 0)", x.blend(0, 1, 1, 0), 4);
        due("blend(0, 1, 0, 0)", x.blend(0, 1, 0, 0), BAD);
        due("blend(0, 1, 10, 0)", x.blend(0, 1, 10, 0), BAD);
        due("blend(0, 1, 3, 4)", x.blend(0, 1, 3, 4), BAD);
        due("blend(0, 1, 3, -1)", x.blend(0, 1, 3, -1), BAD);
        due("blend(5, 1, 3, 1)", x.blend(5, 1, 3, 1), BAD);
        due("blend(1, 5, 3, 1)", x.blend(1, 5, 3, 1), BAD);
        due("blend(1, -1, 3, 1)", x.blend(1, -1, 3, 1), BAD);
        due("blend(0, 3, 2, 1)", x.blend(0, 3, 2, 1), 5);
        due("blend(0, 5, 2, 1)", x.blend(0, 5, 2, 1), STUCK);
        due("blend(5, 0, 2, 1)", x.blend(5, 0, 2, 1), STUCK);
        due("grown(16, 5, 0, 1)", x.grown(16, 5, 0, 1), 6);
        due("blend(6, 0, 2, 1)", x.blend(6, 0, 2, 1), STUCK);
        due("pair(8, 5, 5)", x.pair(8, 5, 5), 7);
        due("blend(3, 4, 2, 1)", x.blend(3, 4, 2, 1), 8);
        fill(x);
        due("blend(0, 5, 2, 1)", x.blend(0, 5, 2, 1), STUCK);
        due("blend(0, 1, 2, 1)", x.blend(0, 1, 2, 1), FULL);
    }

    private static void deepest(RaysOfShapes x, int kind) {
        for (int i = 0; i < 6; i++) {
            x.grown(16, x.status(0) - 1, 0, 1);
        }
        int deep = x.status(0) - 1;
        due("DEEP", x.shapeOf(deep, 3), 6);
        for (int filled = 0; filled < 2; filled++) {
            int want = filled == 0 ? STUCK : FULL;
            int of = filled == 0 ? deep : 0;
            due("too DEEP, FULL", kind == 12 ? x.shift(of, 0, 0, 0) : kind < 16 ? x.change(kind, of, 0, 1)
                : x.grown(kind, of, 0, 1), want);
            fill(x);
        }
    }

    private static void shift() {
        RaysOfShapes x = withSolids();
        due("shift(1, -40, 55, 0)", x.shift(1, -40, 55, 0), 3);
        due("shift(3, 0, 0, 0)", x.shift(3, 0, 0, 0), 4);
        due("shift(5, 0, 0, 0)", x.shift(5, 0, 0, 0), BAD);
        due("shift(-1, 0, 0, 0)", x.shift(-1, 0, 0, 0), BAD);
        due("shift(0, -41, 0, 0)", x.shift(0, -41, 0, 0), BAD);
        due("shift(0, 0, 56, 0)", x.shift(0, 0, 56, 0), BAD);
        due("shift(0, 0, 0, 56)", x.shift(0, 0, 0, 56), BAD);
        deepest(withSolids(), 12);
    }

    private static void change() {
        RaysOfShapes x = withSolids();
        due("change(13, 0, 0, 1)", x.change(13, 0, 0, 1), 3);
        due("change(13, 0, 2, 16)", x.change(13, 0, 2, 16), 4);
        due("change(13, 0, 3, 1)", x.change(13, 0, 3, 1), BAD);
        due("change(13, 0, -1, 1)", x.change(13, 0, -1, 1), BAD);
        due("change(13, 0, 0, 0)", x.change(13, 0, 0, 0), BAD);
        due("change(13, 0, 0, 17)", x.change(13, 0, 0, 17), BAD);
        due("change(14, 0, 1, 0)", x.change(14, 0, 1, 0), 5);
        due("change(14, 0, 1, 15)", x.change(14, 0, 1, 15), 6);
        due("change(14, 0, 1, 16)", x.change(14, 0, 1, 16), BAD);
        due("change(14, 0, 1, -1)", x.change(14, 0, 1, -1), BAD);
        due("change(14, 0, 3, 0)", x.change(14, 0, 3, 0), BAD);
        due("change(15, 0, 2, 0)", x.change(15, 0, 2, 0), 7);
        due("change(15, 0, 2, 2)", x.change(15, 0, 2, 2), BAD);
        due("change(15, 0, 2, 3)", x.change(15, 0, 2, 3), BAD);
        due("change(15, 0, -1, 0)", x.change(15, 0, -1, 0), BAD);
        due("change(12, 0, 0, 1)", x.change(12, 0, 0, 1), BAD);
        due("change(16, 0, 0, 1)", x.change(16, 0, 0, 1), BAD);
        due("change(13, 8, 0, 1)", x.change(13, 8, 0, 1), BAD);
        due("change(13, -1, 0, 1)", x.change(13, -1, 0, 1), BAD);
        deepest(withSolids(), 13);
        deepest(withSolids(), 14);
        deepest(withSolids(), 15);
    }

    private static void grown() {
        RaysOfShapes x = withSolids();
        due("grown(16, 0, -99, 9)", x.grown(16, 0, -99, 9), 3);
        due("grown(16, 0, 99, 1)", x.grown(16, 0, 99, 1), 4);
        due("grown(16, 0, -100, 1)", x.grown(16, 0, -100, 1), BAD);
        due("grown(16, 0, 100, 1)", x.grown(16, 0, 100, 1), BAD);
        due("grown(16, 0, 0, 0)", x.grown(16, 0, 0, 0), BAD);
        due("grown(16, 0, 0, 10)", x.grown(16, 0, 0, 10), BAD);
        due("grown(17, 0, 0, 1)", x.grown(17, 0, 0, 1), 5);
        due("grown(17, 0, -1, 1)", x.grown(17, 0, -1, 1), BAD);
        due("grown(17, 0, 99, 9)", x.grown(17, 0, 99, 9), 6);
        due("grown(17, 0, 100, 1)", x.grown(17, 0, 100, 1), BAD);
        due("grown(17, 0, 0, 0)", x.grown(17, 0, 0, 0), BAD);
        due("grown(17, 0, 0, 10)", x.grown(17, 0, 0, 10), BAD);
        due("grown(15, 0, 0, 1)", x.grown(15, 0, 0, 1), BAD);
        due("grown(18, 0, 0, 1)", x.grown(18, 0, 0, 1), BAD);
        due("grown(17, 7, 0, 1)", x.grown(17, 7, 0, 1), BAD);
        due("grown(17, -1, 0, 1)", x.grown(17, -1, 0, 1), BAD);
        deepest(withSolids(), 16);
        deepest(withSolids(), 17);
    }

    private static void drop() {
        RaysOfShapes x = withSolids();
        x.show(0, 2);
        x.show(1, 1);
        x.show(2, 2);
        due("count(2, 0)", x.count(2, 0), 2048);
        due("drop()", x.drop(), 2);
        due("holds(0)", x.holds(0), -1);
        due("holds(1)", x.holds(1), 11);
        due("holds(2)", x.holds(2), -1);
        due("count(2, 0)", x.count(2, 0), BAD);
        due("ball(0, 0, 0, 0)", x.ball(0, 0, 0, 0), 2);
        due("count(2, 0)", x.count(2, 0), 1);
        due("drop()", x.drop(), 2);
        due("drop()", x.drop(), 1);
        due("drop()", x.drop(), 0);
        due("drop()", x.drop(), STUCK);
        due("status(15)", x.status(15), 1);
    }

    private static void shapeOf() {
        RaysOfShapes x = withSolids();
        x.pair(8, 1, 0);
        x.pair(10, 3, 3);
        x.grown(17, 4, 1, 1);
        int[][] want = {{3, -1, -1, 0, 1}, {4, -1, -1, 0, 1}, {5, -1, -1, 0, 1},
            {8, 1, 0, 1, 2}, {10, 3, 3, 2, 4}, {17, 4, -1, 3, 4}};
        for (int shape = 0; shape < want.length; shape++) {
            for (int what = 0; what < 5; what++) {
                due("shapeOf(" + shape + ", " + what + ")", x.shapeOf(shape, what), want[shape][what]);
            }
        }
        due("status(12)", x.status(12), 0);
        due("shapeOf(6, 0)", x.shapeOf(6, 0), BAD);
        due("shapeOf(-1, 0)", x.shapeOf(-1, 0), BAD);
        due("shapeOf(0, 5)", x.shapeOf(0, 5), BAD);
        due("shapeOf(0, -1)", x.shapeOf(0, -1), BAD);
        for (int i = 0; i < 6; i++) {
            x.pair(9, i == 0 ? 0 : 5 + i, i == 0 ? 0 : 5 + i);
        }
        due("shapeOf(11, 4)", x.shapeOf(11, 4), 64);
    }

    private static void worthIs(RaysOfShapes x, int shape, int[] at, long num, long den) {
        String call = "worth(" + shape + ", " + at[0] + ", " + at[1] + ", " + at[2] + ")";
        due(call, x.worth(shape, at[0], at[1], at[2], 0), num);
        due(call + " denominator", x.worth(shape, at[0], at[1], at[2], 1), den);
    }

    private static void worth() {
        RaysOfShapes x = new RaysOfShapes();
        int[] p = {1, 2, 3};
        int[] far = {-99, 99, -99};
        x.ball(1, -1, 5, 2);
        x.box(0, 0, 0, 4, 6, 8);
        x.half(2, -3, 4, 5);
        worthIs(x, 0, p, 0 + 9 + 4 - 4, 1);
        worthIs(x, 0, far, 100 * 100 + 100 * 100 + 104 * 104 - 4, 1);
        worthIs(x, 1, p, -1, 1);
        worthIs(x, 1, far, 99, 1);
        worthIs(x, 1, new int[] {2, 3, 15}, 7, 1);
        worthIs(x, 2, p, 2 - 6 + 12 - 5, 1);
        worthIs(x, 2, far, -198 - 297 - 396 - 5, 1);
        x.pair(8, 0, 2);
        x.pair(9, 1, 2);
        x.pair(10, 1, 2);
        x.pair(10, 1, 0);
        worthIs(x, 3, p, 3, 1);
        worthIs(x, 4, p, 3, 1);
        worthIs(x, 5, p, -1, 1);
        worthIs(x, 6, p, -1, 1);
        worthIs(x, 6, far, 99, 1);
        x.blend(0, 2, 9, 3);
        x.blend(7, 1, 4, 1);
        // (9 * 6 + 3 * 3) by 9 is 7; (7 * 3 - 1) by 4 is 5
        worthIs(x, 7, p, 7, 1);
        worthIs(x, 8, p, 5, 1);
        x.shift(0, 4, -5, 6);
        worthIs(x, 9, p, 16 + 64 + 64 - 4, 1);
        x.change(13, 1, 2, 3);
        worthIs(x, 10, new int[] {1, 2, -1}, -1, 1);
        worthIs(x, 10, new int[] {-1, 2, -3}, 1, 1);
        x.change(14, 1, 0, 4);
        worthIs(x, 11, new int[] {6, 3, 4}, -2, 1);
        worthIs(x, 11, new int[] {9, 3, 4}, 1, 1);
        worthIs(x, 11, new int[] {4, 3, 4}, 0, 1);
        x.change(15, 2, 0, 2);
        worthIs(x, 12, p, 6 - 6 + 4 - 5, 1);
        x.grown(16, 2, -6, 4);
        worthIs(x, 13, p, 9, 2);
        x.grown(17, 5, 1, 3);
        worthIs(x, 14, p, 2, 3);
        x.blend(13, 14, 3, 2);
        // (9/2 + 2 * 2/3) by 3
        worthIs(x, 15, p, 35, 18);
        x.grown(16, 13, 9, 2);
        worthIs(x, 16, p, 0, 1);
    }

    private static void worthRefused() {
        RaysOfShapes x = withSolids();
        due("worth(0, -100, 0, 0, 0)", x.worth(0, -100, 0, 0, 0), LONG_BAD);
        due("worth(0, 100, 0, 0, 0)", x.worth(0, 100, 0, 0, 0), LONG_BAD);
        due("worth(0, 0, 100, 0, 0)", x.worth(0, 0, 100, 0, 0), LONG_BAD);
        due("worth(0, 0, 0, -100, 0)", x.worth(0, 0, 0, -100, 0), LONG_BAD);
        due("worth(3, 0, 0, 0, 0)", x.worth(3, 0, 0, 0, 0), LONG_BAD);
        due("worth(-1, 0, 0, 0, 0)", x.worth(-1, 0, 0, 0, 0), LONG_BAD);
        due("worth(0, 0, 0, 0, 2)", x.worth(0, 0, 0, 0, 2), LONG_BAD);
        due("worth(0, 0, 0, 0, -1)", x.worth(0, 0, 0, 0, -1), LONG_BAD);
        due("status(12)", x.status(12), 8);
    }

    private static void boundsAre(RaysOfShapes x, int shape, int[] region, long[] want) {
        int from = place(region[0], region[1], region[2]);
        int to = place(region[3], region[4], region[5]);
        for (int what = 0; what < 4; what++) {
            due("bounds(" + shape + ", " + from + ", " + to + ", " + what + ")",
                x.bounds(shape, from, to, what), want[what]);
        }
    }

    private static void boundsOfSolidsAndPairs() {
        RaysOfShapes x = new RaysOfShapes();
        int[] r = {2, 3, 4, 6, 8, 10};
        x.ball(4, 1, 12, 2);
        x.box(3, 3, 3, 5, 9, 11);
        x.half(2, -3, 0, 5);
        // 0 or 4, 4 or 49, 4 or 64, less 4
        boundsAre(x, 0, r, new long[] {0 + 4 + 4 - 4, 1, 4 + 49 + 64 - 4, 1});
        // 3 - x: -3 to 1, x - 5: -3 to 1, 3 - y: -5 to 0, y - 9: -6 to -1, 3 - z: -7 to -1, z - 11: -7 to -1
        boundsAre(x, 1, r, new long[] {-3, 1, 1, 1});
        boundsAre(x, 2, r, new long[] {4 - 24 - 5, 1, 12 - 9 - 5, 1});
        x.pair(8, 0, 2);
        x.pair(9, 0, 1);
        x.pair(10, 1, 2);
        x.blend(1, 2, 6, 2);
        boundsAre(x, 3, r, new long[] {-25, 1, -2, 1});
        boundsAre(x, 4, r, new long[] {4, 1, 113, 1});
        boundsAre(x, 5, r, new long[] {2, 1, 25, 1});
        boundsAre(x, 6, r, new long[] {-31, 3, 0, 1});
        x.shift(1, 1, 0, -1);
        // over 1 to 5, 3 to 8, 5 to 11
        boundsAre(x, 7, r, new long[] {-2, 1, 2, 1});
    }

    private static void boundsOfChanges() {
        RaysOfShapes x = new RaysOfShapes();
        x.half(1, 0, 0, 0);
        x.half(1, 0, 0, 5);
        x.change(13, 0, 0, 6);
        boundsAre(x, 2, new int[] {1, 0, 0, 4, 0, 0}, new long[] {1, 1, 4, 1});
        boundsAre(x, 2, new int[] {7, 0, 0, 11, 0, 0}, new long[] {1, 1, 5, 1});
        boundsAre(x, 2, new int[] {6, 0, 0, 11, 0, 0}, new long[] {0, 1, 5, 1});
        boundsAre(x, 2, new int[] {4, 0, 0, 7, 0, 0}, new long[] {0, 1, 5, 1});
        boundsAre(x, 2, new int[] {1, 0, 0, 7, 0, 0}, new long[] {0, 1, 5, 1});
        boundsAre(x, 2, new int[] {1, 0, 0, 8, 0, 0}, new long[] {0, 1, 5, 1});
        x.change(14, 0, 0, 6);
        boundsAre(x, 3, new int[] {1, 0, 0, 6, 0, 0}, new long[] {1, 1, 6, 1});
        boundsAre(x, 3, new int[] {7, 0, 0, 9, 0, 0}, new long[] {3, 1, 5, 1});
        boundsAre(x, 3, new int[] {6, 0, 0, 9, 0, 0}, new long[] {3, 1, 6, 1});
        boundsAre(x, 3, new int[] {2, 0, 0, 8, 0, 0}, new long[] {2, 1, 6, 1});
        boundsAre(x, 3, new int[] {5, 0, 0, 15, 0, 0}, new long[] {-3, 1, 6, 1});
        x.change(15, 0, 0, 2);
        boundsAre(x, 4, new int[] {1, 2, 3, 4, 5, 6}, new long[] {3, 1, 6, 1});
        x.grown(16, 0, 3, 2);
        boundsAre(x, 5, new int[] {1, 2, 3, 4, 5, 6}, new long[] {-1, 2, 5, 2});
        x.grown(17, 1, 2, 4);
        boundsAre(x, 6, new int[] {1, 0, 0, 7, 0, 0}, new long[] {-1, 2, 7, 2});
        boundsAre(x, 6, new int[] {3, 0, 0, 12, 0, 0}, new long[] {-1, 2, 13, 2});
        boundsAre(x, 6, new int[] {1, 0, 0, 4, 0, 0}, new long[] {1, 2, 7, 2});
        boundsAre(x, 6, new int[] {5, 0, 0, 7, 0, 0}, new long[] {-1, 2, 3, 2});
        boundsAre(x, 6, new int[] {2, 0, 0, 5, 0, 0}, new long[] {-1, 2, 5, 2});
        boundsAre(x, 6, new int[] {8, 0, 0, 9, 0, 0}, new long[] {5, 2, 7, 2});
        due("bounds(0, 1, 0, 0)", x.bounds(0, 1, 0, 0), LONG_BAD);
        due("bounds(0, 16, 15, 0)", x.bounds(0, 16, 15, 0), LONG_BAD);
        due("bounds(0, 15, 256, 0)", x.bounds(0, 15, 256, 0), LONG_BAD);
        due("bounds(0, 0, 4096, 0)", x.bounds(0, 0, 4096, 0), LONG_BAD);
        due("bounds(0, -1, 0, 0)", x.bounds(0, -1, 0, 0), LONG_BAD);
        due("bounds(7, 0, 0, 0)", x.bounds(7, 0, 0, 0), LONG_BAD);
        due("bounds(0, 0, 0, 4)", x.bounds(0, 0, 0, 4), LONG_BAD);
        due("bounds(0, 0, 0, -1)", x.bounds(0, 0, 0, -1), LONG_BAD);
        due("bounds(0, 0, 0, 3)", x.bounds(0, 0, 0, 3), 1);
    }

    private static void in() {
        RaysOfShapes x = withSolids();
        due("in(0, the middle)", x.in(0, place(8, 8, 8)), 1);
        due("in(0, beside)", x.in(0, place(8, 8, 9)), 0);
        due("in(1, 0)", x.in(1, 0), 1);
        due("in(1, 4)", x.in(1, 4), 0);
        due("in(2, 4095)", x.in(2, 4095), 0);
        due("in(2, 2047)", x.in(2, 2047), 1);
        due("in(0, 4096)", x.in(0, 4096), BAD);
        due("in(0, -1)", x.in(0, -1), BAD);
        due("in(3, 0)", x.in(3, 0), BAD);
        due("in(-1, 0)", x.in(-1, 0), BAD);
    }

    private static void count() {
        RaysOfShapes x = withSolids();
        due("count(0, 0)", x.count(0, 0), 1);
        due("count(1, 0)", x.count(1, 0), 64);
        due("count(1, 1)", x.count(1, 1), 1 + 8 + 8);
        due("count(2, 0)", x.count(2, 0), 2048);
        due("count(2, 1)", x.count(2, 1), 1 + 8);
        x.half(0, 0, 0, -1);
        due("count(3, 0)", x.count(3, 0), 0);
        due("count(3, 1)", x.count(3, 1), 1);
        x.half(0, 0, 0, 0);
        due("count(4, 0)", x.count(4, 0), 4096);
        due("count(4, 1)", x.count(4, 1), 1);
        x.box(5, 5, 5, 5, 5, 5);
        due("count(5, 0)", x.count(5, 0), 1);
        due("count(5, 1)", x.count(5, 1), 1 + 8 + 8 + 8 + 8);
        // x - x: a BLEND of both ways is 0 in truth, but its BOUNDS are wide till a single PLACE
        x.half(1, 0, 0, 0);
        x.half(-1, 0, 0, 0);
        x.blend(6, 7, 2, 1);
        due("count(8, 0)", x.count(8, 0), 4096);
        due("count(8, 1)", x.count(8, 1), 1 + 8 + 64 + 512 + 4096);
        due("count(9, 0)", x.count(9, 0), BAD);
        due("count(-1, 0)", x.count(-1, 0), BAD);
        due("count(0, 2)", x.count(0, 2), BAD);
        due("count(0, -1)", x.count(0, -1), BAD);
    }

    private static void placeOf() {
        RaysOfShapes x = withSolids();
        due("placeOf(1, 0)", x.placeOf(1, 0), 0);
        due("placeOf(1, 3)", x.placeOf(1, 3), 3);
        due("placeOf(1, 4)", x.placeOf(1, 4), 16);
        due("placeOf(1, 63)", x.placeOf(1, 63), place(3, 3, 3));
        due("placeOf(1, 64)", x.placeOf(1, 64), BAD);
        due("placeOf(1, -1)", x.placeOf(1, -1), BAD);
        due("placeOf(0, 0)", x.placeOf(0, 0), place(8, 8, 8));
        due("placeOf(3, 0)", x.placeOf(3, 0), BAD);
        due("status(12)", x.status(12), 3);
    }

    private static void slice() {
        RaysOfShapes x = new RaysOfShapes();
        x.box(1, 2, 3, 2, 4, 6);
        due("slice(0, 0, 1)", x.slice(0, 0, 1), 12);
        due("slice(0, 0, 3)", x.slice(0, 0, 3), 0);
        due("slice(0, 1, 2)", x.slice(0, 1, 2), 8);
        due("slice(0, 1, 1)", x.slice(0, 1, 1), 0);
        due("slice(0, 2, 6)", x.slice(0, 2, 6), 6);
        due("slice(0, 2, 15)", x.slice(0, 2, 15), 0);
        due("slice(0, 2, 16)", x.slice(0, 2, 16), BAD);
        due("slice(0, 2, -1)", x.slice(0, 2, -1), BAD);
        due("slice(0, 3, 0)", x.slice(0, 3, 0), BAD);
        due("slice(0, -1, 0)", x.slice(0, -1, 0), BAD);
        due("slice(1, 0, 0)", x.slice(1, 0, 0), BAD);
    }

    private static void reach() {
        RaysOfShapes x = new RaysOfShapes();
        x.box(1, 2, 3, 2, 4, 6);
        x.box(-5, -5, -5, -1, 20, 20);
        x.half(0, 0, 0, 0);
        for (int axis = 0; axis < 3; axis++) {
            due("reach(0, axis, 0)", x.reach(0, axis, 0), 1 + axis);
            due("reach(0, axis, 1)", x.reach(0, axis, 1), 2 + 2 * axis);
            due("reach(1, axis, 0)", x.reach(1, axis, 0), -1);
            due("reach(1, axis, 1)", x.reach(1, axis, 1), -1);
            due("reach(2, axis, 0)", x.reach(2, axis, 0), 0);
            due("reach(2, axis, 1)", x.reach(2, axis, 1), 15);
        }
        due("status(12)", x.status(12), 0);
        due("reach(0, 3, 0)", x.reach(0, 3, 0), BAD);
        due("reach(0, -1, 0)", x.reach(0, -1, 0), BAD);
        due("reach(0, 0, 2)", x.reach(0, 0, 2), BAD);
        due("reach(3, 0, 0)", x.reach(3, 0, 0), BAD);
    }

    private static void ray() {
        RaysOfShapes x = new RaysOfShapes();
        x.box(2, 0, 0, 4, 15, 15);
        x.box(9, 0, 0, 9, 15, 15);
        x.pair(8, 0, 1);
        due("till IN", x.ray(2, 0, 1, 0, 0, 0), 2);
        due("are IN", x.ray(2, 0, 1, 0, 0, 1), 4);
        due("over", x.ray(2, 0, 1, 0, 0, 2), 4);
        due("till IN from within", x.ray(2, place(3, 1, 1), 1, 0, 0, 0), 0);
        due("are IN from within", x.ray(2, place(3, 1, 1), 1, 0, 0, 1), 3);
        due("over from within", x.ray(2, place(3, 1, 1), 1, 0, 0, 2), 3);
        due("till IN by 3", x.ray(2, 0, 3, 1, 0, 0), 1);
        due("are IN by 3", x.ray(2, 0, 3, 1, 0, 1), 2);
        due("over by 3", x.ray(2, 0, 3, 1, 0, 2), 4);
        due("by -4", x.ray(2, 4095, -4, -4, -4, 0), 3);
        due("none", x.ray(2, 0, 0, 0, 1, 0), -1);
        due("none are IN", x.ray(2, 0, 0, 0, 1, 1), 0);
        due("never over", x.ray(2, 0, 0, 0, 1, 2), 0);
        due("all along", x.ray(2, place(2, 0, 0), 0, 0, 1, 1), 16);
        due("all along is never over", x.ray(2, place(2, 0, 0), 0, 0, 1, 2), 0);
        due("out at once", x.ray(2, place(4, 15, 0), 1, 1, 0, 1), 1);
        due("status(12)", x.status(12), 0);
        due("no step", x.ray(2, 0, 0, 0, 0, 0), BAD);
        due("a step of 5", x.ray(2, 0, 5, 0, 0, 0), BAD);
        due("a step of -5", x.ray(2, 0, 0, -5, 0, 0), BAD);
        due("a step of 5 on z", x.ray(2, 0, 0, 0, 5, 0), BAD);
        due("no place", x.ray(2, 4096, 1, 0, 0, 0), BAD);
        due("no place below", x.ray(2, -1, 1, 0, 0, 0), BAD);
        due("what 3", x.ray(2, 0, 1, 0, 0, 3), BAD);
        due("what -1", x.ray(2, 0, 1, 0, 0, -1), BAD);
        due("no shape", x.ray(3, 0, 1, 0, 0, 0), BAD);
    }

    private static void skin() {
        RaysOfShapes x = withSolids();
        x.half(0, 0, 0, 0);
        x.box(5, 5, 5, 9, 9, 9);
        due("skin(0)", x.skin(0), 1);
        due("skin(1)", x.skin(1), 64 - 8);
        due("skin(3)", x.skin(3), 4096 - 14 * 14 * 14);
        due("skin(4)", x.skin(4), 125 - 27);
        due("skin(5)", x.skin(5), BAD);
        due("skin(-1)", x.skin(-1), BAD);
    }

    private static void pieces() {
        RaysOfShapes x = new RaysOfShapes();
        x.box(0, 0, 0, 1, 1, 1);
        x.box(2, 2, 2, 3, 3, 3);
        x.pair(8, 0, 1);
        due("pieces(2, 0)", x.pieces(2, 0), 2);
        due("pieces(2, 1)", x.pieces(2, 1), 8);
        due("pieces(2, 2)", x.pieces(2, 2), 0);
        x.box(2, 2, 2, 3, 3, 4);
        x.pair(8, 2, 3);
        due("pieces(4, 0)", x.pieces(4, 0), 2);
        due("pieces(4, 1)", x.pieces(4, 1), 12);
        due("pieces(4, 2)", x.pieces(4, 2), place(2, 2, 2));
        x.half(0, 0, 0, -1);
        due("pieces(5, 0)", x.pieces(5, 0), 0);
        due("pieces(5, 1)", x.pieces(5, 1), 0);
        due("pieces(5, 2)", x.pieces(5, 2), -1);
        x.half(0, 0, 0, 0);
        due("pieces(6, 0)", x.pieces(6, 0), 1);
        due("pieces(6, 1)", x.pieces(6, 1), 4096);
        // 15 and 16 are no NEIGHBOURS
        x.box(0, 0, 15, 0, 0, 15);
        x.box(0, 1, 0, 0, 1, 0);
        x.pair(8, 7, 8);
        due("pieces(9, 0)", x.pieces(9, 0), 2);
        due("pieces(9, 2)", x.pieces(9, 2), 15);
        due("status(12)", x.status(12), 0);
        due("pieces(0, 3)", x.pieces(0, 3), BAD);
        due("pieces(0, -1)", x.pieces(0, -1), BAD);
        due("pieces(10, 0)", x.pieces(10, 0), BAD);
    }

    private static void bothAndDiffer() {
        RaysOfShapes x = withSolids();
        x.box(2, 0, 0, 5, 3, 3);
        due("both(1, 3)", x.both(1, 3), 32);
        due("both(0, 1)", x.both(0, 1), 0);
        due("both(1, 1)", x.both(1, 1), 64);
        due("both(1, 4)", x.both(1, 4), BAD);
        due("both(-1, 1)", x.both(-1, 1), BAD);
        promise = 33;
        due("differ(1, 3)", x.differ(1, 3), 0);
        due("differ(3, 1)", x.differ(3, 1), 0);
        due("differ(1, 1)", x.differ(1, 1), -1);
        due("differ(1, 2)", x.differ(1, 2), 4);
        due("status(12)", x.status(12), 2);
        due("differ(1, 4)", x.differ(1, 4), BAD);
        due("differ(4, 1)", x.differ(4, 1), BAD);
    }

    private static void even() {
        RaysOfShapes x = withSolids();
        x.box(7, 6, 0, 8, 9, 14);
        due("even(3, 0)", x.even(3, 0), 1);
        due("even(3, 1)", x.even(3, 1), 1);
        due("even(3, 2)", x.even(3, 2), 0);
        due("even(2, 0)", x.even(2, 0), 0);
        due("even(2, 1)", x.even(2, 1), 1);
        due("even(2, 3)", x.even(2, 3), BAD);
        due("even(2, -1)", x.even(2, -1), BAD);
        due("even(4, 0)", x.even(4, 0), BAD);
    }

    private static void apart() {
        RaysOfShapes x = withSolids();
        x.box(6, 0, 0, 8, 1, 1);
        // 1 is x 0 to 3; 2 more it would be 5: k 3 to 8 meet
        due("apart(1, 3, 0)", x.apart(1, 3, 0), 0);
        due("apart(3, 3, 0)", x.apart(3, 3, 0), 3);
        due("apart(1, 1, 1)", x.apart(1, 1, 1), 4);
        due("apart(1, 2, 0)", x.apart(1, 2, 0), 8);
        due("apart(2, 1, 0)", x.apart(2, 1, 0), 4);
        x.half(0, 0, 0, 0);
        due("apart(4, 4, 2)", x.apart(4, 4, 2), 16);
        due("apart(0, 4, 2)", x.apart(0, 4, 2), 8);
        due("apart(1, 5, 0)", x.apart(1, 5, 0), BAD);
        due("apart(5, 1, 0)", x.apart(5, 1, 0), BAD);
        due("apart(1, 1, 3)", x.apart(1, 1, 3), BAD);
        due("apart(1, 1, -1)", x.apart(1, 1, -1), BAD);
    }

    private static void enough() {
        RaysOfShapes x = new RaysOfShapes();
        x.half(1, 0, 0, 3);
        x.half(1, 0, 0, 12);
        // T of 9 moves the end from 3 to 3 and T: 256 PLACES more each
        for (int t = 0; t <= 9; t++) {
            due("enough of " + t, x.enough(0, 1, 9, 256 * (4 + t)), t);
            due("enough beyond " + t, x.enough(0, 1, 9, 256 * (4 + t) + 1), t < 9 ? t + 1 : -1);
        }
        due("enough(0, 1, 2, 256 * 8)", x.enough(0, 1, 2, 256 * 8), 1);
        due("enough(0, 1, 1, 256 * 13)", x.enough(0, 1, 1, 256 * 13), 1);
        due("enough(0, 1, 1, 4096)", x.enough(0, 1, 1, 4096), -1);
        due("enough(1, 0, 9, 0)", x.enough(1, 0, 9, 0), 0);
        due("status(12)", x.status(12), 0);
        due("enough(0, 1, 0, 0)", x.enough(0, 1, 0, 0), BAD);
        due("enough(0, 1, 10, 0)", x.enough(0, 1, 10, 0), BAD);
        due("enough(0, 1, 1, -1)", x.enough(0, 1, 1, -1), BAD);
        due("enough(0, 1, 1, 4097)", x.enough(0, 1, 1, 4097), BAD);
        due("enough(0, 2, 1, 0)", x.enough(0, 2, 1, 0), BAD);
        due("enough(2, 0, 1, 0)", x.enough(2, 0, 1, 0), BAD);
        x.blend(0, 1, 2, 1);
        x.blend(0, 2, 2, 1);
        due("enough(0, 3, 1, 4096)", x.enough(0, 3, 1, 4096), STUCK);
        due("enough(2, 2, 1, 0)", x.enough(2, 2, 1, 0), 0);
        for (int i = 0; i < 6; i++) {
            x.grown(16, i == 0 ? 0 : 3 + i, 0, 1);
        }
        due("enough(9, 0, 1, 0)", x.enough(9, 0, 1, 0), STUCK);
        due("enough(8, 0, 1, 0)", x.enough(8, 0, 1, 0), 0);
        fill(x);
        due("enough(0, 1, 9, 4096) when FULL", x.enough(0, 1, 9, 4096), -1);
    }

    private static void tell(RaysOfShapes x, int s, int... told) {
        for (int i = 0; i < told.length; i++) {
            x.set(s, i, told[i]);
        }
    }

    private static void kinds() {
        RaysOfShapes x = new RaysOfShapes();
        x.half(1, 0, 0, 8);
        x.half(0, 1, 0, 8);
        x.row(0, 3, 40);
        int[] at = {place(0, 0, 0), place(0, 15, 0), place(15, 0, 0), place(15, 15, 0), place(0, 8, 0)};
        int[] union = {1, 1, 1, 0, 1};
        int[] common = {1, 0, 0, 0, 1};
        int[] cut = {0, 1, 0, 0, 1};
        int[][] want = {union, common, cut};
        for (int kind = 0; kind < 3; kind++) {
            for (int i = 0; i < 5; i++) {
                tell(x, 0, at[i], 1);
                int all = 256 * union[i] + 512 * common[i] + 1024 * cut[i];
                due("kinds of one", x.kinds(0, 1, 0, 1), all);
                tell(x, 0, at[i], 0);
                due("kinds of none", x.kinds(0, 1, 0, 1), 256 + 512 + 1024 - all);
            }
            for (int i = 0; i < 5; i++) {
                x.set(0, 2 * i, at[i]);
                x.set(0, 2 * i + 1, want[kind][i]);
            }
            due("kinds of five", x.kinds(0, 1, 0, 5), 256 << kind);
        }
        due("kinds(0, 1, 0, 0)", x.kinds(0, 1, 0, 0), 1792);
        due("kinds(0, 1, 0, 20)", x.kinds(0, 1, 0, 20), 1024);
    }

    private static void toldRefused(boolean isJudge) {
        RaysOfShapes x = new RaysOfShapes();
        x.half(0, 0, 0, 0);
        x.row(0, 3, 4);
        x.show(1, 0);
        long[][] bad = {{4096, 1}, {-1, 1}, {0, 2}, {0, -1}, {1L << 32, 1}, {0, 1L << 32}};
        for (int i = 0; i < bad.length; i++) {
            // the first of both is not so, but the second one is looked at ahead of any answer
            tell(x, 0, 0, 0);
            x.set(0, 2, bad[i][0]);
            x.set(0, 3, bad[i][1]);
            due("STUCK of two", told(x, isJudge, 0, 0, 2), STUCK);
            due("one of two", told(x, isJudge, 0, 0, 1), 0);
        }
        due("no SHELF", told(x, isJudge, 0, 8, 0), BAD);
        due("no SHELF below", told(x, isJudge, 0, -1, 0), BAD);
        due("no n", told(x, isJudge, 0, 1, 21), BAD);
        due("no n below", told(x, isJudge, 0, 1, -1), BAD);
        due("no SHAPE", told(x, isJudge, 1, 1, 0), BAD);
        due("OTHER", told(x, isJudge, 0, 1, 20), OTHER);
        due("NOTHING", told(x, isJudge, 0, 2, 20), NOTHING);
        due("fewer elements", told(x, isJudge, 0, 0, 3), BAD);
        x.row(3, 3, 3);
        due("fewer elements by one", told(x, isJudge, 0, 3, 2), BAD);
        due("a row of none", x.row(4, 4, 0), 1);
        due("no twos of none", told(x, isJudge, 0, 4, 0), isJudge ? -1 : 1792);
    }

    private static int told(RaysOfShapes x, boolean isJudge, int shape, int s, int n) {
        return isJudge ? x.judge(shape, s, n) : x.kinds(shape, 0, s, n);
    }

    private static void judge() {
        RaysOfShapes x = withSolids();
        x.row(0, 2, 40);
        tell(x, 0, 0, 1, 4, 0, place(3, 3, 3), 1, place(3, 3, 4), 1, 0, 1);
        due("judge(1, 0, 0)", x.judge(1, 0, 0), -1);
        due("judge(1, 0, 3)", x.judge(1, 0, 3), -1);
        due("judge(1, 0, 4)", x.judge(1, 0, 4), 3);
        due("judge(1, 0, 20)", x.judge(1, 0, 20), 3);
        due("judge(2, 0, 5)", x.judge(2, 0, 5), 1);
        due("judge(0, 0, 5)", x.judge(0, 0, 5), 0);
        due("status(12)", x.status(12), 0);
        due("judge(-1, 0, 0)", x.judge(-1, 0, 0), BAD);
        toldRefused(true);
    }

    private static void carve() {
        RaysOfShapes x = withSolids();
        x.box(0, 0, 0, 1, 3, 3);
        due("carve(1, 0)", x.carve(1, 0), 64);
        due("carve(3, 0)", x.carve(3, 0), 0);
        due("status(1)", x.status(1), 2);
        due("carve(3, 1)", x.carve(3, 1), 32);
        due("carve(3, 1)", x.carve(3, 1), 0);
        due("block(0)", x.block(0), 32);
        due("carve(1, 3)", x.carve(1, 3), 64);
        due("block(0)", x.block(0), 32);
        due("has(0)", x.has(0), 1);
        due("carve(0, 0)", x.carve(0, 0), 1);
        due("carve(3, 2)", x.carve(3, 2), 1);
        due("carve(0, 2)", x.carve(0, 2), 32);
        due("block(0)", x.block(0), 0);
        due("status(1)", x.status(1), 8);
        due("carve(0, 4)", x.carve(0, 4), BAD);
        due("carve(0, -1)", x.carve(0, -1), BAD);
        due("carve(4, 0)", x.carve(4, 0), BAD);
        due("carve(-1, 0)", x.carve(-1, 0), BAD);
        due("status(3)", x.status(3), 8);
    }

    private static void undo() {
        RaysOfShapes x = new RaysOfShapes();
        for (int i = 0; i < 15; i++) {
            x.box(i, 0, 0, i, 0, 0);
        }
        due("undo()", x.undo(), STUCK);
        for (int i = 0; i < 15; i++) {
            due("carve(i, 0)", x.carve(i, 0), 1);
            due("status(1)", x.status(1), Math.min(i + 1, 12));
        }
        due("status(3)", x.status(3), 15);
        for (int i = 11; i >= 0; i--) {
            due("has the latest", x.has(place(i + 3, 0, 0)), 1);
            due("undo()", x.undo(), i);
            due("has no more", x.has(place(i + 3, 0, 0)), 0);
            due("block(0)", x.block(0), i + 3);
        }
        due("undo()", x.undo(), STUCK);
        due("block(0)", x.block(0), 3);
        due("status(3)", x.status(3), 15);
        due("status(15)", x.status(15), 2);
        x.carve(0, 3);
        x.carve(1, 2);
        x.carve(14, 0);
        due("block(0)", x.block(0), 2);
        x.undo();
        x.undo();
        due("has(0)", x.has(0), 0);
        due("has(1, 0, 0)", x.has(256), 1);
        x.undo();
        due("has(0)", x.has(0), 1);
    }

    private static void block() {
        RaysOfShapes x = withSolids();
        x.carve(1, 0);
        x.carve(0, 0);
        due("block(0)", x.block(0), 65);
        due("block(1)", x.block(1), 57);
        due("block(2)", x.block(2), 2);
        due("block(3)", x.block(3), BAD);
        due("block(-1)", x.block(-1), BAD);
        promise = 42;
        due("has(0)", x.has(0), 1);
        due("has(4095)", x.has(4095), 0);
        due("has(4096)", x.has(4096), BAD);
        due("has(-1)", x.has(-1), BAD);
        promise = 43;
        due("off(1)", x.off(1), 1);
        due("off(0)", x.off(0), 64);
        due("off(2)", x.off(2), 2048 - 64 + 1);
        due("off(3)", x.off(3), BAD);
        due("off(-1)", x.off(-1), BAD);
    }

    private static void days() {
        RaysOfShapes x = new RaysOfShapes();
        // the draws, told again by hand in longs
        long seed = 1;
        boolean[] block = new boolean[4096];
        int carvings = 0;
        for (int day = 1; day <= 60; day++) {
            int[] of = {16, 16, 16, 6, 4};
            int[] drawn = new int[5];
            for (int i = 0; i < 5; i++) {
                seed = seed * 1103515245L + 12345L & 0xFFFFFFFFL;
                drawn[i] = (int) (seed >> 16) % of[i];
            }
            int size = 0;
            for (int p = 0; p < 4096; p++) {
                int dx = p / 256 - drawn[0];
                int dy = p / 16 % 16 - drawn[1];
                int dz = p % 16 - drawn[2];
                boolean in = dx * dx + dy * dy + dz * dz <= drawn[3] * drawn[3];
                boolean is = block[p];
                block[p] = drawn[4] == 0 ? is || in : drawn[4] == 1 ? is && !in : drawn[4] == 2 ? is && in : is != in;
                size += block[p] ? 1 : 0;
            }
            carvings++;
            due("days(1)", x.days(1), size);
            due("status(3)", x.status(3), carvings);
        }
        due("status(1)", x.status(1), 12);
        due("status(5)", x.status(5), (int) seed);
        RaysOfShapes y = new RaysOfShapes();
        due("days(60)", y.days(60), x.block(0));
        due("status(5)", y.status(5), (int) seed);
        due("days(0)", y.days(0), BAD);
        due("days(61)", y.days(61), BAD);
        due("days(-1)", y.days(-1), BAD);
        due("status(5)", y.status(5), (int) seed);
        due("undo()", y.undo(), 11);
    }

    private static void seed() {
        RaysOfShapes x = new RaysOfShapes();
        due("seed(0)", x.seed(0), 1);
        due("seed(-5)", x.seed(-5), 0);
        due("seed(1)", x.seed(1), -5);
        due("status(5)", x.status(5), 1);
        int size = x.days(7);
        RaysOfShapes y = new RaysOfShapes();
        due("days(7)", y.days(7), size);
        due("seed(1)", y.seed(1), x.status(5));
    }

    private static void imageAndBack() {
        RaysOfShapes x = withSolids();
        due("back()", x.back(), STUCK);
        x.carve(1, 0);
        x.days(1);
        x.undo();
        int seed = x.status(5);
        due("image()", x.image(), 1);
        x.row(0, 0, 4);
        x.set(0, 1, 9);
        x.feed('b');
        x.show(1, 2);
        x.pair(8, 0, 1);
        x.show(2, 3);
        x.show(3, 0);
        x.carve(3, 1);
        x.days(3);
        x.seed(77);
        due("back()", x.back(), 1);
        promise = 47;
        due("status(0)", x.status(0), 3);
        due("status(1)", x.status(1), 1);
        due("status(2)", x.status(2), 64);
        due("status(3)", x.status(3), 2);
        due("status(4)", x.status(4), 1);
        due("status(5)", x.status(5), seed);
        due("status(6)", x.status(6), 3);
        due("status(15)", x.status(15), 1);
        due("element(0, 1)", x.element(0, 1), 9);
        due("holds(1)", x.holds(1), 12);
        due("holds(2)", x.holds(2), -1);
        due("holds(3)", x.holds(3), 10);
        due("undo()", x.undo(), 0);
        due("block(0)", x.block(0), 0);
        x.drop();
        x.ball(0, 0, 0, 0);
        x.show(4, 2);
        due("count(2, 0)", x.count(2, 0), 1);
        due("back()", x.back(), 1);
        due("holds(4)", x.holds(4), 12);
        due("count(2, 0)", x.count(2, 0), 2048);
        due("status(1)", x.status(1), 1);
        x.drop();
        x.drop();
        x.drop();
        due("image()", x.image(), 1);
        due("back()", x.back(), 1);
        due("status(0)", x.status(0), 0);
        due("status(2)", x.status(2), 64);
    }

    /** What was found of SHAPES by number is found again, when others have had those numbers. */
    private static void backToOthers() {
        for (int dropped = 1; dropped <= 3; dropped++) {
            RaysOfShapes x = withSolids();
            int[] first = {1, 64, 2048};
            x.image();
            for (int again = 0; again < 2; again++) {
                for (int i = 0; i < 3; i++) {
                    due("count(" + i + ", 0)", x.count(i, 0), first[i]);
                }
                for (int i = 0; i < dropped; i++) {
                    x.drop();
                }
                for (int i = 3 - dropped; i < 3; i++) {
                    x.box(0, 0, 0, i + 4, 0, 0);
                    due("count(" + i + ", 0)", x.count(i, 0), i + 5);
                }
                due("back()", x.back(), 1);
                x.half(0, 0, 0, -again);
                due("count(3, 0)", x.count(3, 0), again == 0 ? 4096 : 0);
                due("back()", x.back(), 1);
            }
            for (int i = 0; i < 3; i++) {
                due("count(" + i + ", 0)", x.count(i, 0), first[i]);
            }
        }
    }

    private static void status() {
        RaysOfShapes x = withSolids();
        x.feed(1);
        x.row(0, 0, 0);
        x.show(1, 0);
        x.carve(1, 0);
        x.carve(0, 0);
        x.undo();
        int[] want = {3, 1, 64, 2, 1, 1, 2, -1, -1, -1, -1, -1, 0, 0, 0, 0, 0, -1};
        for (int what = 0; what < want.length; what++) {
            due("status(" + what + ")", x.status(what), want[what]);
        }
        due("status(-1)", x.status(-1), -1);
        due("status(least)", x.status(Integer.MIN_VALUE), -1);
        x.feed(999);
        x.worth(9, 0, 0, 0, 0);
        read(x, "x");
        x.set(1, 0, 0);
        x.set(2, 0, 0);
        x.set(2, 0, 0);
        x.back();
        fill(x);
        x.ball(0, 0, 0, 0);
        x.half(0, 0, 0, 0);
        int[] refusals = {3, 1, 2, 1, 2};
        for (int i = 0; i < 5; i++) {
            due("status(" + (12 + i) + ")", x.status(12 + i), refusals[i]);
        }
    }

    private static void all(int from) {
        switch (promise = from) {
            case 1: newObject(); break;
            case 2: row(); break;
            case 3: set(); break;
            case 4: copy(); break;
            case 5: element(); break;
            case 6: holds(); break;
            case 7: show(); break;
            case 8: saysOfSolids(); saysOfPairs(); saysOfChanges(); break;
            case 9: feed(); break;
            case 10: wipe(); break;
            case 11: shapesFromTexts(); faults(); deepTexts(); fullTexts(); break;
            case 12: solids(); break;
            case 15: pair(); break;
            case 16: blend(); break;
            case 17: shift(); break;
            case 18: change(); break;
            case 19: grown(); break;
            case 20: drop(); break;
            case 21: shapeOf(); break;
            case 22: worth(); worthRefused(); break;
            case 23: boundsOfSolidsAndPairs(); boundsOfChanges(); break;
            case 24: in(); break;
            case 25: count(); break;
            case 26: placeOf(); break;
            case 27: slice(); break;
            case 28: reach(); break;
            case 29: ray(); break;
            case 30: skin(); break;
            case 31: pieces(); break;
            case 32: bothAndDiffer(); break;
            case 34: even(); break;
            case 35: apart(); break;
            case 36: enough(); break;
            case 37: kinds(); toldRefused(false); break;
            case 38: judge(); break;
            case 39: carve(); break;
            case 40: undo(); break;
            case 41: block(); break;
            case 44: days(); break;
            case 45: seed(); break;
            case 46: imageAndBack(); backToOthers(); break;
            case 48: status(); break;
            default: break;
        }
    }

    public static void main(String[] args) {
        for (int i = 1; i <= 48; i++) {
            all(i);
        }
        System.out.println(wrong == 0 ? "all promises hold" : wrong + " answers are not as due");
        if (wrong != 0) {
            System.exit(1);
        }
    }
}
