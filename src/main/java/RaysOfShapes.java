public final class RaysOfShapes {
    public static final int NONE = -1;

    private static final int BAD = -62;
    private static final int OTHER = -63;
    private static final int NOTHING = -64;
    private static final int STUCK = -65;
    private static final int FULL = -66;
    private static final int FAULT = -700;
    private static final long LONG_REFUSAL = -9000000000000L;

    private static final int SHAPE = 0;
    private static final int SOLID = 1;
    private static final int OVER = 2;
    private static final int BALL = 3;
    private static final int BOX = 4;
    private static final int HALF = 5;
    private static final int PAIR = 6;
    private static final int CHANGE = 7;
    private static final int UNION = 8;
    private static final int COMMON = 9;
    private static final int CUT = 10;
    private static final int BLEND = 11;
    private static final int SHIFT = 12;
    private static final int REPEAT = 13;
    private static final int MIRROR = 14;
    private static final int TURN = 15;
    private static final int GROWN = 16;
    private static final int SHELL = 17;

    private static final int AXES = 3;
    private static final int SIDE = 16;
    private static final int PLACES = 4096;
    private static final int SHAPES = 24;
    private static final int DEEPEST = 6;
    private static final int MOST_BLENDS = 2;
    private static final int MOST_N = 9;
    private static final int NUMBERS = 6;
    private static final int LEVELS = DEEPEST + 2;
    private static final int BELOW_ALL = -1000000000;
    private static final int SHELVES = 8;
    private static final int ELEMENTS = 40;
    private static final int TWOS = 20;
    private static final int HELD_SHAPE = 10;
    private static final int FARTHEST = 99;
    private static final int LONGEST_STEP = 4;
    private static final int MOST_DAYS = 60;

    private final Table table = new Table();
    private final Table keptTable = new Table();
    private final Block carved = new Block();
    private final Block keptCarved = new Block();
    private final Shelves shelves = new Shelves();
    private final Reader reader = new Reader();
    private final Looker looker = new Looker();
    private final Walker walker = new Walker();
    private final Measure measure = new Measure();
    private final Span span = new Span();
    private final Places ballPlaces = new Places();
    private final int[] numbers = new int[NUMBERS];
    private final int[] enoughAt = new int[MOST_N + 1];
    private final int[] refusals = new int[5];
    private boolean isKept;
    /** SHAPES below this are still those that were kept, and what was found of them holds. */
    private int keptShapes;

    public RaysOfShapes() {
    }

    // ---- rows and shelves

    public int row(int s, int sort, int n) {
        if (!isShelf(s) || !isBetween(sort, 0, 4) || !isBetween(n, 0, ELEMENTS)) {
            return refused(BAD);
        }
        shelves.putRow(s, sort, n);
        return 1;
    }

    public int set(int s, int i, long v) {
        int refusal = rowRefusal(s);
        if (refusal != 0) {
            return refused(refusal);
        }
        if (!isBetween(i, 0, shelves.sizeOf(s) - 1)) {
            return refused(BAD);
        }
        shelves.putElement(s, i, v);
        return 1;
    }

    public int copy(int p, int q, int i, int j, int n) {
        if (!isShelf(p) || !isShelf(q)) {
            return refused(BAD);
        }
        int from = shelves.heldBy(p);
        int to = shelves.heldBy(q);
        if (from >= HELD_SHAPE || to >= HELD_SHAPE || from != NONE && to != NONE && from != to) {
            return refused(OTHER);
        }
        if (from == NONE || to == NONE) {
            return refused(NOTHING);
        }
        if (!isRun(i, n, shelves.sizeOf(p)) || !isRun(j, n, shelves.sizeOf(q))) {
            return refused(BAD);
        }
        shelves.moveElements(p, q, i, j, n);
        return n;
    }

    public long element(int s, int i) {
        return shelves.elementOf(s, i);
    }

    public int holds(int s) {
        return shelves.heldBy(s);
    }

    public int show(int s, int shape) {
        if (!isShelf(s) || shape != NONE && !isShape(shape)) {
            return refused(BAD);
        }
        shelves.putShape(s, shape);
        return 1;
    }

    public int says(int s, int kind) {
        int refusal = saysRefusal(s, kind);
        if (refusal != 0) {
            return refused(refusal);
        }
        int shape = shelves.heldBy(s) - HELD_SHAPE;
        int p = table.firstOf(shape);
        int q = table.secondOf(shape);
        switch (kind) {
            case SHAPE:
                return table.deepOf(shape);
            case SOLID:
                return placesOf(shape).size();
            case OVER:
                return p;
            case PAIR:
                return q;
            case CHANGE:
                return placesOf(shape).size() - placesOf(p).size();
            case UNION:
            case COMMON:
                return placesOf(p).sizeOfOne(placesOf(q));
            case CUT:
                return placesOf(p).sizeOfBoth(placesOf(q));
            default:
                return saidOfNumbers(kind, shape);
        }
    }

    /** What refuses a SHELF to be taken for one with a SHAPE of a KIND, or 0. */
    private int saysRefusal(int s, int kind) {
        if (!isShelf(s) || !isBetween(kind, SHAPE, SHELL)) {
            return BAD;
        }
        int held = shelves.heldBy(s);
        if (held == NONE) {
            return NOTHING;
        }
        int shape = held - HELD_SHAPE;
        return isShape(shape) && Kinds.isUnder(table.kindOf(shape), kind) ? 0 : OTHER;
    }

    private int saidOfNumbers(int kind, int shape) {
        int a = table.numberOf(shape, 0);
        int b = table.numberOf(shape, 1);
        int c = table.numberOf(shape, 2);
        int d = table.numberOf(shape, 3);
        switch (kind) {
            case BOX:
                return (d - a + 1) * (table.numberOf(shape, 4) - b + 1) * (table.numberOf(shape, 5) - c + 1);
            case BALL:
            case HALF:
                return d;
            case BLEND:
                return 10 * a + b;
            case SHIFT:
                return a + b + c;
            case REPEAT:
            case MIRROR:
                return b;
            case TURN:
                return AXES - a - b;
            default:
                return a;
        }
    }

    // ---- the tape

    public int feed(int letter) {
        if (!isBetween(letter, 0, 255)) {
            return refused(BAD);
        }
        if (reader.isFull()) {
            return refused(FULL);
        }
        reader.put(letter);
        return reader.size();
    }

    public int wipe() {
        int size = reader.size();
        reader.empty();
        return size;
    }

    public int shape() {
        int fault = reader.read(table);
        int made = reader.made();
        reader.empty();
        if (fault != NONE) {
            refused(BAD);
            return FAULT - fault;
        }
        if (made > SHAPES - table.size()) {
            return refused(FULL);
        }
        return added(made);
    }

    // ---- making shapes

    public int ball(int x, int y, int z, int r) {
        putNumbers(x, y, z);
        numbers[3] = r;
        return built(BALL, NONE, NONE);
    }

    public int box(int x, int y, int z, int u, int v, int w) {
        putNumbers(x, y, z);
        numbers[3] = u;
        numbers[4] = v;
        numbers[5] = w;
        return built(BOX, NONE, NONE);
    }

    public int half(int a, int b, int c, int d) {
        putNumbers(a, b, c);
        numbers[3] = d;
        return built(HALF, NONE, NONE);
    }

    public int pair(int kind, int p, int q) {
        if (!isBetween(kind, UNION, CUT) || !isShape(q)) {
            return refused(BAD);
        }
        return built(kind, p, q);
    }

    public int blend(int p, int q, int n, int t) {
        if (!isShape(q)) {
            return refused(BAD);
        }
        putNumbers(n, t, 0);
        return built(BLEND, p, q);
    }

    public int shift(int p, int x, int y, int z) {
        putNumbers(x, y, z);
        return built(SHIFT, p, NONE);
    }

    public int change(int kind, int p, int a, int b) {
        if (!isBetween(kind, REPEAT, TURN)) {
            return refused(BAD);
        }
        putNumbers(a, b, 0);
        return built(kind, p, NONE);
    }

    public int grown(int kind, int p, int g, int h) {
        if (!isBetween(kind, GROWN, SHELL)) {
            return refused(BAD);
        }
        putNumbers(g, h, 0);
        return built(kind, p, NONE);
    }

    private void putNumbers(int a, int b, int c) {
        numbers[0] = a;
        numbers[1] = b;
        numbers[2] = c;
    }

    private int built(int kind, int p, int q) {
        if (!Kinds.isSolid(kind) && !isShape(p) || !Kinds.allMayBe(kind, numbers)) {
            return refused(BAD);
        }
        if (table.isTooDeep(kind, p, q)) {
            return refused(STUCK);
        }
        if (table.size() >= SHAPES) {
            return refused(FULL);
        }
        table.write(table.size(), kind, p, q, numbers);
        return added(1);
    }

    private int added(int made) {
        looker.forgetFrom(table.size());
        table.resize(table.size() + made);
        return table.size() - 1;
    }

    public int drop() {
        if (table.size() < 1) {
            return refused(STUCK);
        }
        table.resize(table.size() - 1);
        keptShapes = Math.min(keptShapes, table.size());
        shelves.keepShapesBelow(table.size());
        return table.size();
    }

    // ---- what comes of one shape

    public int shapeOf(int shape, int what) {
        if (!isShape(shape)) {
            return refused(BAD);
        }
        switch (what) {
            case 0:
                return table.kindOf(shape);
            case 1:
                return table.firstOf(shape);
            case 2:
                return table.secondOf(shape);
            case 3:
                return table.deepOf(shape);
            case 4:
                return table.solidsOf(shape);
            default:
                return refused(BAD);
        }
    }

    public long worth(int shape, int x, int y, int z, int what) {
        if (!isShape(shape) || !isNear(x) || !isNear(y) || !isNear(z) || !isBetween(what, 0, 1)) {
            return refused(BAD) + LONG_REFUSAL;
        }
        Fraction worth = measure.worthAt(table, shape, x, y, z);
        return what == 0 ? worth.numerator() : worth.denominator();
    }

    public long bounds(int shape, int from, int to, int what) {
        if (!isShape(shape) || !isRegion(from, to) || !isBetween(what, 0, 3)) {
            return refused(BAD) + LONG_REFUSAL;
        }
        span.putFrom(numberOn(from, 0), numberOn(from, 1), numberOn(from, 2));
        span.putTo(numberOn(to, 0), numberOn(to, 1), numberOn(to, 2));
        span.findFor(table, shape);
        Fraction bound = what < 2 ? span.lowest() : span.highest();
        return (what & 1) == 0 ? bound.numerator() : bound.denominator();
    }

    public int in(int shape, int place) {
        if (!isShape(shape) || !isPlace(place)) {
            return refused(BAD);
        }
        return placesOf(shape).contains(place) ? 1 : 0;
    }

    public int count(int shape, int what) {
        if (!isShape(shape) || !isBetween(what, 0, 1)) {
            return refused(BAD);
        }
        return what == 0 ? placesOf(shape).size() : looker.lookedAt(table, shape);
    }

    public int placeOf(int shape, int i) {
        if (!isShape(shape)) {
            return refused(BAD);
        }
        int place = placesOf(shape).ofThem(i);
        return place == NONE ? refused(BAD) : place;
    }

    public int slice(int shape, int axis, int at) {
        if (!isShape(shape) || !isAxis(axis) || !isBetween(at, 0, SIDE - 1)) {
            return refused(BAD);
        }
        return placesOf(shape).sizeAt(axis, at);
    }

    public int reach(int shape, int axis, int what) {
        if (!isShape(shape) || !isAxis(axis) || !isBetween(what, 0, 1)) {
            return refused(BAD);
        }
        Places places = placesOf(shape);
        for (int i = 0; i < SIDE; i++) {
            int at = what == 0 ? i : SIDE - 1 - i;
            if (places.sizeAt(axis, at) > 0) {
                return at;
            }
        }
        return NONE;
    }

    public int ray(int shape, int place, int dx, int dy, int dz, int what) {
        if (!isShape(shape) || !isPlace(place) || !isBetween(what, 0, 2)) {
            return refused(BAD);
        }
        if (!isStep(dx) || !isStep(dy) || !isStep(dz) || dx == 0 && dy == 0 && dz == 0) {
            return refused(BAD);
        }
        walker.walk(placesOf(shape), place, dx, dy, dz);
        switch (what) {
            case 0:
                return walker.stepsTillIn();
            case 1:
                return walker.placesIn();
            default:
                return walker.timesOver();
        }
    }

    public int skin(int shape) {
        if (!isShape(shape)) {
            return refused(BAD);
        }
        return walker.skinOf(placesOf(shape));
    }

    public int pieces(int shape, int what) {
        if (!isShape(shape) || !isBetween(what, 0, 2)) {
            return refused(BAD);
        }
        walker.part(placesOf(shape));
        switch (what) {
            case 0:
                return walker.parts();
            case 1:
                return walker.greatest();
            default:
                return walker.leastOfGreatest();
        }
    }

    public int even(int shape, int axis) {
        if (!isShape(shape) || !isAxis(axis)) {
            return refused(BAD);
        }
        Places places = placesOf(shape);
        for (int place = 0; place < PLACES; place++) {
            int turned = moved(place, axis, SIDE - 1 - 2 * numberOn(place, axis));
            if (places.contains(place) != places.contains(turned)) {
                return 0;
            }
        }
        return 1;
    }

    // ---- what comes of two shapes

    public int both(int p, int q) {
        if (!isShape(p) || !isShape(q)) {
            return refused(BAD);
        }
        return placesOf(p).sizeOfBoth(placesOf(q));
    }

    public int differ(int p, int q) {
        if (!isShape(p) || !isShape(q)) {
            return refused(BAD);
        }
        Places first = placesOf(p);
        Places second = placesOf(q);
        for (int place = 0; place < PLACES; place++) {
            if (first.contains(place) != second.contains(place)) {
                return place;
            }
        }
        return NONE;
    }

    public int apart(int p, int q, int axis) {
        if (!isShape(p) || !isShape(q) || !isAxis(axis)) {
            return refused(BAD);
        }
        Places first = placesOf(p);
        Places second = placesOf(q);
        for (int k = 0; k < SIDE; k++) {
            if (!meets(first, second, axis, k)) {
                return k;
            }
        }
        return SIDE;
    }

    private static boolean meets(Places first, Places second, int axis, int k) {
        for (int place = 0; place < PLACES; place++) {
            if (first.contains(place) && second.contains(moved(place, axis, k))) {
                return true;
            }
        }
        return false;
    }

    public int enough(int p, int q, int n, int many) {
        if (!isShape(p) || !isShape(q) || !isBetween(n, 1, MOST_N) || !isBetween(many, 0, PLACES)) {
            return refused(BAD);
        }
        if (table.isTooDeep(BLEND, p, q)) {
            return refused(STUCK);
        }
        countBlends(p, q, n);
        for (int t = 0; t <= n && t < enoughAt.length; t++) {
            if (enoughAt[t] >= many) {
                return t;
            }
        }
        return NONE;
    }

    /** All T are counted in one walk over PLACES, so that the two WORTHS are found once for each. */
    private void countBlends(int p, int q, int n) {
        for (int t = 0; t < enoughAt.length; t++) {
            enoughAt[t] = 0;
        }
        for (int place = 0; place < PLACES; place++) {
            Fraction worth = worthIn(p, place);
            long first = worth.numerator();
            long firstBy = worth.denominator();
            worth = worthIn(q, place);
            first *= worth.denominator();
            long second = worth.numerator() * firstBy;
            for (int t = 0; t <= n && t < enoughAt.length; t++) {
                if (first * (n - t) + second * t <= 0) {
                    enoughAt[t]++;
                }
            }
        }
    }

    // ---- what is told in rows

    public int kinds(int p, int q, int s, int n) {
        if (!isShape(p) || !isShape(q) || !isShelf(s) || !isBetween(n, 0, TWOS)) {
            return refused(BAD);
        }
        int refusal = toldRefusal(s, n);
        if (refusal != 0) {
            return refused(refusal);
        }
        int fitting = 0;
        for (int kind = UNION; kind <= CUT; kind++) {
            if (isSoOfPair(kind, p, q, s, n)) {
                fitting |= 1 << kind;
            }
        }
        return fitting;
    }

    private boolean isSoOfPair(int kind, int p, int q, int s, int n) {
        for (int i = 0; i < n; i++) {
            boolean told = shelves.elementOf(s, 2 * i + 1) == 1;
            if (isInPair(kind, p, q, (int) shelves.elementOf(s, 2 * i)) != told) {
                return false;
            }
        }
        return true;
    }

    private boolean isInPair(int kind, int p, int q, int place) {
        boolean inFirst = !worthIn(p, place).isAboveZero();
        Fraction second = worthIn(q, place);
        switch (kind) {
            case UNION:
                return inFirst || !second.isAboveZero();
            case COMMON:
                return inFirst && !second.isAboveZero();
            default:
                // a WORTH of 0 is IN with either sign
                return inFirst && !second.isBelowZero();
        }
    }

    public int judge(int shape, int s, int n) {
        if (!isShape(shape) || !isShelf(s) || !isBetween(n, 0, TWOS)) {
            return refused(BAD);
        }
        int refusal = toldRefusal(s, n);
        if (refusal != 0) {
            return refused(refusal);
        }
        for (int i = 0; i < n; i++) {
            boolean told = shelves.elementOf(s, 2 * i + 1) == 1;
            if (placesOf(shape).contains((int) shelves.elementOf(s, 2 * i)) != told) {
                return i;
            }
        }
        return NONE;
    }

    // ---- the block

    public int carve(int shape, int how) {
        if (!isShape(shape) || !isBetween(how, 0, 3)) {
            return refused(BAD);
        }
        return carved.carveBy(placesOf(shape), how);
    }

    public int undo() {
        if (carved.left() < 1) {
            return refused(STUCK);
        }
        carved.tellBack();
        return carved.left();
    }

    public int block(int what) {
        switch (what) {
            case 0:
                return carved.places().size();
            case 1:
                return walker.skinOf(carved.places());
            case 2:
                walker.part(carved.places());
                return walker.parts();
            default:
                return refused(BAD);
        }
    }

    public int has(int place) {
        if (!isPlace(place)) {
            return refused(BAD);
        }
        return carved.places().contains(place) ? 1 : 0;
    }

    public int off(int shape) {
        if (!isShape(shape)) {
            return refused(BAD);
        }
        return placesOf(shape).sizeOfOne(carved.places());
    }

    public int days(int n) {
        if (!isBetween(n, 1, MOST_DAYS)) {
            return refused(BAD);
        }
        for (int day = 0; day < n; day++) {
            int x = carved.draw(SIDE);
            int y = carved.draw(SIDE);
            int z = carved.draw(SIDE);
            int r = carved.draw(6);
            ballPlaces.becomeBall(x, y, z, r);
            carved.carveBy(ballPlaces, carved.draw(4));
        }
        return carved.places().size();
    }

    public int seed(int v) {
        int ahead = carved.drawnFrom();
        carved.drawFrom(v);
        return ahead;
    }

    // ---- the whole

    public int image() {
        keptTable.takeFrom(table);
        keptCarved.takeFrom(carved);
        isKept = true;
        keptShapes = table.size();
        return 1;
    }

    public int back() {
        if (!isKept) {
            return refused(STUCK);
        }
        table.takeFrom(keptTable);
        carved.takeFrom(keptCarved);
        looker.forgetFrom(keptShapes);
        keptShapes = table.size();
        shelves.keepShapesBelow(table.size());
        return 1;
    }

    public int status(int what) {
        switch (what) {
            case 0:
                return table.size();
            case 1:
                return carved.left();
            case 2:
                return carved.places().size();
            case 3:
                return carved.inAll();
            case 4:
                return reader.size();
            case 5:
                return carved.drawnFrom();
            case 6:
                return shelves.full();
            default:
                return isBetween(what, 12, 11 + refusals.length) ? refusals[what - 12] : NONE;
        }
    }

    // ---- refusals, and what may be

    private int refused(int number) {
        int i = BAD - number;
        if (i >= 0 && i < refusals.length) {
            refusals[i]++;
        }
        return number;
    }

    /** What refuses a ROW in a SHELF, or 0. */
    private int rowRefusal(int s) {
        if (!isShelf(s)) {
            return BAD;
        }
        int held = shelves.heldBy(s);
        if (held >= HELD_SHAPE) {
            return OTHER;
        }
        return held == NONE ? NOTHING : 0;
    }

    /** What refuses n twos in a ROW, or 0. */
    private int toldRefusal(int s, int n) {
        int refusal = rowRefusal(s);
        if (refusal != 0) {
            return refusal;
        }
        if (shelves.sizeOf(s) < 2 * n) {
            return BAD;
        }
        for (int i = 0; i < n; i++) {
            long place = shelves.elementOf(s, 2 * i);
            long told = shelves.elementOf(s, 2 * i + 1);
            if (place < 0 || place >= PLACES || told < 0 || told > 1) {
                return STUCK;
            }
        }
        return 0;
    }

    private boolean isShape(int shape) {
        return shape >= 0 && shape < table.size();
    }

    private Places placesOf(int shape) {
        return looker.placesOf(table, shape);
    }

    private Fraction worthIn(int shape, int place) {
        return measure.worthAt(table, shape, numberOn(place, 0), numberOn(place, 1), numberOn(place, 2));
    }

    private static boolean isBetween(int v, int least, int most) {
        return v >= least && v <= most;
    }

    private static boolean isShelf(int s) {
        return s >= 0 && s < SHELVES;
    }

    private static boolean isPlace(int place) {
        return place >= 0 && place < PLACES;
    }

    private static boolean isAxis(int axis) {
        return axis >= 0 && axis < AXES;
    }

    private static boolean isNear(int v) {
        return isBetween(v, -FARTHEST, FARTHEST);
    }

    private static boolean isStep(int v) {
        return isBetween(v, -LONGEST_STEP, LONGEST_STEP);
    }

    private static boolean isRun(int from, int n, int size) {
        return from >= 0 && n >= 0 && n <= size && from <= size - n;
    }

    private static boolean isRegion(int from, int to) {
        if (!isPlace(from) || !isPlace(to)) {
            return false;
        }
        for (int axis = 0; axis < AXES; axis++) {
            if (numberOn(from, axis) > numberOn(to, axis)) {
                return false;
            }
        }
        return true;
    }

    private static int placeAt(int x, int y, int z) {
        return SIDE * SIDE * x + SIDE * y + z;
    }

    private static int numberOn(int place, int axis) {
        return place >> shiftOf(axis) & SIDE - 1;
    }

    private static int shiftOf(int axis) {
        return 4 * (AXES - 1 - axis);
    }

    /** The PLACE that is so much more on an AXIS, or NONE (of NONE, too). */
    private static int moved(int place, int axis, int by) {
        if (!isPlace(place) || !isBetween(numberOn(place, axis) + by, 0, SIDE - 1)) {
            return NONE;
        }
        return place + (by << shiftOf(axis));
    }

    /** What is told of KINDS, with the NUMBERS that each may have. */
    private static final class Kinds {
        private static final int[] UNDER = {NONE, SHAPE, SHAPE, SOLID, SOLID, SOLID, OVER, OVER,
            PAIR, PAIR, PAIR, PAIR, CHANGE, CHANGE, CHANGE, CHANGE, CHANGE, GROWN};
        private static final int[] NUMBERS_OF = {0, 0, 0, 4, 6, 4, 0, 0, 0, 0, 0, 2, 3, 2, 2, 2, 2, 2};

        private Kinds() {
        }

        static boolean isUnder(int kind, int wanted) {
            int above = kind;
            for (int i = 0; i < UNDER.length; i++) {
                if (above == wanted) {
                    return true;
                }
                if (above < 0 || above >= UNDER.length) {
                    return false;
                }
                above = UNDER[above];
            }
            return false;
        }

        static boolean isSolid(int kind) {
            return kind >= BALL && kind <= HALF;
        }

        static boolean isPair(int kind) {
            return kind >= UNION && kind <= BLEND;
        }

        static int numbersOf(int kind) {
            return kind >= 0 && kind < NUMBERS_OF.length ? NUMBERS_OF[kind] : 0;
        }

        static boolean allMayBe(int kind, int[] numbers) {
            for (int i = 0; i < numbersOf(kind); i++) {
                if (!mayBe(kind, i, numbers)) {
                    return false;
                }
            }
            return true;
        }

        /** Whether the i-th NUMBER may be, behind those ahead of it. */
        static boolean mayBe(int kind, int i, int[] numbers) {
            if (i < 0 || i >= numbers.length) {
                return false;
            }
            int v = numbers[i];
            switch (kind) {
                case BALL:
                    return i < 3 ? isSpot(v) : isBetween(v, 0, 40);
                case BOX:
                    return isSpot(v) && (i < 3 || v >= numbers[i - 3]);
                case HALF:
                    return i < 3 ? isBetween(v, -9, 9) : isBetween(v, -999, 999);
                case BLEND:
                    return i == 0 ? isBetween(v, 1, MOST_N) : isBetween(v, 0, numbers[0]);
                case SHIFT:
                    return isSpot(v);
                case REPEAT:
                    return i == 0 ? isAxis(v) : isBetween(v, 1, 16);
                case MIRROR:
                    return i == 0 ? isAxis(v) : isBetween(v, 0, 15);
                case TURN:
                    return isAxis(v) && (i == 0 || v != numbers[0]);
                case GROWN:
                    return i == 0 ? isBetween(v, -99, 99) : isBetween(v, 1, 9);
                case SHELL:
                    return i == 0 ? isBetween(v, 0, 99) : isBetween(v, 1, 9);
                default:
                    return false;
            }
        }

        private static boolean isSpot(int v) {
            return isBetween(v, -40, 55);
        }

        /** Whether a text may have - ahead of the i-th NUMBER. */
        static boolean mayHaveMinus(int kind, int i) {
            switch (kind) {
                case BALL:
                    return i < 3;
                case BOX:
                case HALF:
                case SHIFT:
                    return true;
                case GROWN:
                    return i == 0;
                default:
                    return false;
            }
        }

        static String wordOf(int kind) {
            switch (kind) {
                case BALL:
                    return "ball";
                case BOX:
                    return "box";
                case HALF:
                    return "half";
                case UNION:
                    return "union";
                case COMMON:
                    return "common";
                case CUT:
                    return "cut";
                case BLEND:
                    return "blend";
                case SHIFT:
                    return "shift";
                case REPEAT:
                    return "repeat";
                case MIRROR:
                    return "mirror";
                case TURN:
                    return "turn";
                case GROWN:
                    return "grown";
                case SHELL:
                    return "shell";
                default:
                    return "";
            }
        }
    }

    /**
     * A fraction in lowest terms. DEEP and BLENDS keep denominators below two millions and
     * amounts below a million, so that products across stay within a long.
     */
    private static final class Fraction {
        private static final int MOST_STEPS = 200;

        private long num;
        private long den = 1;

        long numerator() {
            return num;
        }

        long denominator() {
            return den;
        }

        boolean isAboveZero() {
            return num > 0;
        }

        boolean isBelowZero() {
            return num < 0;
        }

        boolean isAbove(Fraction f) {
            return num * f.den > f.num * den;
        }

        void putWhole(long v) {
            num = v;
            den = 1;
        }

        void put(long n, long d) {
            long divisor = Math.abs(d);
            long rest = Math.abs(n);
            for (int i = 0; i < MOST_STEPS && rest != 0; i++) {
                long next = divisor % rest;
                divisor = rest;
                rest = next;
            }
            if (divisor > 1) {
                num = n / divisor;
                den = d / divisor;
            } else {
                num = n;
                den = d;
            }
        }

        void take(Fraction f) {
            num = f.num;
            den = f.den;
        }

        void takeLesser(Fraction f) {
            if (isAbove(f)) {
                take(f);
            }
        }

        void takeGreater(Fraction f) {
            if (f.isAbove(this)) {
                take(f);
            }
        }

        void changeWith(Fraction f) {
            long n = num;
            long d = den;
            num = f.num;
            den = f.den;
            f.num = n;
            f.den = d;
        }

        void turnSign() {
            num = -num;
        }

        void becomeAmount() {
            num = Math.abs(num);
        }

        void lessen(int g, int h) {
            put(num * h - g * den, den * h);
        }

        void mix(Fraction f, int n, int t) {
            put(num * f.den * (n - t) + f.num * den * t, den * f.den * n);
        }
    }

    /** SHAPES by their numbers; behind them there are slots for those that are being read. */
    private static final class Table {
        private static final int SLOTS = SHAPES + 64;

        private final int[] kind = new int[SLOTS];
        private final int[] first = new int[SLOTS];
        private final int[] second = new int[SLOTS];
        private final int[] deep = new int[SLOTS];
        private final int[] blends = new int[SLOTS];
        private final int[] solids = new int[SLOTS];
        private final int[] numbers = new int[SLOTS * NUMBERS];
        private int size;

        int size() {
            return size;
        }

        void resize(int n) {
            size = n;
        }

        int kindOf(int s) {
            return s >= 0 && s < SLOTS ? kind[s] : NONE;
        }

        int firstOf(int s) {
            return s >= 0 && s < SLOTS ? first[s] : NONE;
        }

        int secondOf(int s) {
            return s >= 0 && s < SLOTS ? second[s] : NONE;
        }

        int deepOf(int s) {
            return s >= 0 && s < SLOTS ? deep[s] : 0;
        }

        int solidsOf(int s) {
            return s >= 0 && s < SLOTS ? solids[s] : 0;
        }

        private int blendsOf(int s) {
            return s >= 0 && s < SLOTS ? blends[s] : 0;
        }

        int numberOf(int s, int i) {
            return s >= 0 && s < SLOTS && i >= 0 && i < NUMBERS ? numbers[s * NUMBERS + i] : 0;
        }

        boolean isTooDeep(int kindOver, int p, int q) {
            return deepOver(kindOver, p, q) > DEEPEST || blendsOver(kindOver, p, q) > MOST_BLENDS;
        }

        private int deepOver(int kindOver, int p, int q) {
            return Kinds.isSolid(kindOver) ? 0 : 1 + Math.max(deepOf(p), deepOf(q));
        }

        private int blendsOver(int kindOver, int p, int q) {
            return (kindOver == BLEND ? 1 : 0) + Math.max(blendsOf(p), blendsOf(q));
        }

        void write(int slot, int kindNew, int p, int q, int[] numbersNew) {
            if (slot < 0 || slot >= SLOTS) {
                return;
            }
            kind[slot] = kindNew;
            first[slot] = p;
            second[slot] = q;
            deep[slot] = deepOver(kindNew, p, q);
            blends[slot] = blendsOver(kindNew, p, q);
            solids[slot] = Kinds.isSolid(kindNew) ? 1 : solidsOf(p) + solidsOf(q);
            for (int i = 0; i < NUMBERS && i < numbersNew.length; i++) {
                numbers[slot * NUMBERS + i] = numbersNew[i];
            }
        }

        void takeFrom(Table other) {
            System.arraycopy(other.kind, 0, kind, 0, SLOTS);
            System.arraycopy(other.first, 0, first, 0, SLOTS);
            System.arraycopy(other.second, 0, second, 0, SLOTS);
            System.arraycopy(other.deep, 0, deep, 0, SLOTS);
            System.arraycopy(other.blends, 0, blends, 0, SLOTS);
            System.arraycopy(other.solids, 0, solids, 0, SLOTS);
            System.arraycopy(other.numbers, 0, numbers, 0, SLOTS * NUMBERS);
            size = other.size;
        }
    }

    /** WORTHS at points. Each CHANGE that moves the point has it in a row of its own. */
    private static final class Measure {
        private final int[] points = new int[LEVELS * AXES];
        private final Fraction[] worths = new Fraction[LEVELS];

        Measure() {
            for (int i = 0; i < worths.length; i++) {
                worths[i] = new Fraction();
            }
        }

        Fraction worthAt(Table table, int s, int x, int y, int z) {
            points[0] = x;
            points[1] = y;
            points[2] = z;
            find(table, s, 0, 0);
            return worths[0];
        }

        private void find(Table table, int s, int row, int level) {
            if (row < 0 || row > level || level >= LEVELS - 1) {
                return;
            }
            int kind = table.kindOf(s);
            if (Kinds.isSolid(kind)) {
                worths[level].putWhole(ofSolid(table, s, kind, row * AXES));
            } else if (Kinds.isPair(kind)) {
                ofPair(table, s, row, level);
            } else {
                ofChange(table, s, row, level);
            }
        }

        private int ofSolid(Table table, int s, int kind, int at) {
            int sum = 0;
            int greatest = BELOW_ALL;
            for (int i = 0; i < AXES; i++) {
                int v = points[at + i];
                int a = table.numberOf(s, i);
                if (kind == BOX) {
                    greatest = Math.max(greatest, Math.max(a - v, v - table.numberOf(s, i + AXES)));
                } else {
                    sum += kind == BALL ? (v - a) * (v - a) : a * v;
                }
            }
            int last = table.numberOf(s, AXES);
            return kind == BOX ? greatest : sum - (kind == BALL ? last * last : last);
        }

        private void ofPair(Table table, int s, int row, int level) {
            int p = table.firstOf(s);
            int q = table.secondOf(s);
            find(table, p, row, level + 1);
            Fraction worth = worths[level];
            Fraction other = worths[level + 1];
            worth.take(other);
            if (q != p) {
                find(table, q, row, level + 1);
            }
            switch (table.kindOf(s)) {
                case UNION:
                    worth.takeLesser(other);
                    break;
                case COMMON:
                    worth.takeGreater(other);
                    break;
                case CUT:
                    other.turnSign();
                    worth.takeGreater(other);
                    break;
                default:
                    worth.mix(other, table.numberOf(s, 0), table.numberOf(s, 1));
                    break;
            }
        }

        private void ofChange(Table table, int s, int row, int level) {
            int kind = table.kindOf(s);
            if (kind != GROWN && kind != SHELL) {
                move(table, s, row * AXES);
                find(table, table.firstOf(s), row + 1, level + 1);
                worths[level].take(worths[level + 1]);
                return;
            }
            find(table, table.firstOf(s), row, level + 1);
            worths[level].take(worths[level + 1]);
            if (kind == SHELL) {
                worths[level].becomeAmount();
            }
            worths[level].lessen(table.numberOf(s, 0), table.numberOf(s, 1));
        }

        /** The next row becomes the point at which p's WORTH is wanted. */
        private void move(Table table, int s, int at) {
            int to = at + AXES;
            int kind = table.kindOf(s);
            int a = table.numberOf(s, 0);
            int b = table.numberOf(s, 1);
            for (int i = 0; i < AXES; i++) {
                int v = points[at + i];
                if (kind == SHIFT) {
                    v -= table.numberOf(s, i);
                } else if (kind == REPEAT && i == a && b > 0) {
                    v = Math.floorMod(v, b);
                } else if (kind == MIRROR && i == a && v > b) {
                    v = 2 * b - v;
                } else if (kind == TURN && isAxis(a) && isAxis(b)) {
                    v = points[at + (i == a ? b : i == b ? a : i)];
                }
                points[to + i] = v;
            }
        }
    }

    /** BOUNDS over REGIONS. Each CHANGE that moves the REGION has it in a row of its own. */
    private static final class Span {
        private static final int ENDS = 2 * AXES;

        private final int[] regions = new int[LEVELS * ENDS];
        private final Fraction[] lows = new Fraction[LEVELS];
        private final Fraction[] highs = new Fraction[LEVELS];

        Span() {
            for (int i = 0; i < LEVELS; i++) {
                lows[i] = new Fraction();
                highs[i] = new Fraction();
            }
        }

        void putFrom(int x, int y, int z) {
            regions[0] = x;
            regions[1] = y;
            regions[2] = z;
        }

        void putTo(int x, int y, int z) {
            regions[3] = x;
            regions[4] = y;
            regions[5] = z;
        }

        Fraction lowest() {
            return lows[0];
        }

        Fraction highest() {
            return highs[0];
        }

        void findFor(Table table, int s) {
            find(table, s, 0, 0);
        }

        private void find(Table table, int s, int row, int level) {
            if (row < 0 || row > level || level >= LEVELS - 1) {
                return;
            }
            switch (table.kindOf(s)) {
                case BALL:
                    ofBall(table, s, row * ENDS, level);
                    break;
                case BOX:
                    ofBox(table, s, row * ENDS, level);
                    break;
                case HALF:
                    ofHalf(table, s, row * ENDS, level);
                    break;
                case UNION:
                case COMMON:
                case CUT:
                case BLEND:
                    ofPair(table, s, row, level);
                    break;
                default:
                    ofChange(table, s, row, level);
                    break;
            }
        }

        private void ofBall(Table table, int s, int at, int level) {
            int r = table.numberOf(s, AXES);
            long low = -r * r;
            long high = low;
            for (int i = 0; i < AXES; i++) {
                int from = regions[at + i] - table.numberOf(s, i);
                int to = regions[at + AXES + i] - table.numberOf(s, i);
                low += from <= 0 && to >= 0 ? 0 : Math.min(from * from, to * to);
                high += Math.max(from * from, to * to);
            }
            lows[level].putWhole(low);
            highs[level].putWhole(high);
        }

        private void ofBox(Table table, int s, int at, int level) {
            int low = BELOW_ALL;
            int high = BELOW_ALL;
            for (int i = 0; i < AXES; i++) {
                int from = regions[at + i];
                int to = regions[at + AXES + i];
                int least = table.numberOf(s, i);
                int most = table.numberOf(s, AXES + i);
                low = Math.max(low, Math.max(least - to, from - most));
                high = Math.max(high, Math.max(least - from, to - most));
            }
            lows[level].putWhole(low);
            highs[level].putWhole(high);
        }

        private void ofHalf(Table table, int s, int at, int level) {
            long low = -table.numberOf(s, AXES);
            long high = low;
            for (int i = 0; i < AXES; i++) {
                int from = regions[at + i] * table.numberOf(s, i);
                int to = regions[at + AXES + i] * table.numberOf(s, i);
                low += Math.min(from, to);
                high += Math.max(from, to);
            }
            lows[level].putWhole(low);
            highs[level].putWhole(high);
        }

        private void ofPair(Table table, int s, int row, int level) {
            int p = table.firstOf(s);
            int q = table.secondOf(s);
            find(table, p, row, level + 1);
            lows[level].take(lows[level + 1]);
            highs[level].take(highs[level + 1]);
            if (q != p) {
                find(table, q, row, level + 1);
            }
            Fraction low = lows[level + 1];
            Fraction high = highs[level + 1];
            switch (table.kindOf(s)) {
                case UNION:
                    lows[level].takeLesser(low);
                    highs[level].takeLesser(high);
                    break;
                case COMMON:
                    lows[level].takeGreater(low);
                    highs[level].takeGreater(high);
                    break;
                case CUT:
                    low.turnSign();
                    high.turnSign();
                    lows[level].takeGreater(high);
                    highs[level].takeGreater(low);
                    break;
                default:
                    lows[level].mix(low, table.numberOf(s, 0), table.numberOf(s, 1));
                    highs[level].mix(high, table.numberOf(s, 0), table.numberOf(s, 1));
                    break;
            }
        }

        private void ofChange(Table table, int s, int row, int level) {
            int kind = table.kindOf(s);
            if (kind != GROWN && kind != SHELL) {
                move(table, s, row * ENDS);
                find(table, table.firstOf(s), row + 1, level + 1);
                lows[level].take(lows[level + 1]);
                highs[level].take(highs[level + 1]);
                return;
            }
            find(table, table.firstOf(s), row, level + 1);
            lows[level].take(lows[level + 1]);
            highs[level].take(highs[level + 1]);
            if (kind == SHELL) {
                becomeAmounts(lows[level], highs[level]);
            }
            lows[level].lessen(table.numberOf(s, 0), table.numberOf(s, 1));
            highs[level].lessen(table.numberOf(s, 0), table.numberOf(s, 1));
        }

        private static void becomeAmounts(Fraction low, Fraction high) {
            boolean isZeroWithin = !low.isAboveZero() && !high.isBelowZero();
            low.becomeAmount();
            high.becomeAmount();
            if (low.isAbove(high)) {
                low.changeWith(high);
            }
            if (isZeroWithin) {
                low.putWhole(0);
            }
        }

        /** The next row becomes the REGION over which p's BOUNDS are wanted. */
        private void move(Table table, int s, int at) {
            int to = at + ENDS;
            int kind = table.kindOf(s);
            for (int i = 0; i < AXES; i++) {
                int by = kind == SHIFT ? table.numberOf(s, i) : 0;
                regions[to + i] = regions[at + i] - by;
                regions[to + AXES + i] = regions[at + AXES + i] - by;
            }
            int a = table.numberOf(s, 0);
            int b = table.numberOf(s, 1);
            if (kind == REPEAT && isAxis(a)) {
                repeat(to + a, b);
            } else if (kind == MIRROR && isAxis(a)) {
                mirror(to + a, b);
            } else if (kind == TURN && isAxis(a) && isAxis(b)) {
                turn(to + a, to + b);
                turn(to + AXES + a, to + AXES + b);
            }
        }

        private void repeat(int i, int m) {
            if (m < 1) {
                return;
            }
            int from = Math.floorMod(regions[i], m);
            int to = Math.floorMod(regions[i + AXES], m);
            boolean isWhole = from > to || regions[i + AXES] - regions[i] >= m;
            regions[i] = isWhole ? 0 : from;
            regions[i + AXES] = isWhole ? m - 1 : to;
        }

        private void mirror(int i, int c) {
            int from = regions[i];
            int to = regions[i + AXES];
            if (to <= c) {
                return;
            }
            regions[i] = from > c ? 2 * c - to : Math.min(from, 2 * c - to);
            regions[i + AXES] = from > c ? 2 * c - from : c;
        }

        private void turn(int i, int j) {
            int v = regions[i];
            regions[i] = regions[j];
            regions[j] = v;
        }
    }

    /** A set of PLACES, a bit for each by its number. */
    private static final class Places {
        private static final int BITS = 64;

        private final long[] words = new long[PLACES / BITS];

        boolean contains(int place) {
            return isPlace(place) && (words[place / BITS] >>> place % BITS & 1) != 0;
        }

        void add(int place) {
            if (isPlace(place)) {
                words[place / BITS] |= 1L << place % BITS;
            }
        }

        void addCube(int x, int y, int z, int side) {
            for (int i = x; i < x + side; i++) {
                for (int j = y; j < y + side; j++) {
                    for (int k = z; k < z + side; k++) {
                        add(placeAt(i, j, k));
                    }
                }
            }
        }

        void clear() {
            for (int i = 0; i < words.length; i++) {
                words[i] = 0;
            }
        }

        void takeFrom(Places other) {
            for (int i = 0; i < words.length; i++) {
                words[i] = other.words[i];
            }
        }

        void becomeBall(int x, int y, int z, int r) {
            clear();
            for (int i = Math.max(0, x - r); i <= Math.min(SIDE - 1, x + r); i++) {
                for (int j = Math.max(0, y - r); j <= Math.min(SIDE - 1, y + r); j++) {
                    for (int k = Math.max(0, z - r); k <= Math.min(SIDE - 1, z + r); k++) {
                        if ((i - x) * (i - x) + (j - y) * (j - y) + (k - z) * (k - z) <= r * r) {
                            add(placeAt(i, j, k));
                        }
                    }
                }
            }
        }

        /** What changes in a block that is CARVED by a SHAPE with these PLACES. */
        void becomeCarving(Places block, Places by, int how) {
            for (int i = 0; i < words.length; i++) {
                long is = block.words[i];
                long in = by.words[i];
                switch (how) {
                    case 0:
                        words[i] = in & ~is;
                        break;
                    case 1:
                        words[i] = in & is;
                        break;
                    case 2:
                        words[i] = is & ~in;
                        break;
                    default:
                        words[i] = in;
                        break;
                }
            }
        }

        void flip(Places other) {
            for (int i = 0; i < words.length; i++) {
                words[i] ^= other.words[i];
            }
        }

        int size() {
            int n = 0;
            for (int i = 0; i < words.length; i++) {
                n += Long.bitCount(words[i]);
            }
            return n;
        }

        int sizeOfBoth(Places other) {
            int n = 0;
            for (int i = 0; i < words.length; i++) {
                n += Long.bitCount(words[i] & other.words[i]);
            }
            return n;
        }

        int sizeOfOne(Places other) {
            int n = 0;
            for (int i = 0; i < words.length; i++) {
                n += Long.bitCount(words[i] ^ other.words[i]);
            }
            return n;
        }

        int sizeAt(int axis, int at) {
            int n = 0;
            for (int i = 0; i < SIDE; i++) {
                for (int j = 0; j < SIDE; j++) {
                    int place = axis == 0 ? placeAt(at, i, j) : axis == 1 ? placeAt(i, at, j) : placeAt(i, j, at);
                    n += contains(place) ? 1 : 0;
                }
            }
            return n;
        }

        /** The i-th of them, or NONE. */
        int ofThem(int i) {
            int left = i;
            for (int place = 0; place < PLACES; place++) {
                if (contains(place)) {
                    if (left == 0) {
                        return place;
                    }
                    left--;
                }
            }
            return NONE;
        }
    }

    /**
     * The PLACES that are IN each SHAPE, and the cubes LOOKED at. They are looked for when
     * they are wanted first, and kept, as a SHAPE never changes.
     */
    private static final class Looker {
        private final Places[] found = new Places[SHAPES];
        private final int[] looked = new int[SHAPES];
        private final Places none = new Places();
        private final Measure measure = new Measure();
        private final Span span = new Span();

        Looker() {
            for (int i = 0; i < found.length; i++) {
                found[i] = new Places();
            }
        }

        void forgetFrom(int shape) {
            for (int i = Math.max(0, shape); i < looked.length; i++) {
                looked[i] = 0;
            }
        }

        Places placesOf(Table table, int shape) {
            if (shape < 0 || shape >= found.length) {
                return none;
            }
            if (looked[shape] == 0) {
                found[shape].clear();
                look(table, shape, 0, SIDE);
            }
            return found[shape];
        }

        int lookedAt(Table table, int shape) {
            placesOf(table, shape);
            return shape >= 0 && shape < looked.length ? looked[shape] : 0;
        }

        private void look(Table table, int shape, int place, int side) {
            if (shape < 0 || shape >= looked.length || side < 1) {
                return;
            }
            looked[shape]++;
            int x = numberOn(place, 0);
            int y = numberOn(place, 1);
            int z = numberOn(place, 2);
            if (side == 1) {
                if (!measure.worthAt(table, shape, x, y, z).isAboveZero()) {
                    found[shape].add(place);
                }
                return;
            }
            span.putFrom(x, y, z);
            span.putTo(x + side - 1, y + side - 1, z + side - 1);
            span.findFor(table, shape);
            if (!span.highest().isAboveZero()) {
                found[shape].addCube(x, y, z, side);
            } else if (!span.lowest().isAboveZero()) {
                lookAtEighths(table, shape, place, side / 2);
            }
        }

        private void lookAtEighths(Table table, int shape, int place, int half) {
            for (int i = 0; i < 8; i++) {
                look(table, shape, place + placeAt(i / 4 * half, i / 2 % 2 * half, i % 2 * half), half);
            }
        }
    }

    /** Goes over PLACES from one to the next: RAYS, SKIN, PIECES. */
    private static final class Walker {
        private final Places seen = new Places();
        private final int[] due = new int[PLACES];
        private int stepsTillIn;
        private int placesIn;
        private int timesOver;
        private int parts;
        private int greatest;
        private int leastOfGreatest;

        int stepsTillIn() {
            return stepsTillIn;
        }

        int placesIn() {
            return placesIn;
        }

        int timesOver() {
            return timesOver;
        }

        int parts() {
            return parts;
        }

        int greatest() {
            return greatest;
        }

        int leastOfGreatest() {
            return leastOfGreatest;
        }

        void walk(Places places, int from, int dx, int dy, int dz) {
            stepsTillIn = NONE;
            placesIn = 0;
            timesOver = 0;
            int place = from;
            boolean wasIn = places.contains(from);
            for (int step = 0; step < SIDE && place != NONE; step++) {
                boolean isIn = places.contains(place);
                if (isIn && stepsTillIn == NONE) {
                    stepsTillIn = step;
                }
                placesIn += isIn ? 1 : 0;
                timesOver += isIn != wasIn ? 1 : 0;
                wasIn = isIn;
                place = moved(moved(moved(place, 0, dx), 1, dy), 2, dz);
            }
        }

        int skinOf(Places places) {
            int n = 0;
            for (int place = 0; place < PLACES; place++) {
                if (places.contains(place) && isBare(places, place)) {
                    n++;
                }
            }
            return n;
        }

        private static boolean isBare(Places places, int place) {
            for (int i = 0; i < 2 * AXES; i++) {
                if (!places.contains(neighbour(place, i))) {
                    return true;
                }
            }
            return false;
        }

        private static int neighbour(int place, int i) {
            return moved(place, i / 2, i % 2 == 0 ? -1 : 1);
        }

        void part(Places places) {
            parts = 0;
            greatest = 0;
            leastOfGreatest = NONE;
            seen.clear();
            for (int place = 0; place < PLACES; place++) {
                if (places.contains(place) && !seen.contains(place)) {
                    int size = sizeOfPiece(places, place);
                    parts++;
                    if (size > greatest) {
                        greatest = size;
                        leastOfGreatest = place;
                    }
                }
            }
        }

        private int sizeOfPiece(Places places, int from) {
            int found = 1;
            due[0] = from;
            seen.add(from);
            for (int done = 0; done < found && done < due.length; done++) {
                for (int i = 0; i < 2 * AXES; i++) {
                    int next = neighbour(due[done], i);
                    if (places.contains(next) && !seen.contains(next) && found < due.length) {
                        seen.add(next);
                        due[found] = next;
                        found++;
                    }
                }
            }
            return found;
        }
    }

    /** THE BLOCK. A CARVING is kept as the PLACES that it changed: changed again, they are as before. */
    private static final class Block {
        private static final int CARVINGS = 12;

        private final Places now = new Places();
        private final Places[] carvings = new Places[CARVINGS];
        private int next;
        private int left;
        private int inAll;
        private int drawn = 1;

        Block() {
            for (int i = 0; i < carvings.length; i++) {
                carvings[i] = new Places();
            }
        }

        Places places() {
            return now;
        }

        int left() {
            return left;
        }

        int inAll() {
            return inAll;
        }

        int drawnFrom() {
            return drawn;
        }

        void drawFrom(int v) {
            drawn = v;
        }

        int draw(int n) {
            drawn = drawn * 1103515245 + 12345;
            return n < 1 ? 0 : (drawn >>> 16) % n;
        }

        int carveBy(Places by, int how) {
            Places carving = carvings[Math.floorMod(next, CARVINGS)];
            carving.becomeCarving(now, by, how);
            now.flip(carving);
            next = Math.floorMod(next + 1, CARVINGS);
            left = Math.min(left + 1, CARVINGS);
            inAll++;
            return carving.size();
        }

        void tellBack() {
            next = Math.floorMod(next - 1, CARVINGS);
            now.flip(carvings[next]);
            left--;
        }

        void takeFrom(Block other) {
            now.takeFrom(other.now);
            for (int i = 0; i < CARVINGS; i++) {
                carvings[i].takeFrom(other.carvings[i]);
            }
            next = other.next;
            left = other.left;
            inAll = other.inAll;
            drawn = other.drawn;
        }
    }

    /** SHELVES 0 to 7, each with room for the longest ROW. */
    private static final class Shelves {
        private final int[] held = new int[SHELVES];
        private final int[] sizes = new int[SHELVES];
        private final long[] elements = new long[SHELVES * ELEMENTS];

        Shelves() {
            for (int i = 0; i < held.length; i++) {
                held[i] = NONE;
            }
        }

        int heldBy(int s) {
            return isShelf(s) ? held[s] : NONE;
        }

        /** How many elements its ROW has; 0, if it holds none. */
        int sizeOf(int s) {
            return isShelf(s) ? sizes[s] : 0;
        }

        int full() {
            int n = 0;
            for (int i = 0; i < held.length; i++) {
                n += held[i] == NONE ? 0 : 1;
            }
            return n;
        }

        void putRow(int s, int sort, int n) {
            if (!isShelf(s)) {
                return;
            }
            held[s] = sort;
            sizes[s] = n;
            for (int i = 0; i < ELEMENTS; i++) {
                elements[s * ELEMENTS + i] = 0;
            }
        }

        void putShape(int s, int shape) {
            if (isShelf(s)) {
                held[s] = shape == NONE ? NONE : HELD_SHAPE + shape;
                sizes[s] = 0;
            }
        }

        void keepShapesBelow(int n) {
            for (int i = 0; i < held.length; i++) {
                if (held[i] >= HELD_SHAPE + n) {
                    held[i] = NONE;
                }
            }
        }

        private boolean isElement(int s, int i) {
            return isShelf(s) && isBetween(i, 0, ELEMENTS - 1) && i < sizes[s];
        }

        long elementOf(int s, int i) {
            return isElement(s, i) ? elements[s * ELEMENTS + i] : 0;
        }

        void putElement(int s, int i, long v) {
            if (isElement(s, i)) {
                elements[s * ELEMENTS + i] = narrowed(held[s], v);
            }
        }

        private static long narrowed(int sort, long v) {
            switch (sort) {
                case 0:
                    return (byte) v;
                case 1:
                    return (short) v;
                case 2:
                    return (int) v;
                case 4:
                    return v != 0 ? 1 : 0;
                default:
                    return v;
            }
        }

        void moveElements(int p, int q, int i, int j, int n) {
            if (n > 0 && isElement(p, i) && isElement(p, i + n - 1) && isElement(q, j) && isElement(q, j + n - 1)) {
                System.arraycopy(elements, p * ELEMENTS + i, elements, q * ELEMENTS + j, n);
            }
        }
    }

    /**
     * THE TAPE, and what reads it. SHAPES that are begun and not whole stand in rows of
     * their own, so that no depth of brackets asks for a depth of calls.
     */
    private static final class Reader {
        private static final int BYTES = 250;
        /** More than THE TAPE can begin: what has brackets takes 4 bytes at least. */
        private static final int OPEN = 64;

        private final int[] tape = new int[BYTES];
        private int size;
        private int at;
        private int fault;
        private int made;
        private int open;
        private final int[] openKinds = new int[OPEN];
        private final int[] openWords = new int[OPEN];
        private final int[] openFirsts = new int[OPEN];
        private final int[] openNumbers = new int[OPEN * NUMBERS];
        private final int[] numbers = new int[NUMBERS];

        int size() {
            return size;
        }

        /** How many new SHAPES were whole. */
        int made() {
            return made;
        }

        boolean isFull() {
            return size >= BYTES;
        }

        void put(int letter) {
            if (size >= 0 && size < BYTES) {
                tape[size] = letter;
                size++;
            }
        }

        void empty() {
            size = 0;
        }

        /** Writes new SHAPES into the slots behind those that are: the FAULT, or NONE. */
        int read(Table table) {
            at = 0;
            made = 0;
            open = 0;
            fault = NONE;
            boolean isDue = true;
            for (int i = 0; i <= BYTES && isDue; i++) {
                isDue = begin(table);
            }
            return fault;
        }

        /** Reads what stands ahead of brackets: whether a further SHAPE is due. */
        private boolean begin(Table table) {
            skipBlanks();
            int word = at;
            int kind = readWord();
            if (kind == NONE) {
                return isFault(word);
            }
            for (int i = 0; i < Kinds.numbersOf(kind); i++) {
                if (!readNumber(kind, i)) {
                    return false;
                }
            }
            if (Kinds.isSolid(kind)) {
                return end(table, write(table, kind, NONE, NONE));
            }
            return readSign('(') && begun(kind, word);
        }

        private boolean begun(int kind, int word) {
            if (open < 0 || open >= OPEN) {
                return isFault(word);
            }
            openKinds[open] = kind;
            openWords[open] = word;
            openFirsts[open] = NONE;
            System.arraycopy(numbers, 0, openNumbers, open * NUMBERS, NUMBERS);
            open++;
            return true;
        }

        /** Ends all that are whole by their latest part: whether a further SHAPE is due. */
        private boolean end(Table table, int part) {
            int latest = part;
            for (int top = Math.min(open, OPEN) - 1; top >= 0; top--) {
                boolean isPair = Kinds.isPair(openKinds[top]);
                int first = isPair ? openFirsts[top] : latest;
                if (first == NONE) {
                    openFirsts[top] = latest;
                    return readSign(',');
                }
                if (!readSign(')')) {
                    return false;
                }
                int second = isPair ? latest : NONE;
                if (table.isTooDeep(openKinds[top], first, second)) {
                    return isFault(openWords[top]);
                }
                System.arraycopy(openNumbers, top * NUMBERS, numbers, 0, NUMBERS);
                latest = write(table, openKinds[top], first, second);
                open = top;
            }
            skipBlanks();
            return at < size && isFault(at);
        }

        private int write(Table table, int kind, int p, int q) {
            int slot = table.size() + made;
            table.write(slot, kind, p, q, numbers);
            made++;
            return slot;
        }

        private boolean isFault(int place) {
            fault = place;
            return false;
        }

        private int byteAt(int i) {
            return i >= 0 && i < size && i < BYTES ? tape[i] : NONE;
        }

        private void skipBlanks() {
            for (int i = at; i < size && byteAt(i) == ' '; i++) {
                at = i + 1;
            }
        }

        private boolean readSign(int sign) {
            skipBlanks();
            if (byteAt(at) != sign) {
                return isFault(at);
            }
            at++;
            return true;
        }

        /** The KIND that a WORD names, or NONE. */
        private int readWord() {
            int from = at;
            for (int i = from; i < size && isBetween(byteAt(i), 'a', 'z'); i++) {
                at = i + 1;
            }
            for (int kind = BALL; kind <= SHELL && at > from; kind++) {
                if (isWord(from, Kinds.wordOf(kind))) {
                    return kind;
                }
            }
            return NONE;
        }

        private boolean isWord(int from, String word) {
            if (word.length() != at - from) {
                return false;
            }
            for (int i = 0; i < word.length(); i++) {
                if (byteAt(from + i) != word.charAt(i)) {
                    return false;
                }
            }
            return true;
        }

        private boolean readNumber(int kind, int i) {
            skipBlanks();
            boolean isNegative = byteAt(at) == '-' && Kinds.mayHaveMinus(kind, i);
            if (isNegative) {
                at++;
                skipBlanks();
            }
            int from = at;
            int v = 0;
            for (int j = from; j < size && isBetween(byteAt(j), '0', '9'); j++) {
                v = v * 10 + byteAt(j) - '0';
                at = j + 1;
            }
            if (at == from || at - from > 3 || i < 0 || i >= NUMBERS) {
                return isFault(from);
            }
            numbers[i] = isNegative ? -v : v;
            return Kinds.mayBe(kind, i, numbers) || isFault(from);
        }
    }
}
