import java.util.ArrayList;
import java.util.Arrays;
import java.util.List;
import java.util.Random;

/**
 * Long runs of calls by draws, each answered by the class and by a second program that is
 * written from the document alone, in the slowest and plainest way: trees of objects,
 * fractions that refuse to overflow, every PLACE by its WORTH.
 */
public final class RaysOfShapesModel {
    private static final int RUNS = 150;
    private static final int CALLS = 512;
    private static final long LONG = 9000000000000L;

    // ---- fractions

    private record Ratio(long num, long den) {
        static Ratio of(long n, long d) {
            long a = Math.abs(n);
            long b = d;
            while (b != 0) {
                long c = a % b;
                a = b;
                b = c;
            }
            return new Ratio(n / a, d / a);
        }

        Ratio plus(Ratio r) {
            return of(Math.addExact(Math.multiplyExact(num, r.den), Math.multiplyExact(r.num, den)),
                Math.multiplyExact(den, r.den));
        }

        Ratio times(long n, long d) {
            return of(Math.multiplyExact(num, n), Math.multiplyExact(den, d));
        }

        Ratio negative() {
            return new Ratio(-num, den);
        }

        int compare(Ratio r) {
            return Long.compare(Math.multiplyExact(num, r.den), Math.multiplyExact(r.num, den));
        }

        Ratio min(Ratio r) {
            return compare(r) <= 0 ? this : r;
        }

        Ratio max(Ratio r) {
            return compare(r) >= 0 ? this : r;
        }

        Ratio abs() {
            return num < 0 ? negative() : this;
        }
    }

    // ---- shapes as trees

    private static final String[] WORDS = {null, null, null, "ball", "box", "half", null, null, "union", "common",
        "cut", "blend", "shift", "repeat", "mirror", "turn", "grown", "shell"};
    private static final int[] PARENTS = {-1, 0, 0, 1, 1, 1, 2, 2, 6, 6, 6, 6, 7, 7, 7, 7, 7, 16};
    private static final int[] SIZES = {0, 0, 0, 4, 6, 4, 0, 0, 0, 0, 0, 2, 3, 2, 2, 2, 2, 2};

    private static final class Node {
        final int kind;
        final int[] n;
        final Node p;
        final Node q;
        final int pNumber;
        final int qNumber;
        private boolean[] in;
        private int cubes;

        Node(int kind, int[] n, List<Node> all, int pNumber, int qNumber) {
            this.kind = kind;
            this.n = n.clone();
            this.pNumber = pNumber;
            this.qNumber = qNumber;
            p = pNumber < 0 ? null : all.get(pNumber);
            q = qNumber < 0 ? null : all.get(qNumber);
        }

        int deep() {
            return p == null ? 0 : 1 + Math.max(p.deep(), q == null ? 0 : q.deep());
        }

        int blends() {
            int under = Math.max(p == null ? 0 : p.blends(), q == null ? 0 : q.blends());
            return kind == 11 ? under + 1 : under;
        }

        boolean tooDeep() {
            return deep() > 6 || blends() > 2;
        }

        int solids() {
            return p == null ? 1 : p.solids() + (q == null ? 0 : q.solids());
        }

        Ratio worth(int... at) {
            int[] to = at.clone();
            switch (kind) {
                case 3:
                    return whole(sq(at[0] - n[0]) + sq(at[1] - n[1]) + sq(at[2] - n[2]) - sq(n[3]));
                case 4: {
                    int most = Integer.MIN_VALUE;
                    for (int i = 0; i < 3; i++) {
                        most = Math.max(most, Math.max(n[i] - at[i], at[i] - n[i + 3]));
                    }
                    return whole(most);
                }
                case 5:
                    return whole((long) n[0] * at[0] + n[1] * at[1] + n[2] * at[2] - n[3]);
                case 8:
                    return p.worth(at).min(q.worth(at));
                case 9:
                    return p.worth(at).max(q.worth(at));
                case 10:
                    return p.worth(at).max(q.worth(at).negative());
                case 11:
                    return p.worth(at).times(n[0] - n[1], n[0]).plus(q.worth(at).times(n[1], n[0]));
                case 12:
                    return p.worth(at[0] - n[0], at[1] - n[1], at[2] - n[2]);
                case 13:
                    while (to[n[0]] < 0) {
                        to[n[0]] += n[1];
                    }
                    to[n[0]] %= n[1];
                    return p.worth(to);
                case 14:
                    if (to[n[0]] > n[1]) {
                        to[n[0]] = n[1] - (to[n[0]] - n[1]);
                    }
                    return p.worth(to);
                case 15:
                    to[n[0]] = at[n[1]];
                    to[n[1]] = at[n[0]];
                    return p.worth(to);
                case 16:
                    return p.worth(at).plus(Ratio.of(-n[0], n[1]));
                default:
                    return p.worth(at).abs().plus(Ratio.of(-n[0], n[1]));
            }
        }

        Ratio[] bounds(int[] lo, int[] hi) {
            switch (kind) {
                case 3: {
                    long low = -sq(n[3]);
                    long high = -sq(n[3]);
                    for (int i = 0; i < 3; i++) {
                        long a = sq(lo[i] - n[i]);
                        long b = sq(hi[i] - n[i]);
                        low += lo[i] <= n[i] && n[i] <= hi[i] ? 0 : Math.min(a, b);
                        high += Math.max(a, b);
                    }
                    return both(whole(low), whole(high));
                }
                case 4: {
                    long low = Long.MIN_VALUE;
                    long high = Long.MIN_VALUE;
                    for (int i = 0; i < 3; i++) {
                        low = Math.max(low, Math.max(n[i] - hi[i], lo[i] - n[i + 3]));
                        high = Math.max(high, Math.max(n[i] - lo[i], hi[i] - n[i + 3]));
                    }
                    return both(whole(low), whole(high));
                }
                case 5: {
                    long low = -n[3];
                    long high = -n[3];
                    for (int i = 0; i < 3; i++) {
                        low += Math.min(n[i] * lo[i], n[i] * hi[i]);
                        high += Math.max(n[i] * lo[i], n[i] * hi[i]);
                    }
                    return both(whole(low), whole(high));
                }
                case 8:
                case 9:
                case 10:
                case 11:
                    return pairBounds(p.bounds(lo, hi), q.bounds(lo, hi));
                case 16:
                case 17:
                    return grownBounds(p.bounds(lo, hi));
                default:
                    return movedBounds(lo.clone(), hi.clone());
            }
        }

        private Ratio[] pairBounds(Ratio[] a, Ratio[] b) {
            switch (kind) {
                case 8:
                    return both(a[0].min(b[0]), a[1].min(b[1]));
                case 9:
                    return both(a[0].max(b[0]), a[1].max(b[1]));
                case 10:
                    return both(a[0].max(b[1].negative()), a[1].max(b[0].negative()));
                default:
                    return both(a[0].times(n[0] - n[1], n[0]).plus(b[0].times(n[1], n[0])),
                        a[1].times(n[0] - n[1], n[0]).plus(b[1].times(n[1], n[0])));
            }
        }

        private Ratio[] grownBounds(Ratio[] a) {
            Ratio less = Ratio.of(-n[0], n[1]);
            Ratio low = a[0];
            Ratio high = a[1];
            if (kind == 17) {
                boolean zero = a[0].num <= 0 && a[1].num >= 0;
                low = zero ? whole(0) : a[0].abs().min(a[1].abs());
                high = a[0].abs().max(a[1].abs());
            }
            return both(low.plus(less), high.plus(less));
        }

        private Ratio[] movedBounds(int[] lo, int[] hi) {
            int a = n[0];
            int b = n[1];
            switch (kind) {
                case 12:
                    for (int i = 0; i < 3; i++) {
                        lo[i] -= n[i];
                        hi[i] -= n[i];
                    }
                    break;
                case 13: {
                    int from = (lo[a] % b + b) % b;
                    int to = (hi[a] % b + b) % b;
                    boolean plain = from <= to && hi[a] - lo[a] < b;
                    lo[a] = plain ? from : 0;
                    hi[a] = plain ? to : b - 1;
                    break;
                }
                case 14: {
                    int from = lo[a];
                    int to = hi[a];
                    if (from > b) {
                        lo[a] = 2 * b - to;
                        hi[a] = 2 * b - from;
                    } else if (to > b) {
                        lo[a] = Math.min(from, 2 * b - to);
                        hi[a] = b;
                    }
                    break;
                }
                default: {
                    int c = lo[a];
                    lo[a] = lo[b];
                    lo[b] = c;
                    c = hi[a];
                    hi[a] = hi[b];
                    hi[b] = c;
                    break;
                }
            }
            return p.bounds(lo, hi);
        }

        boolean[] in() {
            if (in == null) {
                in = new boolean[4096];
                for (int i = 0; i < 4096; i++) {
                    in[i] = worth(i / 256, i / 16 % 16, i % 16).num <= 0;
                }
            }
            return in;
        }

        int cubes() {
            if (cubes == 0) {
                boolean[] found = new boolean[4096];
                cubes = look(0, 0, 0, 16, found);
                if (!Arrays.equals(found, in())) {
                    throw new IllegalStateException("LOOKED and WORTHS disagree");
                }
            }
            return cubes;
        }

        private int look(int x, int y, int z, int side, boolean[] found) {
            if (side == 1) {
                found[256 * x + 16 * y + z] = worth(x, y, z).num <= 0;
                return 1;
            }
            Ratio[] b = bounds(new int[] {x, y, z}, new int[] {x + side - 1, y + side - 1, z + side - 1});
            if (b[1].num <= 0) {
                for (int i = 0; i < side * side * side; i++) {
                    found[256 * (x + i / side / side) + 16 * (y + i / side % side) + z + i % side] = true;
                }
                return 1;
            }
            if (b[0].num > 0) {
                return 1;
            }
            int sum = 1;
            int h = side / 2;
            for (int i = 0; i < 8; i++) {
                sum += look(x + (i & 1) * h, y + (i >> 1 & 1) * h, z + (i >> 2) * h, h, found);
            }
            return sum;
        }

        int many() {
            return manyOf(in());
        }
    }

    private static Ratio whole(long v) {
        return new Ratio(v, 1);
    }

    private static long sq(long v) {
        return v * v;
    }

    private static Ratio[] both(Ratio a, Ratio b) {
        return new Ratio[] {a, b};
    }

    private static int manyOf(boolean[] set) {
        int n = 0;
        for (boolean b : set) {
            n += b ? 1 : 0;
        }
        return n;
    }

    private static boolean within(long v, long a, long b) {
        return a <= v && v <= b;
    }

    private static boolean numbersFit(int kind, int[] n, int count) {
        for (int i = 0; i < count; i++) {
            int v = n[i];
            boolean fits;
            if (kind == 3 && i == 3) {
                fits = within(v, 0, 40);
            } else if (kind == 3 || kind == 12) {
                fits = within(v, -40, 55);
            } else if (kind == 4) {
                fits = within(v, i < 3 ? -40 : n[i - 3], 55);
            } else if (kind == 5) {
                fits = i < 3 ? within(v, -9, 9) : within(v, -999, 999);
            } else if (kind == 11) {
                fits = i == 0 ? within(v, 1, 9) : within(v, 0, n[0]);
            } else if (kind >= 16) {
                fits = i == 0 ? within(v, kind == 16 ? -99 : 0, 99) : within(v, 1, 9);
            } else if (i == 0) {
                fits = within(v, 0, 2);
            } else {
                fits = kind == 13 ? within(v, 1, 16) : kind == 14 ? within(v, 0, 15) : within(v, 0, 2) && v != n[0];
            }
            if (!fits) {
                return false;
            }
        }
        return true;
    }

    // ---- sets of places

    private static int neighbour(int place, int i) {
        int[] at = {place / 256, place / 16 % 16, place % 16};
        at[i % 3] += i < 3 ? 1 : -1;
        return within(at[i % 3], 0, 15) ? 256 * at[0] + 16 * at[1] + at[2] : -1;
    }

    private static int skinOf(boolean[] set) {
        int n = 0;
        for (int place = 0; place < 4096; place++) {
            boolean bare = false;
            for (int i = 0; i < 6; i++) {
                int next = neighbour(place, i);
                bare |= next < 0 || !set[next];
            }
            n += set[place] && bare ? 1 : 0;
        }
        return n;
    }

    /** How many, the greatest's size, its least PLACE: by names that spread till none does. */
    private static int[] piecesOf(boolean[] set) {
        int[] name = new int[4096];
        for (int i = 0; i < 4096; i++) {
            name[i] = set[i] ? i : -1;
        }
        boolean spread = true;
        while (spread) {
            spread = false;
            for (int i = 0; i < 4096; i++) {
                for (int k = 0; k < 6 && set[i]; k++) {
                    int next = neighbour(i, k);
                    if (next >= 0 && set[next] && name[next] < name[i]) {
                        name[i] = name[next];
                        spread = true;
                    }
                }
            }
        }
        int[] sizes = new int[4096];
        for (int i = 0; i < 4096; i++) {
            if (set[i]) {
                sizes[name[i]]++;
            }
        }
        int[] told = {0, 0, -1};
        for (int i = 0; i < 4096; i++) {
            told[0] += sizes[i] > 0 ? 1 : 0;
            if (sizes[i] > told[1]) {
                told[1] = sizes[i];
                told[2] = i;
            }
        }
        return told;
    }

    // ---- texts

    private static final class Fault extends Exception {
        private static final long serialVersionUID = 1;
        final int place;

        Fault(int place) {
            this.place = place;
        }
    }

    private static final class Text {
        final int[] bytes;
        final List<Node> all;
        int at = 0;

        Text(int[] bytes, List<Node> all) {
            this.bytes = bytes;
            this.all = all;
        }

        /** The first byte of the next TOKEN, and the place behind it in end. */
        int end;

        private boolean isLetter(int i) {
            return i < bytes.length && bytes[i] >= 'a' && bytes[i] <= 'z';
        }

        private boolean isDigit(int i) {
            return i < bytes.length && bytes[i] >= '0' && bytes[i] <= '9';
        }

        String peek() {
            while (at < bytes.length && bytes[at] == 32) {
                at++;
            }
            end = at;
            if (isLetter(at)) {
                while (isLetter(end)) {
                    end++;
                }
            } else if (isDigit(at)) {
                while (isDigit(end)) {
                    end++;
                }
            } else if (at < bytes.length) {
                end = at + 1;
            }
            StringBuilder token = new StringBuilder();
            for (int i = at; i < end; i++) {
                token.append((char) bytes[i]);
            }
            return token.toString();
        }

        void expect(String token) throws Fault {
            if (!peek().equals(token)) {
                throw new Fault(at);
            }
            at = end;
        }

        int shape() throws Fault {
            int kind = Arrays.asList(WORDS).indexOf(peek());
            int word = at;
            if (kind < 0) {
                throw new Fault(word);
            }
            at = end;
            int[] n = new int[6];
            for (int i = 0; i < SIZES[kind]; i++) {
                boolean below = kind == 4 || kind == 5 || kind == 12 || kind == 3 && i < 3 || kind == 16 && i == 0;
                boolean minus = below && peek().equals("-");
                if (minus) {
                    at = end;
                }
                String digits = peek();
                if (!isDigit(at) || digits.length() > 3) {
                    throw new Fault(at);
                }
                n[i] = Integer.parseInt((minus ? "-" : "") + digits);
                if (!numbersFit(kind, n, i + 1)) {
                    throw new Fault(at);
                }
                at = end;
            }
            int p = -1;
            int q = -1;
            if (kind >= 8) {
                expect("(");
                p = shape();
                if (kind < 12) {
                    expect(",");
                    q = shape();
                }
                expect(")");
            }
            Node made = new Node(kind, n, all, p, q);
            if (made.tooDeep()) {
                throw new Fault(word);
            }
            all.add(made);
            return all.size() - 1;
        }
    }

    // ---- the object

    private static final class Held {
        int sort;
        long[] row;
        int shape = -1;
    }

    private static final class Model {
        List<Node> shapes = new ArrayList<>();
        List<Integer> tape = new ArrayList<>();
        Held[] shelves = new Held[8];
        boolean[] block = new boolean[4096];
        List<boolean[]> before = new ArrayList<>();
        int inAll = 0;
        int seed = 1;
        int[] refusals = new int[5];
        Model kept;

        int no(int number) {
            refusals[-62 - number]++;
            return number;
        }

        boolean isShape(int s) {
            return s >= 0 && s < shapes.size();
        }

        int make(int kind, int p, int q, int... numbers) {
            int[] n = Arrays.copyOf(numbers, 6);
            if (kind >= 8 && !isShape(p) || kind >= 8 && kind < 12 && !isShape(q)) {
                return no(-62);
            }
            if (!numbersFit(kind, n, SIZES[kind])) {
                return no(-62);
            }
            Node made = new Node(kind, n, shapes, p, q);
            if (made.tooDeep()) {
                return no(-65);
            }
            if (shapes.size() == 24) {
                return no(-66);
            }
            shapes.add(made);
            return shapes.size() - 1;
        }

        /** BAD SHELF, OTHER, NOTHING for a ROW, or 0. */
        int rowOf(int s) {
            if (s < 0 || s > 7) {
                return -62;
            }
            if (shelves[s] == null) {
                return -64;
            }
            return shelves[s].row == null ? -63 : 0;
        }

        int carve(boolean[] by, int how) {
            before.add(block.clone());
            if (before.size() > 12) {
                before.remove(0);
            }
            inAll++;
            int changed = 0;
            for (int i = 0; i < 4096; i++) {
                boolean was = block[i];
                boolean[] is = {was || by[i], was && !by[i], was && by[i], was ^ by[i]};
                block[i] = is[how];
                changed += block[i] != was ? 1 : 0;
            }
            return changed;
        }

        int draw(int n) {
            seed = seed * 1103515245 + 12345;
            return (seed >> 16 & 0xFFFF) % n;
        }

        void dropShapes() {
            for (int s = 0; s < 8; s++) {
                if (shelves[s] != null && shelves[s].shape >= shapes.size()) {
                    shelves[s] = null;
                }
            }
        }

        Model image() {
            Model m = new Model();
            m.shapes = new ArrayList<>(shapes);
            m.block = block.clone();
            for (boolean[] b : before) {
                m.before.add(b.clone());
            }
            m.inAll = inAll;
            m.seed = seed;
            return m;
        }

        int says(int s, int kind) {
            if (s < 0 || s > 7 || kind < 0 || kind > 17) {
                return no(-62);
            }
            if (shelves[s] == null) {
                return no(-64);
            }
            if (shelves[s].row != null) {
                return no(-63);
            }
            Node node = shapes.get(shelves[s].shape);
            int up = node.kind;
            while (up >= 0 && up != kind) {
                up = PARENTS[up];
            }
            if (up < 0) {
                return no(-63);
            }
            int[] n = node.n;
            switch (kind) {
                case 0: return node.deep();
                case 1: return node.many();
                case 2: return node.pNumber;
                case 3: return n[3];
                case 4: return (n[3] - n[0] + 1) * (n[4] - n[1] + 1) * (n[5] - n[2] + 1);
                case 5: return n[3];
                case 6: return node.qNumber;
                case 7: return node.many() - node.p.many();
                case 8:
                case 9: return node.p.many() + node.q.many() - 2 * common(node.p.in(), node.q.in());
                case 10: return common(node.p.in(), node.q.in());
                case 11: return 10 * n[0] + n[1];
                case 12: return n[0] + n[1] + n[2];
                case 13:
                case 14: return n[1];
                case 15: return 3 - n[0] - n[1];
                default: return n[0];
            }
        }

        int common(boolean[] a, boolean[] b) {
            int n = 0;
            for (int i = 0; i < 4096; i++) {
                n += a[i] && b[i] ? 1 : 0;
            }
            return n;
        }

        int readShape() {
            int[] bytes = new int[tape.size()];
            for (int i = 0; i < bytes.length; i++) {
                bytes[i] = tape.get(i);
            }
            tape.clear();
            Text text = new Text(bytes, new ArrayList<>(shapes));
            try {
                text.shape();
                if (!text.peek().isEmpty()) {
                    throw new Fault(text.at);
                }
            } catch (Fault fault) {
                no(-62);
                return -700 - fault.place;
            }
            if (text.all.size() > 24) {
                return no(-66);
            }
            shapes = text.all;
            return shapes.size() - 1;
        }

        int told(int s, int n) {
            if (n < 0 || n > 20 || s < 0 || s > 7) {
                return -62;
            }
            int row = rowOf(s);
            if (row != 0) {
                return row;
            }
            long[] r = shelves[s].row;
            if (r.length < 2 * n) {
                return -62;
            }
            for (int i = 0; i < n; i++) {
                if (!within(r[2 * i], 0, 4095) || !within(r[2 * i + 1], 0, 1)) {
                    return -65;
                }
            }
            return 0;
        }

        int firstNotSo(Node node, int s, int n) {
            for (int i = 0; i < n; i++) {
                int place = (int) shelves[s].row[2 * i];
                boolean is = node.worth(place / 256, place / 16 % 16, place % 16).num <= 0;
                if (is != (shelves[s].row[2 * i + 1] == 1)) {
                    return i;
                }
            }
            return -1;
        }

        long call(String name, int[] a, long v) {
            switch (name) {
                case "row":
                    if (!within(a[0], 0, 7) || !within(a[1], 0, 4) || !within(a[2], 0, 40)) {
                        return no(-62);
                    }
                    shelves[a[0]] = new Held();
                    shelves[a[0]].sort = a[1];
                    shelves[a[0]].row = new long[a[2]];
                    return 1;
                case "set": {
                    int bad = rowOf(a[0]);
                    if (bad != 0) {
                        return no(bad);
                    }
                    Held h = shelves[a[0]];
                    if (!within(a[1], 0, h.row.length - 1)) {
                        return no(-62);
                    }
                    h.row[a[1]] = h.sort == 0 ? (byte) v : h.sort == 1 ? (short) v : h.sort == 2 ? (int) v
                        : h.sort == 3 ? v : v == 0 ? 0 : 1;
                    return 1;
                }
                case "copy":
                    return copy(a[0], a[1], a[2], a[3], a[4]);
                case "element":
                    return rowOf(a[0]) == 0 && within(a[1], 0, shelves[a[0]].row.length - 1)
                        ? shelves[a[0]].row[a[1]] : 0;
                case "holds":
                    return !within(a[0], 0, 7) || shelves[a[0]] == null ? -1
                        : shelves[a[0]].row != null ? shelves[a[0]].sort : 10 + shelves[a[0]].shape;
                case "show":
                    if (!within(a[0], 0, 7) || a[1] != -1 && !isShape(a[1])) {
                        return no(-62);
                    }
                    shelves[a[0]] = a[1] < 0 ? null : new Held();
                    if (a[1] >= 0) {
                        shelves[a[0]].shape = a[1];
                    }
                    return 1;
                case "says":
                    return says(a[0], a[1]);
                case "feed":
                    if (!within(a[0], 0, 255)) {
                        return no(-62);
                    }
                    if (tape.size() == 250) {
                        return no(-66);
                    }
                    tape.add(a[0]);
                    return tape.size();
                case "wipe": {
                    int size = tape.size();
                    tape.clear();
                    return size;
                }
                case "shape":
                    return readShape();
                case "ball":
                    return make(3, -1, -1, a[0], a[1], a[2], a[3]);
                case "box":
                    return make(4, -1, -1, a);
                case "half":
                    return make(5, -1, -1, a[0], a[1], a[2], a[3]);
                case "pair":
                    return within(a[0], 8, 10) ? make(a[0], a[1], a[2]) : no(-62);
                case "blend":
                    return make(11, a[0], a[1], a[2], a[3]);
                case "shift":
                    return make(12, a[0], -1, a[1], a[2], a[3]);
                case "change":
                    return within(a[0], 13, 15) ? make(a[0], a[1], -1, a[2], a[3]) : no(-62);
                case "grown":
                    return within(a[0], 16, 17) ? make(a[0], a[1], -1, a[2], a[3]) : no(-62);
                case "drop":
                    if (shapes.isEmpty()) {
                        return no(-65);
                    }
                    shapes.remove(shapes.size() - 1);
                    dropShapes();
                    return shapes.size();
                default:
                    return callOfShapes(name, a);
            }
        }

        int copy(int p, int q, int i, int j, int n) {
            if (!within(p, 0, 7) || !within(q, 0, 7)) {
                return no(-62);
            }
            int a = rowOf(p);
            int b = rowOf(q);
            if (a == -63 || b == -63 || a == 0 && b == 0 && shelves[p].sort != shelves[q].sort) {
                return no(-63);
            }
            if (a != 0 || b != 0) {
                return no(-64);
            }
            long[] from = shelves[p].row.clone();
            if (i < 0 || j < 0 || n < 0 || (long) i + n > from.length || (long) j + n > shelves[q].row.length) {
                return no(-62);
            }
            for (int k = 0; k < n; k++) {
                shelves[q].row[j + k] = from[i + k];
            }
            return n;
        }

        long callOfShapes(String name, int[] a) {
            Node s = a.length > 0 && isShape(a[0]) ? shapes.get(a[0]) : null;
            Node t = a.length > 1 && isShape(a[1]) ? shapes.get(a[1]) : null;
            switch (name) {
                case "shapeOf":
                    if (s == null || !within(a[1], 0, 4)) {
                        return no(-62);
                    }
                    return new int[] {s.kind, s.pNumber, s.qNumber, s.deep(), s.solids()}[a[1]];
                case "worth": {
                    if (s == null || !within(a[1], -99, 99) || !within(a[2], -99, 99) || !within(a[3], -99, 99)
                        || !within(a[4], 0, 1)) {
                        return no(-62) - LONG;
                    }
                    Ratio w = s.worth(a[1], a[2], a[3]);
                    return a[4] == 0 ? w.num : w.den;
                }
                case "bounds": {
                    if (s == null || !within(a[1], 0, 4095) || !within(a[2], 0, 4095) || !within(a[3], 0, 3)) {
                        return no(-62) - LONG;
                    }
                    int[] lo = {a[1] / 256, a[1] / 16 % 16, a[1] % 16};
                    int[] hi = {a[2] / 256, a[2] / 16 % 16, a[2] % 16};
                    if (lo[0] > hi[0] || lo[1] > hi[1] || lo[2] > hi[2]) {
                        return no(-62) - LONG;
                    }
                    Ratio[] b = s.bounds(lo, hi);
                    return new long[] {b[0].num, b[0].den, b[1].num, b[1].den}[a[3]];
                }
                case "in":
                    return s == null || !within(a[1], 0, 4095) ? no(-62) : s.in()[a[1]] ? 1 : 0;
                case "count":
                    return s == null || !within(a[1], 0, 1) ? no(-62) : a[1] == 0 ? s.many() : s.cubes();
                case "placeOf": {
                    if (s == null || a[1] < 0) {
                        return no(-62);
                    }
                    int n = 0;
                    for (int i = 0; i < 4096; i++) {
                        if (s.in()[i] && n++ == a[1]) {
                            return i;
                        }
                    }
                    return no(-62);
                }
                case "slice":
                    if (s == null || !within(a[1], 0, 2) || !within(a[2], 0, 15)) {
                        return no(-62);
                    }
                    return slice(s, a[1], a[2]);
                case "reach": {
                    if (s == null || !within(a[1], 0, 2) || !within(a[2], 0, 1)) {
                        return no(-62);
                    }
                    int found = -1;
                    for (int i = 0; i < 16; i++) {
                        if (slice(s, a[1], i) > 0 && (found < 0 || a[2] == 1)) {
                            found = i;
                        }
                    }
                    return found;
                }
                case "ray":
                    return ray(s, a);
                case "skin":
                    return s == null ? no(-62) : skinOf(s.in());
                case "pieces":
                    return s == null || !within(a[1], 0, 2) ? no(-62) : piecesOf(s.in())[a[1]];
                case "both":
                    return s == null || t == null ? no(-62) : common(s.in(), t.in());
                case "differ":
                    return s == null || t == null ? no(-62) : Arrays.mismatch(s.in(), t.in());
                case "even": {
                    if (s == null || !within(a[1], 0, 2)) {
                        return no(-62);
                    }
                    for (int i = 0; i < 4096; i++) {
                        int[] at = {i / 256, i / 16 % 16, i % 16};
                        at[a[1]] = 15 - at[a[1]];
                        if (s.in()[i] != s.in()[256 * at[0] + 16 * at[1] + at[2]]) {
                            return 0;
                        }
                    }
                    return 1;
                }
                case "apart":
                    return s == null || t == null || !within(a[2], 0, 2) ? no(-62) : apart(s, t, a[2]);
                case "enough":
                    return enough(s, t, a);
                case "kinds":
                    return kinds(s, t, a);
                case "judge": {
                    int bad = s == null ? -62 : told(a[1], a[2]);
                    return bad != 0 ? no(bad) : firstNotSo(s, a[1], a[2]);
                }
                default:
                    return callOfBlock(name, a, s);
            }
        }

        int slice(Node s, int axis, int at) {
            int n = 0;
            for (int i = 0; i < 4096; i++) {
                n += s.in()[i] && new int[] {i / 256, i / 16 % 16, i % 16}[axis] == at ? 1 : 0;
            }
            return n;
        }

        int ray(Node s, int[] a) {
            if (s == null || !within(a[1], 0, 4095) || !within(a[5], 0, 2) || !within(a[2], -4, 4)
                || !within(a[3], -4, 4) || !within(a[4], -4, 4) || a[2] == 0 && a[3] == 0 && a[4] == 0) {
                return no(-62);
            }
            List<Boolean> seen = new ArrayList<>();
            int x = a[1] / 256;
            int y = a[1] / 16 % 16;
            int z = a[1] % 16;
            while (within(x, 0, 15) && within(y, 0, 15) && within(z, 0, 15)) {
                seen.add(s.worth(x, y, z).num <= 0);
                x += a[2];
                y += a[3];
                z += a[4];
            }
            int over = 0;
            int in = 0;
            for (int i = 0; i < seen.size(); i++) {
                in += seen.get(i) ? 1 : 0;
                over += i > 0 && !seen.get(i).equals(seen.get(i - 1)) ? 1 : 0;
            }
            return new int[] {seen.indexOf(true), in, over}[a[5]];
        }

        int apart(Node s, Node t, int axis) {
            int step = new int[] {256, 16, 1}[axis];
            for (int k = 0; k < 16; k++) {
                boolean meets = false;
                for (int i = 0; i < 4096; i++) {
                    int at = i / step % 16;
                    meets |= s.in()[i] && at + k < 16 && t.in()[i + k * step];
                }
                if (!meets) {
                    return k;
                }
            }
            return 16;
        }

        int enough(Node s, Node t, int[] a) {
            if (s == null || t == null || !within(a[2], 1, 9) || !within(a[3], 0, 4096)) {
                return no(-62);
            }
            for (int at = 0; at <= a[2]; at++) {
                Node blend = new Node(11, new int[] {a[2], at}, shapes, a[0], a[1]);
                if (blend.tooDeep()) {
                    return no(-65);
                }
                if (blend.many() >= a[3]) {
                    return at;
                }
            }
            return -1;
        }

        int kinds(Node s, Node t, int[] a) {
            int bad = s == null || t == null ? -62 : told(a[2], a[3]);
            if (bad != 0) {
                return no(bad);
            }
            int mask = 0;
            for (int kind = 8; kind <= 10; kind++) {
                Node pair = new Node(kind, new int[6], shapes, a[0], a[1]);
                mask |= firstNotSo(pair, a[2], a[3]) < 0 ? 1 << kind : 0;
            }
            return mask;
        }

        long callOfBlock(String name, int[] a, Node s) {
            switch (name) {
                case "carve":
                    return s == null || !within(a[1], 0, 3) ? no(-62) : carve(s.in(), a[1]);
                case "undo":
                    if (before.isEmpty()) {
                        return no(-65);
                    }
                    block = before.remove(before.size() - 1);
                    return before.size();
                case "block":
                    if (!within(a[0], 0, 2)) {
                        return no(-62);
                    }
                    return a[0] == 0 ? manyOf(block) : a[0] == 1 ? skinOf(block) : piecesOf(block)[0];
                case "has":
                    return within(a[0], 0, 4095) ? block[a[0]] ? 1 : 0 : no(-62);
                case "off":
                    return s == null ? no(-62) : s.many() + manyOf(block) - 2 * common(s.in(), block);
                case "days":
                    if (!within(a[0], 1, 60)) {
                        return no(-62);
                    }
                    for (int day = 0; day < a[0]; day++) {
                        int x = draw(16);
                        int y = draw(16);
                        int z = draw(16);
                        int r = draw(6);
                        int how = draw(4);
                        carve(new Node(3, new int[] {x, y, z, r}, shapes, -1, -1).in(), how);
                    }
                    return manyOf(block);
                case "seed": {
                    int ahead = seed;
                    seed = a[0];
                    return ahead;
                }
                case "image":
                    kept = image();
                    return 1;
                case "back": {
                    if (kept == null) {
                        return no(-65);
                    }
                    Model again = kept.image();
                    shapes = again.shapes;
                    block = again.block;
                    before = again.before;
                    inAll = again.inAll;
                    seed = again.seed;
                    dropShapes();
                    return 1;
                }
                default:
                    return status(a[0]);
            }
        }

        int status(int what) {
            int full = 0;
            for (Held h : shelves) {
                full += h == null ? 0 : 1;
            }
            int[] first = {shapes.size(), before.size(), manyOf(block), inAll, tape.size(), seed, full};
            return within(what, 0, 6) ? first[what] : within(what, 12, 16) ? refusals[what - 12] : -1;
        }
    }

    // ---- the class under test, by names

    private static long answer(RaysOfShapes x, String name, int[] a, long v) {
        switch (name) {
            case "row": return x.row(a[0], a[1], a[2]);
            case "set": return x.set(a[0], a[1], v);
            case "copy": return x.copy(a[0], a[1], a[2], a[3], a[4]);
            case "element": return x.element(a[0], a[1]);
            case "holds": return x.holds(a[0]);
            case "show": return x.show(a[0], a[1]);
            case "says": return x.says(a[0], a[1]);
            case "feed": return x.feed(a[0]);
            case "wipe": return x.wipe();
            case "shape": return x.shape();
            case "ball": return x.ball(a[0], a[1], a[2], a[3]);
            case "box": return x.box(a[0], a[1], a[2], a[3], a[4], a[5]);
            case "half": return x.half(a[0], a[1], a[2], a[3]);
            case "pair": return x.pair(a[0], a[1], a[2]);
            case "blend": return x.blend(a[0], a[1], a[2], a[3]);
            case "shift": return x.shift(a[0], a[1], a[2], a[3]);
            case "change": return x.change(a[0], a[1], a[2], a[3]);
            case "grown": return x.grown(a[0], a[1], a[2], a[3]);
            case "drop": return x.drop();
            case "shapeOf": return x.shapeOf(a[0], a[1]);
            case "worth": return x.worth(a[0], a[1], a[2], a[3], a[4]);
            case "bounds": return x.bounds(a[0], a[1], a[2], a[3]);
            case "in": return x.in(a[0], a[1]);
            case "count": return x.count(a[0], a[1]);
            case "placeOf": return x.placeOf(a[0], a[1]);
            case "slice": return x.slice(a[0], a[1], a[2]);
            case "reach": return x.reach(a[0], a[1], a[2]);
            case "ray": return x.ray(a[0], a[1], a[2], a[3], a[4], a[5]);
            case "skin": return x.skin(a[0]);
            case "pieces": return x.pieces(a[0], a[1]);
            case "both": return x.both(a[0], a[1]);
            case "differ": return x.differ(a[0], a[1]);
            case "even": return x.even(a[0], a[1]);
            case "apart": return x.apart(a[0], a[1], a[2]);
            case "enough": return x.enough(a[0], a[1], a[2], a[3]);
            case "kinds": return x.kinds(a[0], a[1], a[2], a[3]);
            case "judge": return x.judge(a[0], a[1], a[2]);
            case "carve": return x.carve(a[0], a[1]);
            case "undo": return x.undo();
            case "block": return x.block(a[0]);
            case "has": return x.has(a[0]);
            case "off": return x.off(a[0]);
            case "days": return x.days(a[0]);
            case "seed": return x.seed(a[0]);
            case "image": return x.image();
            case "back": return x.back();
            default: return x.status(a[0]);
        }
    }

    // ---- draws

    /** What each call takes: s SHAPE, h SHELF, k KIND, a AXIS, p PLACE, t target in a ROW, or a range. */
    private static final String[] CALLS_BY_WEIGHT = {
        "row h 0:4 0:40 *4", "set h 0:39 *12", "copy h h 0:10 0:10 0:20 *5", "element h 0:40 *3", "holds h *2",
        "show h s *6", "says h 0:17 *16", "wipe *1", "ball n n n 0:12 *10", "box n n n m m m *8",
        "half -4:4 -4:4 -4:4 -30:60 *8", "pair 8:10 s s *12", "blend s s 1:9 0:9 *12", "shift s -9:9 -9:9 -9:9 *4",
        "change 13:15 s a 0:15 *8", "grown 16:17 s -9:20 1:9 *8", "drop *14", "shapeOf s 0:4 *5",
        "worth s f f f 0:1 *10", "bounds s p p 0:3 *12", "in s p *5", "count s 0:1 *8", "placeOf s 0:300 *3",
        "slice s a 0:15 *3", "reach s a 0:1 *3", "ray s p -4:4 -4:4 -4:4 0:2 *6", "skin s *3", "pieces s 0:2 *4",
        "both s s *3", "differ s s *3", "even s a *3", "apart s s a *3", "enough s s 1:9 0:4096 *4",
        "kinds s s h 0:4 *6", "judge s h 0:4 *6", "carve s 0:3 *8", "undo *5", "block 0:2 *4", "has p *3",
        "off s *3", "days 1:20 *2", "seed i *2", "image *2", "back *2", "status 0:16 *4"};

    private static int drawn(Random r, String of, Model m) {
        if (r.nextInt(60) == 0) {
            int[] odd = {-1, -2, 8, 24, 4096, 100, -100, Integer.MIN_VALUE, Integer.MAX_VALUE, 0, 17, 56, -41};
            return odd[r.nextInt(odd.length)];
        }
        switch (of) {
            case "s": {
                // the last ones more often, as they are the DEEP ones
                int size = m.shapes.size();
                int from = r.nextInt(5) < 2 ? Math.max(0, size - 3) : 0;
                return size == 0 ? 0 : from + r.nextInt(size - from + (r.nextInt(30) == 0 ? 1 : 0));
            }
            case "h": return r.nextInt(8);
            case "a": return r.nextInt(3);
            case "p": return r.nextInt(4096);
            case "n": return r.nextInt(18) - 1 + (r.nextInt(12) == 0 ? -39 : 0);
            case "m": return 4 + r.nextInt(14) + (r.nextInt(12) == 0 ? 37 : 0);
            case "f": return r.nextInt(3) == 0 ? r.nextInt(199) - 99 : r.nextInt(20) - 2;
            case "i": return r.nextInt();
            default: {
                int colon = of.indexOf(':');
                int from = Integer.parseInt(of.substring(0, colon));
                int to = Integer.parseInt(of.substring(colon + 1));
                return from + r.nextInt(to - from + 1);
            }
        }
    }

    private static String textOf(Random r, int deep) {
        int kind = deep <= 0 || r.nextInt(4) == 0 ? 3 + r.nextInt(3) : 8 + r.nextInt(10);
        StringBuilder text = new StringBuilder(r.nextInt(9) == 0 ? " " : "").append(WORDS[kind]);
        int[] n = new int[6];
        for (int i = 0; i < SIZES[kind]; i++) {
            for (int tries = 0; tries < 400; tries++) {
                n[i] = r.nextInt(20) == 0 ? r.nextInt(2000) - 1000 : r.nextInt(24) - 6;
                if (numbersFit(kind, n, i + 1)) {
                    break;
                }
            }
            text.append(n[i] < 0 && r.nextInt(2) == 0 ? "" : " ").append(n[i]);
        }
        if (kind >= 8) {
            text.append('(').append(textOf(r, deep - 1));
            if (kind < 12) {
                text.append(r.nextInt(9) == 0 ? " , " : ",").append(textOf(r, deep - 1));
            }
            text.append(')');
        }
        return text.toString();
    }

    private static String spoiled(Random r, String text) {
        StringBuilder b = new StringBuilder(text);
        int at = r.nextInt(b.length());
        String signs = "-(), 0123456789abcdefz;A\u00e9";
        switch (r.nextInt(4)) {
            case 0: b.deleteCharAt(at); break;
            case 1: b.insert(at, signs.charAt(r.nextInt(signs.length()))); break;
            case 2: b.setCharAt(at, signs.charAt(r.nextInt(signs.length()))); break;
            default: b.setLength(at); break;
        }
        return b.toString();
    }

    private final StringBuilder told = new StringBuilder();
    private final RaysOfShapes x = new RaysOfShapes();
    private final Model model = new Model();
    private int calls = 0;

    private boolean sameAnswer(String name, int[] a, long v) {
        calls++;
        long want = model.call(name, a, v);
        long got = answer(x, name, a, v);
        told.append(name).append(Arrays.toString(a)).append(name.equals("set") ? " " + v : "").append(" = ")
            .append(got).append('\n');
        if (got != want) {
            System.out.println(told + "due is " + want);
        }
        return got == want;
    }

    private boolean sameText(Random r) {
        String text = textOf(r, r.nextInt(4) == 0 ? 8 : r.nextInt(4));
        if (r.nextInt(2) == 0) {
            text = spoiled(r, text);
        }
        for (int i = 0; i < text.length() && i < 252 && calls < CALLS - 1; i++) {
            if (!sameAnswer("feed", new int[] {text.charAt(i)}, 0)) {
                return false;
            }
        }
        return sameAnswer("shape", new int[0], 0);
    }

    /** A ROW that tells what is so of one of two PAIRS or of a SHAPE, so that answers are not always NONE. */
    private boolean sameTold(Random r) {
        int s = r.nextInt(8);
        boolean same = sameAnswer("row", new int[] {s, 2 + r.nextInt(2), 8 + r.nextInt(10)}, 0);
        if (model.shapes.isEmpty() || !same) {
            return same;
        }
        int p = r.nextInt(model.shapes.size());
        int q = r.nextInt(model.shapes.size());
        Node node = r.nextInt(3) == 0 ? model.shapes.get(p)
            : new Node(8 + r.nextInt(3), new int[6], model.shapes, p, q);
        for (int i = 0; i < 4 && same; i++) {
            int place = r.nextInt(4096);
            boolean is = node.worth(place / 256, place / 16 % 16, place % 16).num <= 0;
            same = sameAnswer("set", new int[] {s, 2 * i}, place)
                && sameAnswer("set", new int[] {s, 2 * i + 1}, is ? 1 : 0);
        }
        return same && sameAnswer("kinds", new int[] {p, q, s, 4}, 0) && sameAnswer("judge", new int[] {p, s, 4}, 0);
    }

    /** A SHAPE on a SHELF, and what it says for each KIND. */
    private boolean sameSaid(Random r) {
        int s = r.nextInt(8);
        int shape = drawn(r, "s", model);
        boolean same = sameAnswer("show", new int[] {s, shape}, 0);
        if (!model.isShape(shape) || !same) {
            return same;
        }
        for (int kind = model.shapes.get(shape).kind; kind >= 0 && same; kind = PARENTS[kind]) {
            same = sameAnswer("says", new int[] {s, kind}, 0);
        }
        return same && sameAnswer("says", new int[] {s, r.nextInt(18)}, 0);
    }

    /** Two ROWS of a SORT, filled, some of one brought to the other. */
    private boolean sameRows(Random r) {
        int p = r.nextInt(8);
        int q = r.nextInt(3) == 0 ? p : r.nextInt(8);
        int sort = r.nextInt(5);
        boolean same = sameAnswer("row", new int[] {p, sort, 1 + r.nextInt(8)}, 0)
            && (p == q || sameAnswer("row", new int[] {q, sort, r.nextInt(9)}, 0));
        for (int i = 0; i < 6 && same; i++) {
            same = sameAnswer("set", new int[] {r.nextBoolean() ? p : q, r.nextInt(8)}, r.nextLong() >> r.nextInt(64));
        }
        same = same && sameAnswer("copy", new int[] {p, q, r.nextInt(4), r.nextInt(4), r.nextInt(6)}, 0);
        for (int i = 0; i < 8 && same; i++) {
            same = sameAnswer("element", new int[] {q, i}, 0);
        }
        return same;
    }

    private boolean sameOfMany(int which, Random r) {
        switch (which) {
            case 0: return sameText(r);
            case 1: return sameTold(r);
            case 2: return sameRows(r);
            default: return sameSaid(r);
        }
    }

    private boolean run(Random r, List<String[]> choices) {
        boolean same = true;
        while (same && calls < CALLS) {
            if (r.nextInt(20) == 0) {
                same = sameOfMany(r.nextInt(5), r);
                continue;
            }
            int choice = r.nextInt(choices.size());
            String[] call = choices.get(choice);
            int[] a = new int[call.length - 2];
            for (int i = 0; i < a.length; i++) {
                a[i] = drawn(r, call[i + 1], model);
            }
            if (call[0].equals("bounds") && r.nextInt(4) > 0) {
                a[2] = Math.max(a[1] & 0xF00, a[2] & 0xF00) | Math.max(a[1] & 0xF0, a[2] & 0xF0)
                    | Math.max(a[1] & 0xF, a[2] & 0xF);
            }
            long[] values = {r.nextLong(), r.nextInt(4096), r.nextInt(2), r.nextInt()};
            same = sameAnswer(call[0], a, values[r.nextInt(4)]);
        }
        for (int what = -1; what <= 17 && same; what++) {
            same = sameAnswer("status", new int[] {what}, 0);
        }
        return same;
    }

    public static void main(String[] args) {
        int runs = args.length > 0 ? Integer.parseInt(args[0]) : RUNS;
        int first = args.length > 1 ? Integer.parseInt(args[1]) : 0;
        List<String[]> choices = new ArrayList<>();
        for (String call : CALLS_BY_WEIGHT) {
            String[] parts = call.split(" ");
            for (int i = 0; i < Integer.parseInt(parts[parts.length - 1].substring(1)); i++) {
                choices.add(parts);
            }
        }
        for (int run = first; run < first + runs; run++) {
            if (!new RaysOfShapesModel().run(new Random(run), choices)) {
                System.out.println("run " + run + " went another way");
                System.exit(1);
            }
        }
        System.out.println(runs + " runs went the same way");
    }
}
