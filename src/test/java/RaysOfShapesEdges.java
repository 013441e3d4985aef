import java.io.IOException;
import java.lang.reflect.InvocationTargetException;
import java.lang.reflect.Method;
import java.lang.reflect.Modifier;
import java.nio.file.Files;
import java.nio.file.Path;
import java.util.ArrayList;
import java.util.Arrays;
import java.util.HashMap;
import java.util.List;
import java.util.Map;
import java.util.stream.Stream;

/**
 * The runs told in src/test/runs: each edge that a sentence of the document names.
 *
 * <pre>
 * state NAME             what follows are calls that runs can begin with
 * run NAME               what follows are calls of one new object
 * with NAME              the calls of a state
 * CALL = ANSWER          a call of the run
 * read "TEXT" = ANSWER   the TEXT is fed, and read
 * feeds "TEXT"           the TEXT is fed
 * times N CALL           N calls, none refused
 * try CALL = ANSWER      a call of a twin of the run's object, so that those that follow know nothing of it
 * CALL ! ANSWER          likewise one that is refused: counted once, and nothing else is changed by it
 * ends CALL : A = R, B = S   the least and the greatest number that may stand for ? in the CALL, with answers;
 *                        the next ones beyond (and the farthest an int can be) are BAD
 * texts "TEXT" : A, B    the least and the greatest NUMBER that may stand for ? in a TEXT that is a SHAPE;
 *                        the next ones beyond are the FAULT
 * </pre>
 */
public final class RaysOfShapesEdges {
    private static final Path RUNS = Path.of("src/test/runs");
    private static final int MOST_CALLS = 512;
    private static final int BAD = -62;
    private static final long LONG = -9000000000000L;
    private static final Map<String, Method> METHODS = new HashMap<>();
    private static final Map<String, List<String>> STATES = new HashMap<>();

    private static int wrong = 0;
    private static int asked = 0;
    private static String place = "";

    private static void due(String call, long got, long want) {
        asked++;
        if (got != want) {
            wrong++;
            System.out.println(place + ": " + call + " answered " + got + ", due is " + want);
        }
    }

    // ---- one object, whose calls are counted

    private static final class Used {
        private final RaysOfShapes x = new RaysOfShapes();
        private int calls = 0;

        long call(String name, long... values) {
            calls++;
            if (calls == MOST_CALLS + 1) {
                wrong++;
                System.out.println(place + ": more than " + MOST_CALLS + " calls");
            }
            Method method = METHODS.get(name);
            if (method == null || method.getParameterCount() != values.length) {
                throw new IllegalStateException(place + ": no such call: " + name);
            }
            Object[] given = new Object[values.length];
            for (int i = 0; i < given.length; i++) {
                boolean isInt = method.getParameterTypes()[i] == int.class;
                given[i] = isInt ? (Object) Math.toIntExact(values[i]) : (Object) values[i];
            }
            try {
                return ((Number) method.invoke(x, given)).longValue();
            } catch (InvocationTargetException | IllegalAccessException e) {
                throw new IllegalStateException(place, e);
            }
        }

        /** A call as it stands in a line. */
        long told(String line) {
            String text = textIn(line);
            if (text != null) {
                feed(text);
                return line.startsWith("read") ? call("shape") : 0;
            }
            String[] parts = line.split(" +");
            long[] values = new long[parts.length - 1];
            for (int i = 0; i < values.length; i++) {
                values[i] = Long.parseLong(parts[i + 1]);
            }
            return call(parts[0], values);
        }

        void feed(String text) {
            long size = call("status", 4);
            for (int i = 0; i < text.length(); i++) {
                due("feed of " + text.charAt(i), call("feed", text.charAt(i)), size + i + 1);
            }
        }

        /** Does a line again whose answer has been looked at. */
        void again(String line) {
            if (line.startsWith("times ")) {
                String[] parts = line.split(" +", 3);
                for (int i = 0; i < Integer.parseInt(parts[1]); i++) {
                    long got = told(parts[2]);
                    due("none refused of " + line, got <= BAD && got >= BAD - 4 ? 1 : 0, 0);
                }
            } else {
                told(withoutAnswer(line));
            }
        }
    }

    private static Used replayed(List<String> lines) {
        Used used = new Used();
        for (String line : lines) {
            used.again(line);
        }
        return used;
    }

    private static String textIn(String line) {
        int from = line.indexOf('"');
        return from < 0 ? null : line.substring(from + 1, line.lastIndexOf('"'));
    }

    private static String withoutAnswer(String line) {
        int end = line.lastIndexOf(" = ");
        return end < 0 ? line : line.substring(0, end);
    }

    // ---- all that can be seen of an object

    private static long[] refusalsOf(Used u) {
        long[] counts = new long[5];
        for (int i = 0; i < counts.length; i++) {
            counts[i] = u.call("status", 12 + i);
        }
        return counts;
    }

    /** Looks at everything, and uses it up: CARVINGS are told BACK, THE TAPE is read, what was kept comes again. */
    private static List<Long> allOf(Used u) {
        List<Long> seen = new ArrayList<>();
        lookAtCounts(u, seen);
        for (int s = 0; s < 8; s++) {
            long held = u.call("holds", s);
            seen.add(held);
            for (int i = 0; i < 5 && held >= 0 && held < 10; i++) {
                seen.add(u.call("element", s, i < 4 ? i : 39));
            }
        }
        lookAtShapes(u, seen, 4);
        lookAtBlock(u, seen);
        seen.add(u.call("shape"));
        seen.add(u.call("status", 0));
        seen.add(u.call("back"));
        lookAtCounts(u, seen);
        lookAtShapes(u, seen, 1);
        lookAtBlock(u, seen);
        return seen;
    }

    private static void lookAtCounts(Used u, List<Long> seen) {
        for (int what = 0; what < 7; what++) {
            seen.add(u.call("status", what));
        }
    }

    private static void lookAtShapes(Used u, List<Long> seen, int looks) {
        long shapes = u.call("status", 0);
        for (int s = 0; s < shapes; s++) {
            seen.add(u.call("worth", s, 3, -5, 17, 0));
            for (int what = 0; what < looks - 1; what++) {
                seen.add(u.call("shapeOf", s, what));
            }
        }
    }

    private static void lookAtBlock(Used u, List<Long> seen) {
        seen.add(u.call("block", 1));
        for (int i = 0; i < 13; i++) {
            seen.add(u.call("block", 0));
            long left = u.call("undo");
            seen.add(left);
            if (left < 0) {
                return;
            }
        }
    }

    private static void refused(List<String> lines, String call, long want) {
        Used plain = replayed(lines);
        Used used = replayed(lines);
        if (call.startsWith("read") || call.equals("shape")) {
            // what is read is gone from THE TAPE, refused or not
            plain.call("wipe");
        }
        long got = used.told(call);
        due(call, got, want);
        long[] before = refusalsOf(plain);
        long[] after = refusalsOf(used);
        long number = want <= LONG ? want - LONG : want <= -700 ? BAD : want;
        int counted = (int) (BAD - number);
        before[counted]++;
        for (int i = 0; i < before.length; i++) {
            due("behind " + call + " status(" + (12 + i) + ")", after[i], before[i]);
        }
        List<Long> should = allOf(plain);
        List<Long> is = allOf(used);
        due("behind " + call + " all that can be seen: " + is + " for " + should, is.equals(should) ? 1 : 0, 1);
    }

    private static void tried(List<String> lines, String call, long want) {
        due("try " + call, replayed(lines).told(call), want);
    }

    private static void ends(List<String> lines, String line) {
        int colon = line.lastIndexOf(" : ");
        String call = line.substring(0, colon);
        String[] ends = line.substring(colon + 3).split(", ");
        long[] may = new long[2];
        for (int i = 0; i < 2; i++) {
            String[] end = ends[i].split(" = ");
            may[i] = Long.parseLong(end[0].trim());
            tried(lines, call.replace("?", end[0].trim()), Long.parseLong(end[1].trim()));
        }
        boolean isLong = METHODS.get(call.substring(0, call.indexOf(' '))).getReturnType() == long.class;
        for (long v : new long[] {may[0] - 1, may[1] + 1, Integer.MIN_VALUE, Integer.MAX_VALUE}) {
            refused(lines, call.replace("?", Long.toString(v)), isLong ? LONG + BAD : BAD);
        }
    }

    private static void texts(List<String> lines, String line) {
        int colon = line.lastIndexOf(" : ");
        String call = "read " + line.substring(0, colon);
        String text = textIn(call);
        String[] ends = line.substring(colon + 3).split(", ");
        int least = Integer.parseInt(ends[0].trim());
        int most = Integer.parseInt(ends[1].trim());
        for (int v : new int[] {least, most}) {
            due(call + " with " + v, replayed(lines).told(call.replace("?", Integer.toString(v))) >= 0 ? 1 : 0, 1);
        }
        for (int v : new int[] {least - 1, most + 1, -999, 999, -1000, 1000, 2147483647}) {
            if (v < least || v > most) {
                boolean behindMinus = v < 0 && least < 0;
                int fault = text.indexOf('?') + (behindMinus ? 1 : 0);
                refused(lines, call.replace("?", Integer.toString(v)), -700 - fault);
            }
        }
    }

    // ---- the lines of a file

    private static void answered(Used used, String line) {
        if (line.startsWith("times ") || line.startsWith("feeds ")) {
            used.again(line);
            return;
        }
        int end = line.lastIndexOf(" = ");
        if (end < 0) {
            throw new IllegalStateException(place + ": what is due of " + line);
        }
        due(line.substring(0, end), used.told(line.substring(0, end)), Long.parseLong(line.substring(end + 3).trim()));
    }

    private static void run(List<String> lines, List<String> places) {
        List<String> done = new ArrayList<>();
        Used used = new Used();
        for (int i = 0; i < lines.size(); i++) {
            String line = lines.get(i);
            place = places.get(i);
            int refusal = line.lastIndexOf(" ! ");
            if (line.startsWith("with ")) {
                for (String of : STATES.get(line.substring(5))) {
                    answered(used, of);
                    done.add(of);
                }
            } else if (line.startsWith("ends ")) {
                ends(done, line.substring(5));
            } else if (line.startsWith("texts ")) {
                texts(done, line.substring(6));
            } else if (line.startsWith("try ")) {
                int end = line.lastIndexOf(" = ");
                tried(done, line.substring(4, end), Long.parseLong(line.substring(end + 3).trim()));
            } else if (refusal >= 0) {
                refused(done, line.substring(0, refusal), Long.parseLong(line.substring(refusal + 3).trim()));
            } else {
                answered(used, line);
                done.add(line);
            }
        }
    }

    private static void putState(String name, List<String> lines) {
        List<String> whole = new ArrayList<>();
        for (String line : lines) {
            if (line.startsWith("with ")) {
                whole.addAll(STATES.get(line.substring(5)));
            } else {
                whole.add(line);
            }
        }
        STATES.put(name, whole);
    }

    private static void runAll(Path file) throws IOException {
        List<String> all = new ArrayList<>(Files.readAllLines(file));
        all.add("run");
        List<String> lines = new ArrayList<>();
        List<String> places = new ArrayList<>();
        String head = "";
        for (int i = 0; i < all.size(); i++) {
            String line = all.get(i).strip();
            if (line.startsWith("run") || line.startsWith("state ")) {
                if (head.startsWith("state ")) {
                    putState(head.substring(6), lines);
                } else {
                    run(lines, places);
                }
                head = line;
                lines.clear();
                places.clear();
            } else if (!line.isEmpty() && !line.startsWith("#")) {
                lines.add(line);
                places.add(file.getFileName() + ":" + (i + 1));
            }
        }
    }

    public static void main(String[] args) throws IOException {
        for (Method method : RaysOfShapes.class.getMethods()) {
            if (Modifier.isPublic(method.getModifiers()) && method.getDeclaringClass() == RaysOfShapes.class) {
                METHODS.put(method.getName(), method);
            }
        }
        Path[] files;
        try (Stream<Path> found = Files.list(RUNS)) {
            files = found.filter(f -> f.toString().endsWith(".txt")).toArray(Path[]::new);
        }
        Arrays.sort(files);
        for (Path file : files) {
            runAll(file);
        }
        System.out.println(wrong == 0 ? asked + " answers at edges are as due" : wrong + " answers are not as due");
        System.exit(wrong == 0 && asked > 0 ? 0 : 1);
    }
}
