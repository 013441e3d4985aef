import java.lang.reflect.InvocationTargetException;
import java.lang.reflect.Method;
import java.lang.reflect.Modifier;
import java.util.ArrayList;
import java.util.Arrays;
import java.util.Comparator;
import java.util.List;
import java.util.Random;
import java.util.Set;

/**
 * Calls by draws with any arguments in any state, also far beyond 512: none throws; each that is refused is
 * counted once, by the number that it answers, and changes no other number of status(); the document's limits
 * hold; and an object knows nothing of what is called of another one.
 */
public final class RaysOfShapesAnyCalls {
    private static final int OBJECTS = 100;
    private static final int CALLS = 3000;
    private static final int BAD = -62;
    private static final int FULL = -66;
    private static final long LONG = -9000000000000L;
    private static final int[] ODD = {Integer.MIN_VALUE, Integer.MIN_VALUE + 1, Integer.MAX_VALUE,
        Integer.MAX_VALUE - 1, -1, -2, -40, -41, -99, -100, 15, 16, 17, 23, 24, 40, 41, 55, 56, 60, 61, 99, 100, 250,
        255, 256, 999, 1000, 4095, 4096, 65535, 65536, 1 << 20, 1 << 28, 1 << 30, -(1 << 30)};
    private static final String[] TEXTS = {"ball 7 7 7 5", "box 1 2 3 9 9 9", "half 1 -2 3 4",
        "cut(union(ball 7 7 7 5,box 0 0 0 5 5 5),common(half 1 0 0 7,half 0 1 0 7))",
        "blend 9 4(blend 7 3(ball 4 4 4 3,ball 9 9 9 3),half 1 1 1 20)",
        "shift 1 -2 3(repeat 0 5(mirror 1 7(turn 0 2(grown -3 2(shell 2 9(ball 3 3 3 3))))))"};
    /** What may answer a number like those of REFUSALS without being refused. */
    private static final Set<String> ANY_NUMBER = Set.of("says", "element", "seed", "status", "worth", "bounds");

    private static int wrong = 0;

    /** A call that was made, with its answer. */
    private record Made(Method call, Object[] given, long answer) { }

    private final Random r;
    private final RaysOfShapes x = new RaysOfShapes();
    private final List<Made> all = new ArrayList<>();
    private final StringBuilder told = new StringBuilder();

    private RaysOfShapesAnyCalls(int run) {
        r = new Random(run);
    }

    private void fault(String what) {
        wrong++;
        if (wrong < 20) {
            System.out.println(told.substring(Math.max(0, told.length() - 400)) + what);
        }
    }

    private int drawn() {
        switch (r.nextInt(10)) {
            case 0:
                return ODD[r.nextInt(ODD.length)];
            case 1:
                return r.nextInt();
            case 2:
                return r.nextInt(4098) - 1;
            default:
                return r.nextInt(18) - 1;
        }
    }

    private Object[] drawnFor(Method call) {
        Object[] given = new Object[call.getParameterCount()];
        for (int i = 0; i < given.length; i++) {
            boolean isInt = call.getParameterTypes()[i] == int.class;
            given[i] = isInt ? (Object) drawn() : (Object) (r.nextBoolean() ? drawn() : r.nextLong());
        }
        return given;
    }

    private static long answer(RaysOfShapes of, Method call, Object[] given) throws InvocationTargetException {
        try {
            return ((Number) call.invoke(of, given)).longValue();
        } catch (IllegalAccessException e) {
            throw new IllegalStateException(e);
        }
    }

    private static int[] numbersOf(RaysOfShapes of) {
        int[] numbers = new int[12];
        for (int i = 0; i < 12; i++) {
            numbers[i] = of.status(i < 7 ? i : i + 5);
        }
        return numbers;
    }

    private void one(Method call, Object[] given) throws InvocationTargetException {
        told.append(call.getName()).append(Arrays.toString(given));
        int[] before = numbersOf(x);
        long got = answer(x, call, given);
        told.append(" = ").append(got).append('\n');
        lookAtCounts(call, got, before, numbersOf(x));
        all.add(new Made(call, given, got));
    }

    /** The same calls of a new object, between those of another one, answer the same. */
    private void again(List<Method> calls) throws InvocationTargetException {
        RaysOfShapes twin = new RaysOfShapes();
        RaysOfShapes stranger = new RaysOfShapes();
        for (Made made : all) {
            Method another = calls.get(r.nextInt(calls.size()));
            answer(stranger, another, drawnFor(another));
            if (answer(twin, made.call, made.given) != made.answer) {
                fault("a new object answers something else in its place");
                return;
            }
        }
    }

    private void lookAtCounts(Method call, long got, int[] before, int[] after) {
        int refused = 0;
        for (int i = 7; i < 12; i++) {
            int more = after[i] - before[i];
            refused += more;
            if (more != 0 && (more != 1 || !isRefusal(call, got, BAD - (i - 7)))) {
                fault("it counts " + more + " of " + (BAD - (i - 7)));
            }
        }
        if (refused > 1) {
            fault("it is refused twice");
        }
        boolean looksRefused = got <= BAD && got >= FULL && !ANY_NUMBER.contains(call.getName())
            || got <= LONG && !call.getName().equals("element");
        if (looksRefused && refused == 0) {
            fault("it is refused, and not counted");
        }
        boolean isRead = call.getName().equals("shape");
        for (int i = 0; i < 7 && refused == 1; i++) {
            if (after[i] != (isRead && i == 4 ? 0 : before[i])) {
                fault("it is refused, and changes status(" + i + ")");
            }
        }
        lookAtLimits(after);
    }

    private static boolean isRefusal(Method call, long got, int number) {
        if (call.getName().equals("shape") && number == BAD) {
            return got <= -700 && got >= -950;
        }
        return got == (call.getReturnType() == long.class ? LONG + number : number);
    }

    private void lookAtLimits(int[] numbers) {
        int[] most = {24, 12, 4096, Integer.MAX_VALUE, 250, 0, 8};
        for (int i = 0; i < most.length; i++) {
            if (i != 5 && (numbers[i] < 0 || numbers[i] > most[i])) {
                fault("status(" + i + ") is " + numbers[i]);
            }
        }
    }

    private void text(Method feed, Method shape) throws InvocationTargetException {
        StringBuilder text = new StringBuilder(TEXTS[r.nextInt(TEXTS.length)]);
        if (r.nextBoolean()) {
            text.setCharAt(r.nextInt(text.length()), (char) r.nextInt(256));
        }
        for (int i = 0; i < text.length(); i++) {
            one(feed, new Object[] {(int) text.charAt(i)});
        }
        if (r.nextInt(4) > 0) {
            one(shape, new Object[0]);
        }
    }

    private void run(List<Method> calls, Method feed, Method shape) {
        try {
            for (int i = 0; i < CALLS; i++) {
                Method call = calls.get(r.nextInt(calls.size()));
                if (call.equals(shape)) {
                    text(feed, shape);
                } else {
                    one(call, drawnFor(call));
                }
            }
            again(calls);
        } catch (InvocationTargetException e) {
            fault("it throws " + e.getCause());
        }
    }

    public static void main(String[] args) throws NoSuchMethodException {
        List<Method> calls = new ArrayList<>();
        for (Method method : RaysOfShapes.class.getDeclaredMethods()) {
            if (Modifier.isPublic(method.getModifiers())) {
                calls.add(method);
            }
        }
        calls.sort(Comparator.comparing(Method::getName));
        // what makes SHAPES comes more often, as most of what is drawn for it is BAD
        for (String name : new String[] {"ball", "box", "half", "pair", "blend", "change", "grown", "carve", "show"}) {
            calls.addAll(calls.stream().filter(c -> c.getName().equals(name)).toList());
            calls.addAll(calls.stream().filter(c -> c.getName().equals(name)).toList());
        }
        Method feed = RaysOfShapes.class.getMethod("feed", int.class);
        Method shape = RaysOfShapes.class.getMethod("shape");
        for (int run = 0; run < OBJECTS; run++) {
            new RaysOfShapesAnyCalls(run).run(calls, feed, shape);
        }
        System.out.println(wrong == 0 ? "no call throws, each refusal counts" : wrong + " calls did what none may");
        System.exit(wrong == 0 ? 0 : 1);
    }
}
