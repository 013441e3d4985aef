import java.io.IOException;
import java.lang.reflect.Method;
import java.nio.file.Files;
import java.nio.file.Path;
import java.util.regex.Matcher;
import java.util.regex.Pattern;

/** Each call that stands in README.md with its answer, in their order, of one object. */
public final class RaysOfShapesReadme {
    private static final Path README = Path.of("README.md");
    private static final Pattern CALL = Pattern.compile("x\\.(\\w+)\\(([^)]*)\\); +// (-?\\d+)\\b.*");
    private static final Pattern TEXT = Pattern.compile("(?:String )?text = \"([^\"]*)\";");
    private static final String MAKE = "RaysOfShapes x = new RaysOfShapes();";
    private static final String FEED = "for (int i = 0; i < text.length(); i++) { x.feed(text.charAt(i)); }";
    private static final int LEAST_CALLS = 20;

    private RaysOfShapes x;
    private String text = "";
    private int calls = 0;
    private int wrong = 0;

    private static Method named(String name) {
        for (Method method : RaysOfShapes.class.getMethods()) {
            if (method.getName().equals(name)) {
                return method;
            }
        }
        throw new IllegalStateException("no such call: " + name);
    }

    private void call(String name, String values, long want) throws ReflectiveOperationException {
        String[] parts = values.isEmpty() ? new String[0] : values.split(", ");
        Object[] given = new Object[parts.length];
        for (int i = 0; i < parts.length; i++) {
            given[i] = Integer.parseInt(parts[i]);
        }
        long got = ((Number) named(name).invoke(x, given)).longValue();
        calls++;
        if (got != want) {
            wrong++;
            System.out.println(name + "(" + values + ") answered " + got + ", README.md says " + want);
        }
    }

    private void line(String line) throws ReflectiveOperationException {
        Matcher call = CALL.matcher(line);
        Matcher told = TEXT.matcher(line);
        if (call.matches()) {
            call(call.group(1), call.group(2), Long.parseLong(call.group(3)));
        } else if (told.matches()) {
            text = told.group(1);
        } else if (line.equals(FEED)) {
            for (int i = 0; i < text.length(); i++) {
                x.feed(text.charAt(i));
            }
        } else if (line.equals(MAKE)) {
            x = new RaysOfShapes();
        } else {
            throw new IllegalStateException("a line that README.md may not have among its calls: " + line);
        }
    }

    public static void main(String[] args) throws IOException, ReflectiveOperationException {
        RaysOfShapesReadme readme = new RaysOfShapesReadme();
        boolean isJava = false;
        for (String line : Files.readAllLines(README)) {
            if (line.startsWith("```")) {
                isJava = line.equals("```java");
            } else if (isJava) {
                readme.line(line);
            }
        }
        boolean isWell = readme.wrong == 0 && readme.calls >= LEAST_CALLS;
        System.out.println(isWell ? "README.md says what is answered" : readme.wrong + " of " + readme.calls + " are wrong");
        System.exit(isWell ? 0 : 1);
    }
}
