import java.util.ArrayList;
import java.util.List;

/**
 * THE FAULT at each TOKEN of texts that have none: what is cut off, what stands in the place of
 * a TOKEN, what stands ahead of it, and each of the 256 bytes.
 */
public final class RaysOfShapesTexts {
    private static final int NO_FAULT = -1;

    /** Each has no FAULT. TOKENS stand apart, so that one can be changed without its NEIGHBOURS. */
    private static final String[] TEXTS = {
        "ball 1 2 3 4",
        "ball - 1 - 2 - 3 4",
        "box - 1 2 - 3 4 5 6",
        "box - 9 - 8 - 7 - 6 - 5 - 4",
        "half 1 - 2 3 - 4",
        "union ( ball 1 2 3 4 , half 5 6 7 8 )",
        "common ( ball 1 2 3 4 , half 5 6 7 8 )",
        "cut ( cut ( ball 1 2 3 4 , box 1 1 1 1 1 1 ) , half 5 6 7 8 )",
        "blend 5 3 ( ball 1 2 3 4 , half 5 6 7 8 )",
        "shift 1 - 2 3 ( ball 1 2 3 4 )",
        "repeat 2 3 ( ball 1 2 3 4 )",
        "mirror 2 3 ( ball 1 2 3 4 )",
        "turn 2 1 ( ball 1 2 3 4 )",
        "grown - 2 1 ( ball 1 2 3 4 )",
        "shell 2 1 ( ball 1 2 3 4 )",
        "shell 2 1 ( union ( turn 0 1 ( ball 1 2 3 4 ) , grown 1 1 ( half 1 1 1 1 ) ) )",
    };

    /** What stands in the place of a TOKEN, or ahead of it. */
    private static final String[] OTHERS = {"ball", "box", "turn", "bal", "x", "1000", "0000", "(", ")", ",", "-", ";",
        "+", ".", "\t", "A", "_", "`", "{", "/", ":", "\u0000", "\u0080", "\u00a0", "\u00ff"};

    private static int wrong = 0;
    private static int asked = 0;

    private static void due(String text, int got, int fault) {
        asked++;
        boolean isDue = fault == NO_FAULT ? got >= 0 : got == -700 - fault;
        if (!isDue) {
            wrong++;
            System.out.println("shape() of \u00ab" + text + "\u00bb answered " + got + ", the FAULT is "
                + (fault == NO_FAULT ? "none" : Integer.toString(fault)));
        }
    }

    private static void read(String text, int fault) {
        RaysOfShapes x = new RaysOfShapes();
        for (int i = 0; i < text.length(); i++) {
            x.feed(text.charAt(i));
        }
        due(text, x.shape(), fault);
        due("what is left of " + text, -700 - x.status(4), 0);
        due("SHAPES of " + text, fault == NO_FAULT || x.status(0) == 0 ? 0 : -700, NO_FAULT);
        due("refused of " + text, -700 - x.status(12), fault == NO_FAULT ? 0 : 1);
    }

    private static boolean isLetter(char c) {
        return c >= 'a' && c <= 'z';
    }

    private static boolean isDigit(char c) {
        return c >= '0' && c <= '9';
    }

    /** The places at which TOKENS begin. */
    private static List<Integer> tokensOf(String text) {
        List<Integer> places = new ArrayList<>();
        for (int i = 0; i < text.length(); i++) {
            if (text.charAt(i) != ' ' && (i == 0 || text.charAt(i - 1) == ' ')) {
                places.add(i);
            }
        }
        return places;
    }

    private static int endOf(String text, int place) {
        int end = text.indexOf(' ', place);
        return end < 0 ? text.length() : end;
    }

    /** THE TAPE ends too early, or within a WORD. */
    private static void cutOff(String text) {
        for (int size = 0; size < text.length(); size++) {
            int from = size;
            while (from > 0 && isLetter(text.charAt(from - 1))) {
                from--;
            }
            boolean isWithinWord = from < size && isLetter(text.charAt(size));
            read(text.substring(0, size), isWithinWord ? from : size);
            read(text.substring(0, size) + "  ", isWithinWord ? from : size + 2);
        }
        read(text, NO_FAULT);
        read("   " + text + "   ", NO_FAULT);
    }

    /** Whether the other TOKEN could stand where that of the text does. */
    private static boolean mayStand(String text, int place, String other) {
        char is = text.charAt(place);
        if (isLetter(is)) {
            return other.equals("ball") || other.equals("box") || other.equals("turn");
        }
        return other.charAt(0) == is || isDigit(is) && other.equals("-");
    }

    private static void inPlaces(String text) {
        for (int place : tokensOf(text)) {
            for (String other : OTHERS) {
                if (!mayStand(text, place, other)) {
                    read(text.substring(0, place) + other + text.substring(endOf(text, place)), place);
                    read(text.substring(0, place) + other + " " + text.substring(place), place);
                }
            }
            // a WORD, a NUMBER where nothing but a SIGN may be
            if (!isLetter(text.charAt(place)) && !isDigit(text.charAt(place)) && text.charAt(place) != '-') {
                read(text.substring(0, place) + "7 " + text.substring(place), place);
            }
        }
        for (String other : OTHERS) {
            read(text + " " + other, text.length() + 1);
        }
    }

    private static void eachByte() {
        for (int b = 0; b < 256; b++) {
            char c = (char) b;
            boolean isBlank = b == 32;
            read("" + c, isBlank ? 1 : 0);
            read(c + "ball 1 2 3 4", isBlank ? NO_FAULT : 0);
            read("ball" + c + " 1 2 3 4",
                isBlank || c == '-' ? NO_FAULT : isLetter(c) ? 0 : isDigit(c) ? 12 : 4);
            read("ball 1" + c + "2 3 4", isBlank || c == '-' ? NO_FAULT : isDigit(c) ? 5 : 6);
            read("ball 1 2 3 4" + c, isBlank ? NO_FAULT : c == '0' ? NO_FAULT : isDigit(c) ? 11 : 12);
            read("ball 1 2 3 4 " + c, isBlank ? NO_FAULT : 13);
            read("turn 0 1" + c + "(ball 1 2 3 4)", isBlank ? NO_FAULT : isDigit(c) ? 7 : c == '(' ? 9 : 8);
            read("turn 0 1(" + c + "ball 1 2 3 4)", isBlank ? NO_FAULT : 9);
            read("turn 0 1(ball 1 2 3 4" + c + ")",
                isBlank || c == '0' ? NO_FAULT : isDigit(c) ? 20 : c == ')' ? 22 : 21);
            read("cut(ball 1 2 3 4," + c + "ball 1 2 3 4)", isBlank ? NO_FAULT : 17);
        }
    }

    public static void main(String[] args) {
        for (String text : TEXTS) {
            cutOff(text);
            inPlaces(text);
        }
        eachByte();
        System.out.println(wrong == 0 ? asked + " answers to texts are as due" : wrong + " answers are not as due");
        if (wrong != 0) {
            System.exit(1);
        }
    }
}
