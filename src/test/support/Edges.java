import java.io.IOException;
import java.io.UncheckedIOException;
import java.nio.file.Files;
import java.nio.file.Path;
import java.util.Set;
import java.util.TreeSet;

/**
 * What the tests of the document's sentences share. Each of their checks stands behind the sentence that
 * it is about, in the document's own words.
 */
abstract class Edges {
    static final int FLOAT = 0;
    static final int DOUBLE = 1;
    static final int[] PRECISION = {24, 53};
    static final int[] LOWEST = {-149, -1074};
    static final int[] HIGHEST = {104, 971};
    static final long[] SIGN = {0x80000000L, 0x8000000000000000L};
    static final long[] ENDLESS = {0x7F800000L, 0x7FF0000000000000L};
    static final long[] NONE = {0x7FC00000L, 0x7FF8000000000000L};
    static final long[] GREATEST = {0x7F7FFFFFL, 0x7FEFFFFFFFFFFFFFL};
    static final long[] LEAST_FULL = {0x00800000L, 0x0010000000000000L};
    static final long LEAST = 1;
    static final long[] ONE = {0x3F800000L, 0x3FF0000000000000L};

    static final int NEAREST = 0;
    static final int TO_NOUGHT = 1;
    static final int UP = 2;
    static final int DOWN = 3;

    static final int PLAIN = 0;
    static final int POWERED = 1;
    static final int FIXED = 2;
    static final int ROUNDED = 3;
    static final int SIXTEENS = 4;
    static final int EXACT = 5;

    static final int[] NO_PLACES = {-1, 16, Integer.MIN_VALUE, Integer.MAX_VALUE};
    static final int[] NO_FORMATS = {-1, 2, Integer.MIN_VALUE, Integer.MAX_VALUE};
    static final int[] NO_WAYS = {-1, 4, Integer.MIN_VALUE, Integer.MAX_VALUE};

    static final double INF = Double.POSITIVE_INFINITY;
    static final double NAN = Double.NaN;

    private static final String DOCUMENT = document();
    private static final Set<String> sentences = new TreeSet<>();
    private static String sentence = "";
    private static int checks = 0;
    private static int wrong = 0;

    interface Call {
        void run();
    }

    /** The document on one line, without the marks of its blocks. */
    static String document() {
        try {
            return Files.readString(Path.of("../shared/DOC.md")).replaceAll("```[a-z]*", "").replaceAll("\\s+", " ");
        } catch (IOException e) {
            throw new UncheckedIOException(e);
        }
    }

    /** Names what the checks behind it are about, in words that the document has. */
    static void sentence(String words) {
        sentence = words;
        if (sentences.add(words) && !DOCUMENT.contains(words)) {
            tell("the document", "without these words", "to have them");
        }
    }

    /** The sentence that was named last. */
    static String named() {
        return sentence;
    }

    static void due(String what, long got, long want) {
        checks++;
        if (got != want) {
            tell(what, Long.toString(got), Long.toString(want));
        }
    }

    static void dueText(String what, String got, String want) {
        checks++;
        if (!got.equals(want)) {
            tell(what, got, want);
        }
    }

    static void dueIndex(String what, Call call) {
        dueThrown(what, IndexOutOfBoundsException.class, call);
    }

    static void dueArgument(String what, Call call) {
        dueThrown(what, IllegalArgumentException.class, call);
    }

    static void dueArithmetic(String what, Call call) {
        dueThrown(what, ArithmeticException.class, call);
    }

    static void dueThrown(String what, Class<?> want, Call call) {
        String got = "nothing";
        try {
            call.run();
        } catch (RuntimeException e) {
            got = e.getClass().getName();
        }
        dueText(what + " throws", got, want.getName());
    }

    static void end() {
        System.out.println(checks + " checks of " + sentences.size() + " sentences, " + wrong + " wrong");
        if (wrong != 0) {
            System.exit(1);
        }
    }

    /** The pattern of a value that the format has. */
    static long bits(int format, double v) {
        return format == DOUBLE ? Double.doubleToLongBits(v) : Float.floatToIntBits((float) v) & 0xFFFFFFFFL;
    }

    static long minus(int format, long pattern) {
        return pattern | SIGN[format];
    }

    /** An object with one value, at place 0. */
    static FigurePress with(int format, long pattern) {
        FigurePress x = new FigurePress();
        x.set(0, format, pattern);
        return x;
    }

    static FigurePress with(double v) {
        return with(DOUBLE, bits(DOUBLE, v));
    }

    static void feed(FigurePress x, String text) {
        for (int i = 0; i < text.length(); i += 8) {
            long eight = 0;
            int n = Math.min(8, text.length() - i);
            for (int j = 0; j < n; j++) {
                eight |= (long) text.charAt(i + j) << (8 * j);
            }
            x.feed(eight, n);
        }
    }

    /** What is written of place 0; by another object like this one where its 512 calls would not be enough. */
    static String written(FigurePress x, int form, int n, int way) {
        int length = x.write(0, form, n, way);
        StringBuilder text = new StringBuilder();
        FigurePress y = x;
        for (int i = 0; i < length; i++) {
            if (i % 400 == 399) {
                y = with(x.told(0, 0), x.pattern(0));
                y.write(0, form, n, way);
            }
            text.append((char) y.letter(i));
        }
        return text.toString();
    }

    static String shown(String text) {
        return text.length() > 50 ? text.substring(0, 50) + ".. (" + text.length() + ")" : text;
    }

    private static void tell(String what, String got, String want) {
        wrong++;
        System.out.println("'" + sentence + "': " + what + ": " + got + ", due is " + want);
    }
}
