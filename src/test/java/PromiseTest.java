/** Each promise of the document by examples: ordinary inputs, edges, and wrong inputs. */
public final class PromiseTest {
    private static final int FLOAT = 0;
    private static final int DOUBLE = 1;
    private static final int NEAREST = 0;
    private static final int TO_NOUGHT = 1;
    private static final int UP = 2;
    private static final int DOWN = 3;
    private static final int PLAIN = 0;
    private static final int POWERED = 1;
    private static final int FIXED = 2;
    private static final int ROUNDED = 3;
    private static final int SIXTEENS = 4;
    private static final int EXACT = 5;
    private static final int[] NO_PLACES = {-1, 16, Integer.MIN_VALUE, Integer.MAX_VALUE};
    private static final int[] NO_WAYS = {-1, 4, Integer.MIN_VALUE, Integer.MAX_VALUE};
    private static final int[] NO_FORMATS = {-1, 2, Integer.MIN_VALUE, Integer.MAX_VALUE};
    private static final long FLOAT_NONE = 0x7FC00000L;
    private static final long DOUBLE_NONE = 0x7FF8000000000000L;
    private static final long FLOAT_SIGN = 0x80000000L;
    private static final long FLOAT_ENDLESS = 0x7F800000L;
    private static final long FLOAT_MOST = 0x7F7FFFFFL;

    private static int checks = 0;
    private static int wrong = 0;
    private static String about = "";

    private interface Call {
        void run();
    }

    public static void main(String[] args) {
        promise1();
        promise2And3();
        promise4And5();
        promise6();
        promise7();
        promise8();
        promise9();
        promise10();
        promise11And12();
        promise13();
        promise14();
        promise15();
        promise16();
        promise17();
        promise18Values();
        promise18Wrong();
        promise18Edges();
        promise19Short();
        promise19Figures();
        promise19Rest();
        promise20();
        throwsChangeNothing();
        System.out.println(checks + " checks, " + wrong + " wrong");
        if (wrong != 0) {
            System.exit(1);
        }
    }

    // ---- promises

    private static void promise1() {
        about = "promise 1";
        FigurePress x = new FigurePress();
        for (int p = 0; p < 16; p++) {
            due("format", x.told(p, 0), FLOAT);
            due("pattern", x.pattern(p), 0);
            due("kind", x.told(p, 1), 0);
        }
        due("letter", x.letter(0), -1);
        due("read of no bytes", x.read(0, FLOAT, NEAREST), -1);
        due("first byte", x.feed('1', 1), 1);
    }

    private static void promise2And3() {
        about = "promises 2, 3";
        FigurePress x = new FigurePress();
        x.set(0, FLOAT, 0xABCDEF0187654321L);
        due("lowest 32 bits", x.pattern(0), 0x87654321L);
        x.set(0, FLOAT, -1);
        due("lowest 32 bits", x.pattern(0), 0xFFFFFFFFL);
        x.set(15, DOUBLE, -1);
        due("all bits", x.pattern(15), -1);
        due("format", x.told(15, 0), DOUBLE);
        x.set(15, FLOAT, 0x3F800000L);
        due("format", x.told(15, 0), FLOAT);
        due("bits", x.pattern(15), 0x3F800000L);
        for (int p : NO_PLACES) {
            dueIndex("set", () -> x.set(p, 7, 1));
            dueIndex("pattern", () -> x.pattern(p));
        }
        for (int format : NO_FORMATS) {
            dueArgument("set", () -> x.set(15, format, 1));
        }
        due("format", x.told(15, 0), FLOAT);
        due("bits", x.pattern(15), 0x3F800000L);
    }

    private static void promise4And5() {
        about = "promises 4, 5";
        dueParts(FLOAT, 0, 0, 0, -149, 0);
        dueParts(FLOAT, 0x80000000L, 0, 1, -149, 0);
        dueParts(FLOAT, 1, 1, 0, -149, 1);
        dueParts(FLOAT, 0x807FFFFFL, 1, 1, -149, 0x7FFFFF);
        dueParts(FLOAT, 0x00800000L, 2, 0, -149, 0x800000);
        dueParts(FLOAT, 0x01000000L, 2, 0, -148, 0x800000);
        dueParts(FLOAT, 0x7F7FFFFFL, 2, 0, 104, 0xFFFFFF);
        dueParts(FLOAT, 0x7F800000L, 3, 0, 0, 0);
        dueParts(FLOAT, 0xFF800000L, 3, 1, 0, 0);
        dueParts(FLOAT, 0x7F800001L, 4, 0, 0, 0);
        dueParts(FLOAT, 0xFFC00000L, 4, 1, 0, 0);
        dueParts(DOUBLE, 0, 0, 0, -1074, 0);
        dueParts(DOUBLE, Long.MIN_VALUE, 0, 1, -1074, 0);
        dueParts(DOUBLE, 0x000FFFFFFFFFFFFFL, 1, 0, -1074, 0xFFFFFFFFFFFFFL);
        dueParts(DOUBLE, 0x0010000000000000L, 2, 0, -1074, 1L << 52);
        dueParts(DOUBLE, 0xBFF0000000000000L, 2, 1, -52, 1L << 52);
        dueParts(DOUBLE, 0x7FEFFFFFFFFFFFFFL, 2, 0, 971, (1L << 53) - 1);
        dueParts(DOUBLE, 0xFFF0000000000000L, 3, 1, 0, 0);
        dueParts(DOUBLE, 0x7FF0000000000001L, 4, 0, 0, 0);
        FigurePress x = new FigurePress();
        for (int what : new int[] {-1, 4, Integer.MAX_VALUE, Integer.MIN_VALUE}) {
            dueArgument("told", () -> x.told(0, what));
            dueIndex("told", () -> x.told(16, what));
        }
        for (int p : NO_PLACES) {
            dueIndex("told", () -> x.told(p, 0));
            dueIndex("whole", () -> x.whole(p));
        }
    }

    private static void dueParts(int format, long pattern, int kind, int sign, int e, long m) {
        FigurePress x = new FigurePress();
        x.set(3, format, pattern);
        due("format", x.told(3, 0), format);
        due("kind of " + pattern, x.told(3, 1), kind);
        due("sign of " + pattern, x.told(3, 2), sign);
        due("e of " + pattern, x.told(3, 3), e);
        due("m of " + pattern, x.whole(3), m);
    }

    private static void promise6() {
        about = "promise 6";
        dueConverted(bits(0.1), FLOAT, NEAREST, bits(0.1f));
        dueConverted(bits(0.1), FLOAT, UP, bits(0.1f));
        dueConverted(bits(0.1), FLOAT, DOWN, bits(0.1f) - 1);
        dueConverted(bits(0.1), FLOAT, TO_NOUGHT, bits(0.1f) - 1);
        dueConverted(bits(-0.1), FLOAT, UP, bits(-0.1f) - 1);
        dueConverted(bits(-0.1), FLOAT, DOWN, bits(-0.1f));
        dueConverted(bits(1e300), FLOAT, NEAREST, FLOAT_ENDLESS);
        dueConverted(bits(1e300), FLOAT, TO_NOUGHT, FLOAT_MOST);
        dueConverted(bits(1e300), FLOAT, UP, FLOAT_ENDLESS);
        dueConverted(bits(1e300), FLOAT, DOWN, FLOAT_MOST);
        dueConverted(bits(-1e300), FLOAT, UP, FLOAT_MOST | FLOAT_SIGN);
        dueConverted(bits(-1e300), FLOAT, DOWN, FLOAT_ENDLESS | FLOAT_SIGN);
        dueConverted(bits(1e-300), FLOAT, NEAREST, 0);
        dueConverted(bits(1e-300), FLOAT, UP, 1);
        dueConverted(bits(-1e-300), FLOAT, UP, FLOAT_SIGN);
        dueConverted(bits(-1e-300), FLOAT, DOWN, FLOAT_SIGN | 1);
        dueConverted(bits(0x1.ffffffp127), FLOAT, NEAREST, FLOAT_ENDLESS);
        dueConverted(bits(0x1.fffffefffffffp127), FLOAT, NEAREST, FLOAT_MOST);
        dueConverted(bits(0x1p-150), FLOAT, NEAREST, 0);
        dueConverted(bits(0x3p-150), FLOAT, NEAREST, 2);
        dueConverted(bits(0x1.fffffep-127), FLOAT, NEAREST, 0x00800000L);
        dueConverted(bits(-0.0), FLOAT, UP, FLOAT_SIGN);
        dueConverted(bits(Double.NEGATIVE_INFINITY), FLOAT, UP, FLOAT_SIGN | FLOAT_ENDLESS);
        dueConverted(0xFFF0000000000001L, FLOAT, UP, FLOAT_NONE);
        dueConverted(0xFFF0000000000001L, DOUBLE, UP, DOUBLE_NONE);
        FigurePress x = new FigurePress();
        x.set(0, FLOAT, bits(-0.1f));
        x.convert(0, 0, DOUBLE, NEAREST);
        due("pattern", x.pattern(0), bits((double) -0.1f));
        due("format", x.told(0, 0), DOUBLE);
        x.set(0, FLOAT, 0xFF800001L);
        x.convert(0, 1, DOUBLE, NEAREST);
        due("none", x.pattern(1), DOUBLE_NONE);
        for (int p : NO_PLACES) {
            dueIndex("convert", () -> x.convert(p, 0, 9, 9));
            dueIndex("convert", () -> x.convert(0, p, 9, 9));
        }
        for (int format : NO_FORMATS) {
            dueArgument("convert", () -> x.convert(0, 1, format, 0));
        }
        for (int way : NO_WAYS) {
            dueArgument("convert", () -> x.convert(0, 1, FLOAT, way));
        }
        due("format", x.told(1, 0), DOUBLE);
    }

    private static void dueConverted(long pattern, int format, int way, long want) {
        FigurePress x = new FigurePress();
        x.set(4, DOUBLE, pattern);
        x.convert(4, 5, format, way);
        due("convert " + Double.longBitsToDouble(pattern) + " way " + way, x.pattern(5), want);
        due("format", x.told(5, 0), format);
        due("source", x.pattern(4), pattern);
    }

    private static void promise7() {
        about = "promise 7";
        dueFrom(FLOAT, 0, DOWN, 0);
        dueFrom(FLOAT, 1, NEAREST, bits(1f));
        dueFrom(FLOAT, 16777217, NEAREST, bits(16777216f));
        dueFrom(FLOAT, 16777219, NEAREST, bits(16777220f));
        dueFrom(FLOAT, 16777217, UP, bits(16777218f));
        dueFrom(FLOAT, -16777217, UP, bits(-16777216f));
        dueFrom(FLOAT, -16777217, DOWN, bits(-16777218f));
        dueFrom(FLOAT, -16777219, TO_NOUGHT, bits(-16777218f));
        dueFrom(FLOAT, Long.MAX_VALUE, NEAREST, bits(0x1p63f));
        dueFrom(FLOAT, Long.MAX_VALUE, DOWN, bits(0x1.fffffep62f));
        dueFrom(DOUBLE, Long.MAX_VALUE, NEAREST, bits(0x1p63));
        dueFrom(DOUBLE, Long.MAX_VALUE, TO_NOUGHT, bits(0x1.fffffffffffffp62));
        dueFrom(DOUBLE, Long.MIN_VALUE, TO_NOUGHT, bits(-0x1p63));
        dueFrom(FLOAT, Long.MIN_VALUE, UP, bits(-0x1p63f));
        dueFrom(DOUBLE, Long.MIN_VALUE + 1, UP, bits(-0x1.fffffffffffffp62));
        dueFrom(DOUBLE, 9007199254740993L, NEAREST, bits(9007199254740992.0));
        FigurePress x = new FigurePress();
        for (int p : NO_PLACES) {
            dueIndex("from", () -> x.from(p, 9, 1, 9));
        }
        for (int format : NO_FORMATS) {
            dueArgument("from", () -> x.from(0, format, 1, 0));
        }
        for (int way : NO_WAYS) {
            dueArgument("from", () -> x.from(0, FLOAT, 1, way));
        }
    }

    private static void dueFrom(int format, long v, int way, long want) {
        FigurePress x = new FigurePress();
        x.from(9, format, v, way);
        due("from " + v + " way " + way, x.pattern(9), want);
        due("format", x.told(9, 0), format);
    }

    private static void promise8() {
        about = "promise 8";
        dueTo(2.5, 2, 2, 3, 2);
        dueTo(3.5, 4, 3, 4, 3);
        dueTo(-2.5, -2, -2, -2, -3);
        dueTo(-3.5, -4, -3, -3, -4);
        dueTo(0.5, 0, 0, 1, 0);
        dueTo(0.50000000000000011, 1, 0, 1, 0);
        dueTo(-0.75, -1, 0, 0, -1);
        dueTo(0.0, 0, 0, 0, 0);
        dueTo(-0.0, 0, 0, 0, 0);
        dueTo(Double.MIN_VALUE, 0, 0, 1, 0);
        dueTo(-Double.MIN_VALUE, 0, 0, 0, -1);
        dueTo(2251799813685249.5, 2251799813685250L, 2251799813685249L, 2251799813685250L, 2251799813685249L);
        dueTo(-0x1p63, Long.MIN_VALUE, Long.MIN_VALUE, Long.MIN_VALUE, Long.MIN_VALUE);
        dueTo(0x1.fffffffffffffp62, 9223372036854774784L, 9223372036854774784L, 9223372036854774784L, 9223372036854774784L);
        double[] noLongs = {0x1p63, -0x1.0000000000001p63, 0x1p64, -0x1p64, 1e300, -1e300,
            Double.POSITIVE_INFINITY, Double.NEGATIVE_INFINITY, Double.NaN};
        for (double v : noLongs) {
            FigurePress x = new FigurePress();
            x.set(0, DOUBLE, bits(v));
            for (int way = 0; way < 4; way++) {
                int told = way;
                dueThrown("to " + v, ArithmeticException.class, () -> x.to(0, told));
            }
            dueArgument("to", () -> x.to(0, 4));
            dueIndex("to", () -> x.to(16, 4));
            due("unchanged", x.pattern(0), bits(v));
        }
        FigurePress x = new FigurePress();
        x.set(1, FLOAT, bits(-0x1p63f));
        due("float", x.to(1, 0), Long.MIN_VALUE);
        x.set(1, FLOAT, bits(7.5f));
        due("float", x.to(1, 0), 8);
        for (int p : NO_PLACES) {
            dueIndex("to", () -> x.to(p, 0));
        }
        for (int way : NO_WAYS) {
            dueArgument("to", () -> x.to(1, way));
        }
    }

    private static void dueTo(double v, long... wants) {
        FigurePress x = new FigurePress();
        x.set(2, DOUBLE, bits(v));
        for (int way = 0; way < 4; way++) {
            due("to " + v + " way " + way, x.to(2, way), wants[way]);
        }
    }

    private static void promise9() {
        about = "promise 9";
        double[] rising = {Double.NEGATIVE_INFINITY, -Double.MAX_VALUE, -1.5, -1, -Double.MIN_VALUE, 0,
            Double.MIN_VALUE, Double.MIN_NORMAL, 0.1, 0.5, 1, 1.5, 2, 3, 1e20, Double.MAX_VALUE, Double.POSITIVE_INFINITY};
        FigurePress x = new FigurePress();
        for (int i = 0; i < rising.length; i++) {
            for (int j = 0; j < rising.length; j++) {
                x.set(0, DOUBLE, bits(rising[i]));
                x.set(1, DOUBLE, bits(rising[j]));
                due(rising[i] + " and " + rising[j], x.order(0, 1), Integer.compare(i, j));
            }
        }
        x.set(0, FLOAT, bits(0.1f));
        x.set(1, DOUBLE, bits(0.1));
        due("formats", x.order(0, 1), 1);
        due("formats", x.order(1, 0), -1);
        x.set(0, FLOAT, bits(0.5f));
        x.set(1, DOUBLE, bits(0.5));
        due("same", x.order(0, 1), 0);
        x.set(0, FLOAT, FLOAT_SIGN);
        x.set(1, DOUBLE, 0);
        due("noughts", x.order(0, 1), 0);
        x.set(0, FLOAT, FLOAT_ENDLESS);
        x.set(1, DOUBLE, bits(Double.POSITIVE_INFINITY));
        due("endless", x.order(0, 1), 0);
        x.set(0, FLOAT, FLOAT_NONE);
        due("none", x.order(0, 1), 2);
        due("none", x.order(1, 0), 2);
        due("none", x.order(0, 0), 2);
        for (int p : NO_PLACES) {
            dueIndex("order", () -> x.order(p, 0));
            dueIndex("order", () -> x.order(0, p));
        }
    }

    private static void promise10() {
        about = "promise 10";
        dueStep(FLOAT, 0, true, 1);
        dueStep(FLOAT, 0, false, FLOAT_SIGN | 1);
        dueStep(FLOAT, FLOAT_SIGN, true, 1);
        dueStep(FLOAT, FLOAT_SIGN, false, FLOAT_SIGN | 1);
        dueStep(FLOAT, 1, false, 0);
        dueStep(FLOAT, FLOAT_SIGN | 1, true, FLOAT_SIGN);
        dueStep(FLOAT, 0x007FFFFFL, true, 0x00800000L);
        dueStep(FLOAT, FLOAT_MOST, true, FLOAT_ENDLESS);
        dueStep(FLOAT, FLOAT_ENDLESS, true, FLOAT_ENDLESS);
        dueStep(FLOAT, FLOAT_ENDLESS, false, FLOAT_MOST);
        dueStep(FLOAT, FLOAT_SIGN | FLOAT_ENDLESS, false, FLOAT_SIGN | FLOAT_ENDLESS);
        dueStep(FLOAT, FLOAT_SIGN | FLOAT_ENDLESS, true, FLOAT_SIGN | FLOAT_MOST);
        dueStep(FLOAT, FLOAT_SIGN | FLOAT_MOST, false, FLOAT_SIGN | FLOAT_ENDLESS);
        dueStep(FLOAT, 0xFF800001L, true, 0xFF800001L);
        dueStep(FLOAT, 0xFFFFFFFFL, false, 0xFFFFFFFFL);
        dueStep(DOUBLE, bits(1.0), true, bits(1.0) + 1);
        dueStep(DOUBLE, bits(-1.0), true, bits(-1.0) - 1);
        dueStep(DOUBLE, bits(Double.MAX_VALUE), true, bits(Double.POSITIVE_INFINITY));
        dueStep(DOUBLE, Long.MIN_VALUE, true, 1);
        dueStep(DOUBLE, Long.MIN_VALUE + 1, true, Long.MIN_VALUE);
        dueStep(DOUBLE, -1, true, -1);
        FigurePress x = new FigurePress();
        for (int p : NO_PLACES) {
            dueIndex("step", () -> x.step(p, true));
        }
    }

    private static void dueStep(int format, long pattern, boolean up, long want) {
        FigurePress x = new FigurePress();
        x.set(7, format, pattern);
        x.step(7, up);
        due("step of " + pattern + (up ? " up" : " down"), x.pattern(7), want);
        due("format", x.told(7, 0), format);
    }

    private static final double INF = Double.POSITIVE_INFINITY;

    private static void promise11And12() {
        about = "promises 11, 12";
        dueAct("add", 0.1, 0.2, NEAREST, 0.30000000000000004);
        dueAct("add", 0.1, 0.2, DOWN, 0.3);
        dueAct("add", 1, 0x1p-60, UP, Math.nextUp(1.0));
        dueAct("add", 1, Double.MIN_VALUE, UP, Math.nextUp(1.0));
        dueAct("add", Double.MAX_VALUE, -Double.MIN_VALUE, DOWN, Math.nextDown(Double.MAX_VALUE));
        dueAct("add", Double.MAX_VALUE, Double.MAX_VALUE, TO_NOUGHT, Double.MAX_VALUE);
        dueAct("add", Double.MAX_VALUE, 0x1p970, NEAREST, INF);
        dueAct("add", Double.MAX_VALUE, 0x1.fffffffffffffp969, NEAREST, Double.MAX_VALUE);
        dueAct("add", -Double.MAX_VALUE, -1, UP, -Double.MAX_VALUE);
        dueAct("add", -Double.MAX_VALUE, -1, DOWN, -INF);
        dueAct("add", 5, -5, NEAREST, 0.0);
        dueAct("add", 5, -5, UP, 0.0);
        dueAct("add", 5, -5, TO_NOUGHT, 0.0);
        dueAct("add", 5, -5, DOWN, -0.0);
        dueAct("add", 0.0, -0.0, NEAREST, 0.0);
        dueAct("add", 0.0, -0.0, DOWN, -0.0);
        dueAct("add", -0.0, -0.0, UP, -0.0);
        dueAct("add", 0.0, 0.0, DOWN, 0.0);
        dueAct("add", INF, -INF, NEAREST, Double.NaN);
        dueAct("add", INF, INF, NEAREST, INF);
        dueAct("add", -1e300, INF, DOWN, INF);
        dueAct("add", -INF, 3, UP, -INF);
        dueAct("add", Double.NaN, 1, UP, Double.NaN);
        dueAct("add", 1, Double.NaN, UP, Double.NaN);
        dueAct("less", 0.3, 0.1, NEAREST, 0.19999999999999998);
        dueAct("less", 5, 5, DOWN, -0.0);
        dueAct("less", 5, 5, NEAREST, 0.0);
        dueAct("less", 0.0, 0.0, DOWN, -0.0);
        dueAct("less", 0.0, -0.0, DOWN, 0.0);
        dueAct("less", -0.0, 0.0, NEAREST, -0.0);
        dueAct("less", INF, INF, NEAREST, Double.NaN);
        dueAct("less", INF, -INF, NEAREST, INF);
        dueAct("less", 1, INF, NEAREST, -INF);
        dueAct("less", Double.NaN, 1, UP, Double.NaN);
        dueActToFloat("add", 1.0, 0x1p-24, NEAREST, 1f);
        dueActToFloat("add", 1.0, 0x1.0000001p-24, NEAREST, Math.nextUp(1f));
        dueActToFloat("less", 1e300, 1, DOWN, Float.MAX_VALUE);
        wrongActs("add");
        wrongActs("less");
    }

    private static void promise13() {
        about = "promise 13";
        dueAct("times", 0.1, 10, NEAREST, 1);
        dueAct("times", 0.1, 10, UP, Math.nextUp(1.0));
        dueAct("times", -0.1, 10, UP, -1);
        dueAct("times", -0.1, 10, DOWN, -Math.nextUp(1.0));
        dueAct("times", Double.MIN_VALUE, 0.5, NEAREST, 0);
        dueAct("times", Double.MIN_VALUE, -0.5, NEAREST, -0.0);
        dueAct("times", Double.MIN_VALUE, Double.MIN_VALUE, UP, Double.MIN_VALUE);
        dueAct("times", Double.MIN_VALUE, -Double.MIN_VALUE, DOWN, -Double.MIN_VALUE);
        dueAct("times", Double.MIN_VALUE, -Double.MIN_VALUE, UP, -0.0);
        dueAct("times", Double.MIN_VALUE, 1.5, NEAREST, 2 * Double.MIN_VALUE);
        dueAct("times", Double.MAX_VALUE, -Double.MAX_VALUE, DOWN, -INF);
        dueAct("times", Double.MAX_VALUE, -Double.MAX_VALUE, UP, -Double.MAX_VALUE);
        dueAct("times", -0.0, 3, DOWN, -0.0);
        dueAct("times", -0.0, -3, DOWN, 0.0);
        dueAct("times", 0.0, INF, UP, Double.NaN);
        dueAct("times", -INF, 0.0, UP, Double.NaN);
        dueAct("times", -INF, 2, UP, -INF);
        dueAct("times", -INF, -INF, UP, INF);
        dueAct("times", Double.NaN, 0, UP, Double.NaN);
        dueActToFloat("times", 1e30, 1e30, TO_NOUGHT, Float.MAX_VALUE);
        dueActToFloat("times", 0x1p-149, 0.5, UP, Float.MIN_VALUE);
        wrongActs("times");
    }

    private static void promise14() {
        about = "promise 14";
        dueAct("over", 1, 3, NEAREST, 1.0 / 3);
        dueAct("over", 1, 3, UP, Math.nextUp(1.0 / 3));
        dueAct("over", -1, 3, UP, -1.0 / 3);
        dueAct("over", -1, 3, DOWN, -Math.nextUp(1.0 / 3));
        dueAct("over", 6, 3, UP, 2);
        dueAct("over", Double.MIN_VALUE, 2, NEAREST, 0);
        dueAct("over", Double.MIN_VALUE, 2, UP, Double.MIN_VALUE);
        dueAct("over", Double.MIN_VALUE, Double.MAX_VALUE, UP, Double.MIN_VALUE);
        dueAct("over", Double.MAX_VALUE, Double.MIN_VALUE, DOWN, Double.MAX_VALUE);
        dueAct("over", Double.MAX_VALUE, Double.MIN_VALUE, NEAREST, INF);
        dueAct("over", 1, 0.0, DOWN, INF);
        dueAct("over", 1, -0.0, TO_NOUGHT, -INF);
        dueAct("over", 0.0, -1, NEAREST, -0.0);
        dueAct("over", 0.0, 0.0, NEAREST, Double.NaN);
        dueAct("over", 0.0, -0.0, NEAREST, Double.NaN);
        dueAct("over", INF, -INF, NEAREST, Double.NaN);
        dueAct("over", -INF, 0.0, NEAREST, -INF);
        dueAct("over", -INF, -7, NEAREST, INF);
        dueAct("over", -7, INF, UP, -0.0);
        dueAct("over", 0.0, INF, UP, 0.0);
        dueAct("over", 1, Double.NaN, NEAREST, Double.NaN);
        dueActToFloat("over", 1, 3, NEAREST, 1f / 3);
        wrongActs("over");
    }

    private static void promise15() {
        about = "promise 15";
        dueFused(Math.nextUp(1.0), Math.nextUp(1.0), -1, NEAREST, Math.fma(Math.nextUp(1.0), Math.nextUp(1.0), -1));
        dueFused(0x1.0000000000001p0, 0x1.0000000000001p0, -0x1.0000000000002p0, UP, 0x1p-104);
        dueFused(1e300, 1e300, -INF, NEAREST, -INF);
        dueFused(1e300, 1e300, -Double.MAX_VALUE, DOWN, Double.MAX_VALUE);
        dueFused(Double.MIN_VALUE, Double.MIN_VALUE, Double.MAX_VALUE, UP, INF);
        dueFused(Double.MIN_VALUE, Double.MIN_VALUE, Double.MAX_VALUE, DOWN, Double.MAX_VALUE);
        dueFused(Double.MIN_VALUE, -Double.MIN_VALUE, Double.MAX_VALUE, DOWN, Math.nextDown(Double.MAX_VALUE));
        dueFused(Double.MIN_VALUE, -Double.MIN_VALUE, 0, NEAREST, -0.0);
        dueFused(Double.MAX_VALUE, Double.MAX_VALUE, Double.MIN_VALUE, TO_NOUGHT, Double.MAX_VALUE);
        dueFused(2, 3, -6, DOWN, -0.0);
        dueFused(2, 3, -6, NEAREST, 0.0);
        dueFused(-0.0, 3, -0.0, UP, -0.0);
        dueFused(-0.0, 3, 0.0, UP, 0.0);
        dueFused(-0.0, 3, 0.0, DOWN, -0.0);
        dueFused(0.0, 3, 0.0, DOWN, 0.0);
        dueFused(0.0, 3, 4, DOWN, 4);
        dueFused(0.0, INF, 1, NEAREST, Double.NaN);
        dueFused(0.0, INF, Double.NaN, NEAREST, Double.NaN);
        dueFused(1, 1, Double.NaN, NEAREST, Double.NaN);
        dueFused(INF, -2, INF, NEAREST, Double.NaN);
        dueFused(INF, -2, 1, NEAREST, -INF);
        dueFused(INF, -2, -INF, NEAREST, -INF);
        dueFused(1, 2, INF, NEAREST, INF);
        FigurePress x = new FigurePress();
        x.set(0, DOUBLE, bits(3.0));
        x.fused(0, 0, 0, NEAREST);
        due("all the same place", x.pattern(0), bits(12.0));
        wrongActs("fused");
    }

    private static void dueFused(double p, double q, double r, int way, double want) {
        FigurePress x = new FigurePress();
        x.set(0, DOUBLE, bits(p));
        x.set(1, DOUBLE, bits(q));
        x.set(2, DOUBLE, bits(r));
        x.fused(0, 1, 2, way);
        due("fused " + p + " " + q + " " + r + " way " + way, x.pattern(2), bits(want));
    }

    private static void promise16() {
        about = "promise 16";
        dueRoot(2, NEAREST, Math.sqrt(2));
        dueRoot(2, UP, 0x1.6a09e667f3bcdp0);
        dueRoot(2, DOWN, 0x1.6a09e667f3bccp0);
        dueRoot(2, TO_NOUGHT, 0x1.6a09e667f3bccp0);
        dueRoot(4, DOWN, 2);
        dueRoot(0.25, UP, 0.5);
        dueRoot(Double.MIN_VALUE, NEAREST, 0x1p-537);
        dueRoot(Double.MAX_VALUE, UP, 0x1p512);
        dueRoot(Double.MAX_VALUE, DOWN, Math.nextDown(0x1p512));
        dueRoot(0.0, UP, 0.0);
        dueRoot(-0.0, UP, -0.0);
        dueRoot(-1, UP, Double.NaN);
        dueRoot(-Double.MIN_VALUE, UP, Double.NaN);
        dueRoot(INF, UP, INF);
        dueRoot(-INF, UP, Double.NaN);
        dueRoot(Double.NaN, UP, Double.NaN);
        FigurePress x = new FigurePress();
        x.set(0, DOUBLE, bits(2.0));
        x.root(0, 1, NEAREST);
        due("to float", x.pattern(1), bits((float) Math.sqrt(2)));
        x.set(0, DOUBLE, Long.MIN_VALUE);
        x.root(0, 1, NEAREST);
        due("to float", x.pattern(1), FLOAT_SIGN);
        x.root(1, 1, NEAREST);
        due("format stays", x.told(1, 0), FLOAT);
        for (int p : NO_PLACES) {
            dueIndex("root", () -> x.root(p, 0, 9));
            dueIndex("root", () -> x.root(0, p, 9));
        }
        for (int way : NO_WAYS) {
            dueArgument("root", () -> x.root(0, 1, way));
        }
    }

    private static void dueRoot(double p, int way, double want) {
        FigurePress x = new FigurePress();
        x.set(0, DOUBLE, bits(p));
        x.set(1, DOUBLE, 77);
        x.root(0, 1, way);
        due("root of " + p + " way " + way, x.pattern(1), bits(want));
    }

    private static void promise17() {
        about = "promise 17";
        FigurePress x = new FigurePress();
        due("one", x.feed(0x1234567890ABCD31L, 1), 1);
        due("two", x.feed(0x2E32, 1), 2);
        due("lowest first", x.feed(0x35342EL, 3), 5);
        due("read", x.read(0, DOUBLE, NEAREST), 0);
        due("read", x.pattern(0), bits(12.45));
        for (int i = 1; i <= 149; i++) {
            due("eight", x.feed(0x3030303030303030L, 8), 8 * i);
        }
        due("seven", x.feed(0x30303030303030L, 7), 1199);
        dueArgument("two too many", () -> x.feed(0, 2));
        dueArgument("eight too many", () -> x.feed(0, 8));
        due("last", x.feed('7', 1), 1200);
        dueArgument("full", () -> x.feed(0, 1));
        for (int n : new int[] {0, 9, -1, Integer.MIN_VALUE, Integer.MAX_VALUE}) {
            dueArgument("feed", () -> x.feed('1', n));
        }
        due("read", x.read(0, DOUBLE, NEAREST), 0);
        due("read", x.pattern(0), bits(7.0));
        due("empty again", x.feed(0x80FFL, 2), 2);
        due("bytes above 127", x.read(0, DOUBLE, NEAREST), -1);
    }

    private static void promise18Values() {
        about = "promise 18";
        String[] tens = {"1", "+1", "-1", "0", "-0", "+0", "00", "007", "1.", ".5", "-.5", "1.5", "12.5e3", "1e0", "1e+5",
            "1e-5", "1e000005", "0.1", "-0.1", "123456789012345678901234567890", "1e308", "1e309", "-1e309", "1e-324",
            "3e-324", "2.4703282292062327e-324", "2.4703282292062328e-324", "-1e-400", "1e999999", "1e-999999",
            "0e999999", "-0.000e-999999", "9007199254740993", "9007199254740992.9999", "9007199254740993.0001",
            "1.7976931348623158e308", "1.7976931348623159e308", "17976931348623158079372897140530341507993413271003782693617377898044"
            + "4968292764750946649017977587207096330286416692887910946555547851940402630657488671505820681908902000708383676273854"
            + "8458177115317644757302700698555713669596228429148198608349364752927190741684443655107043427115596995080930428801779"
            + "04174497791", "8.5e-1", "4.35", "2.2250738585072011e-308", "2.2250738585072014e-308", "6.631236846766476e-316",
            "0.000001", "100000000000000000000000", "5e-324", "1e23", "8.41e21", "9.5367431640625e-7"};
        for (String text : tens) {
            dueRead(text, DOUBLE, NEAREST, bits(Double.parseDouble(text)));
            dueRead(text, FLOAT, NEAREST, bits(Float.parseFloat(text)));
        }
        String[] sixteens = {"0x0", "-0x0", "0x1", "0x.8", "0x8.", "0xf.f", "-0xabcdef", "0x1p4", "0x1p+4", "0x1p-4", "0x1e5",
            "0x1p-1074", "0x1p-1075", "0x1.8p-1075", "0x1.00000000000008p0", "0x1.000000000000080000001p0", "0x1.fffffffffffff8p1023",
            "0x1.fffffffffffff7p1023", "0x1p999999", "0x1p-999999", "0x0p999999", "0x00000001", "0x1.000001p0", "0x1.000003p0"};
        for (String text : sixteens) {
            String parsed = text.indexOf('p') < 0 ? text + "p0" : text;
            dueRead(text, DOUBLE, NEAREST, bits(Double.parseDouble(parsed)));
            dueRead(text, FLOAT, NEAREST, bits(Float.parseFloat(parsed)));
        }
        dueRead("0.1", DOUBLE, UP, bits(0.1));
        dueRead("0.1", DOUBLE, DOWN, bits(0.1) - 1);
        dueRead("-0.1", DOUBLE, UP, bits(-0.1) - 1);
        dueRead("-0.1", DOUBLE, TO_NOUGHT, bits(-0.1) - 1);
        dueRead("1e-999999", FLOAT, UP, 1);
        dueRead("-1e-999999", FLOAT, UP, FLOAT_SIGN);
        dueRead("-1e-999999", FLOAT, DOWN, FLOAT_SIGN | 1);
        dueRead("1e999999", FLOAT, DOWN, FLOAT_MOST);
        dueRead("-0x1p999999", FLOAT, UP, FLOAT_SIGN | FLOAT_MOST);
        dueRead("0.5", DOUBLE, UP, bits(0.5));
        dueRead("-0", FLOAT, UP, FLOAT_SIGN);
        dueRead("-0e5", DOUBLE, DOWN, Long.MIN_VALUE);
        dueRead("0", DOUBLE, DOWN, 0);
        dueRead("inf", FLOAT, DOWN, FLOAT_ENDLESS);
        dueRead("+inf", DOUBLE, NEAREST, bits(INF));
        dueRead("-inf", DOUBLE, UP, bits(-INF));
        dueRead("nan", FLOAT, NEAREST, FLOAT_NONE);
        dueRead("-nan", DOUBLE, NEAREST, DOUBLE_NONE);
        dueRead("+nan", FLOAT, NEAREST, FLOAT_NONE);
    }

    private static void promise18Wrong() {
        about = "promise 18, wrong";
        dueWrong("", 0);
        dueWrong("+", 1);
        dueWrong("-", 1);
        dueWrong("+-1", 1);
        dueWrong(" 1", 0);
        dueWrong("1 ", 1);
        dueWrong(".", 1);
        dueWrong("..", 1);
        dueWrong("-.", 2);
        dueWrong(".e5", 1);
        dueWrong("e5", 0);
        dueWrong("1..", 2);
        dueWrong("1.2.3", 3);
        dueWrong("1e", 2);
        dueWrong("1e+", 3);
        dueWrong("1e+-1", 3);
        dueWrong("1ee", 2);
        dueWrong("1E5", 1);
        dueWrong("1e5.", 3);
        dueWrong("1e5e", 3);
        dueWrong("1e1234567", 8);
        dueWrong("1e-0000001", 9);
        dueWrong("1p5", 1);
        dueWrong("1f", 1);
        dueWrong("x", 0);
        dueWrong("1x1", 1);
        dueWrong("00x1", 2);
        dueWrong("0x", 2);
        dueWrong("-0x", 3);
        dueWrong("0X1", 1);
        dueWrong("0x.", 3);
        dueWrong("0x.p1", 3);
        dueWrong("0xp1", 2);
        dueWrong("0xg", 2);
        dueWrong("0xA", 2);
        dueWrong("0x1..", 4);
        dueWrong("0x1p", 4);
        dueWrong("0x1p-", 5);
        dueWrong("0x1pa", 4);
        dueWrong("0x1p1a", 5);
        dueWrong("0x1P1", 3);
        dueWrong("0x1p1234567", 10);
        dueWrong("0x+1", 2);
        dueWrong("i", 1);
        dueWrong("in", 2);
        dueWrong("ix", 1);
        dueWrong("inf ", 3);
        dueWrong("infinity", 3);
        dueWrong("Inf", 0);
        dueWrong("-inF", 3);
        dueWrong("n", 1);
        dueWrong("nap", 2);
        dueWrong("nann", 3);
        dueWrong("+nan0", 4);
        dueWrong("1,5", 1);
        dueWrong("1\0", 1);
    }

    private static void promise18Edges() {
        about = "promise 18, edges";
        String half = new java.math.BigDecimal(0.1).add(new java.math.BigDecimal(Math.ulp(0.1) / 2)).toPlainString();
        dueRead(half, DOUBLE, NEAREST, bits(0.1));
        dueRead(half + "0".repeat(1000), DOUBLE, NEAREST, bits(0.1));
        dueRead(half + "0".repeat(1000) + "1", DOUBLE, NEAREST, bits(0.1) + 1);
        java.math.BigDecimal least = new java.math.BigDecimal(Double.MIN_VALUE).divide(java.math.BigDecimal.valueOf(2));
        dueRead(least.toPlainString(), DOUBLE, NEAREST, 0);
        dueRead(least.toPlainString() + "0".repeat(100) + "1", DOUBLE, NEAREST, 1);
        dueRead("0." + "0".repeat(1190) + "1e1100", DOUBLE, NEAREST, bits(1e-91));
        dueRead("0." + "0".repeat(1100) + "1e1101", DOUBLE, UP, bits(1.0));
        dueRead("1" + "0".repeat(1190) + "e-1190", DOUBLE, UP, bits(1.0));
        dueRead("1" + "0".repeat(1189) + "1e-1190", DOUBLE, UP, bits(1.0) + 1);
        dueRead("0x1" + "0".repeat(1190) + "p-4760", DOUBLE, UP, bits(1.0));
        dueRead("0x1" + "0".repeat(1189) + "1p-4760", DOUBLE, UP, bits(1.0) + 1);
        dueRead("0x1" + "0".repeat(1189) + "1p-4760", DOUBLE, NEAREST, bits(1.0));
        dueRead("0x." + "0".repeat(1180) + "1p4724", FLOAT, NEAREST, bits(1f));
        dueRead("9".repeat(1200), DOUBLE, NEAREST, bits(INF));
        dueRead("." + "9".repeat(1199), DOUBLE, DOWN, bits(Math.nextDown(1.0)));
        dueRead("0x" + "f".repeat(1198), DOUBLE, DOWN, bits(Double.MAX_VALUE));
        dueRead("0x." + "f".repeat(1197), FLOAT, NEAREST, bits(1f));
        FigurePress x = new FigurePress();
        feed(x, "2.5");
        for (int p : NO_PLACES) {
            dueIndex("read", () -> x.read(p, 9, 9));
        }
        for (int format : NO_FORMATS) {
            dueArgument("read", () -> x.read(0, format, 0));
        }
        for (int way : NO_WAYS) {
            dueArgument("read", () -> x.read(0, DOUBLE, way));
        }
        due("tape is as it was", x.read(0, DOUBLE, NEAREST), 0);
        due("tape is as it was", x.pattern(0), bits(2.5));
    }

    private static void dueRead(String text, int format, int way, long want) {
        FigurePress x = new FigurePress();
        String shown = text.length() > 60 ? text.substring(0, 60) + ".." : text;
        x.set(11, 1 - format, 99);
        feed(x, text);
        due("read " + shown, x.read(11, format, way), 0);
        due("read " + shown + " format " + format + " way " + way, x.pattern(11), want);
        due("format", x.told(11, 0), format);
        due("tape is empty", x.feed('0', 1), 1);
    }

    private static void dueWrong(String text, int place) {
        FigurePress x = new FigurePress();
        x.set(11, FLOAT, 99);
        feed(x, text);
        due("wrong " + text, x.read(11, DOUBLE, NEAREST), -1 - place);
        due("unchanged by " + text, x.pattern(11), 99);
        due("unchanged by " + text, x.told(11, 0), FLOAT);
        due("tape is empty after " + text, x.feed('0', 1), 1);
    }

    private static void promise19Short() {
        about = "promise 19, short";
        dueWritten(0.1, PLAIN, 0, 0, "0.1");
        dueWritten(0.1, POWERED, 0, 0, "1e-1");
        dueWritten(1, PLAIN, 0, 0, "1");
        dueWritten(1, POWERED, 0, 0, "1e0");
        dueWritten(100, PLAIN, 0, 0, "100");
        dueWritten(-1234.5, PLAIN, 0, 0, "-1234.5");
        dueWritten(-1234.5, POWERED, 0, 0, "-1.2345e3");
        dueWritten(0.001234, PLAIN, 0, 0, "0.001234");
        dueWritten(1e21, PLAIN, 0, 0, "1000000000000000000000");
        dueWritten(1e23, POWERED, 0, 0, "1e23");
        dueWritten(2e23, POWERED, 0, 0, "2e23");
        dueWritten(9007199254740993.0, PLAIN, 0, 0, "9007199254740992");
        dueWritten(0.30000000000000004, PLAIN, 0, 0, "0.30000000000000004");
        dueWritten(Double.MAX_VALUE, POWERED, 0, 0, "1.7976931348623157e308");
        dueWritten(Double.MIN_VALUE, POWERED, 0, 0, "5e-324");
        dueWritten(2 * Double.MIN_VALUE, POWERED, 0, 0, "1e-323");
        dueWritten(3 * Double.MIN_VALUE, POWERED, 0, 0, "1.5e-323");
        dueWritten(Double.MIN_NORMAL, POWERED, 0, 0, "2.2250738585072014e-308");
        dueWritten(0x1p-1022 - 0x1p-1074, POWERED, 0, 0, "2.225073858507201e-308");
        dueWritten(0x1p-44, POWERED, 0, 0, "5.684341886080802e-14");
        dueWritten(9.5367431640625e-7, POWERED, 0, 0, "9.5367431640625e-7");
        dueWritten(5e-324, PLAIN, 0, 0, "0." + "0".repeat(323) + "5");
        dueWritten(1e22, POWERED, 0, 0, "1e22");
        dueWrittenFloat(0.1f, PLAIN, 0, 0, "0.1");
        dueWrittenFloat(Float.MIN_VALUE, POWERED, 0, 0, "1e-45");
        dueWrittenFloat(Float.MAX_VALUE, POWERED, 0, 0, "3.4028235e38");
        dueWrittenFloat(Float.MIN_NORMAL, POWERED, 0, 0, "1.1754944e-38");
        dueWrittenFloat(16777216f, PLAIN, 0, 0, "16777216");
        dueWrittenFloat(33554432f, POWERED, 0, 0, "3.3554432e7");
        dueWrittenFloat(9e-45f, POWERED, 0, 0, "8e-45");
        dueWrittenFloat(2e-44f, POWERED, 0, 0, "2e-44");
        dueWrittenFloat(1.17549435E-38f, PLAIN, 0, 0, "0." + "0".repeat(37) + "11754944");
    }

    private static void promise19Figures() {
        about = "promise 19, fixed and rounded";
        dueWritten(9.99, ROUNDED, 2, NEAREST, "1.0e1");
        dueWritten(9.99, ROUNDED, 1, NEAREST, "1e1");
        dueWritten(9.99, ROUNDED, 2, DOWN, "9.9e0");
        dueWritten(-9.99, ROUNDED, 2, DOWN, "-1.0e1");
        dueWritten(-9.99, ROUNDED, 2, UP, "-9.9e0");
        dueWritten(-9.99, ROUNDED, 2, TO_NOUGHT, "-9.9e0");
        dueWritten(1, ROUNDED, 5, UP, "1.0000e0");
        dueWritten(2.5, ROUNDED, 1, NEAREST, "2e0");
        dueWritten(3.5, ROUNDED, 1, NEAREST, "4e0");
        dueWritten(0.125, ROUNDED, 2, NEAREST, "1.2e-1");
        dueWritten(0.375, ROUNDED, 2, NEAREST, "3.8e-1");
        dueWritten(0.1, ROUNDED, 60, NEAREST, "1.00000000000000005551115123125782702118158340454101562500000e-1");
        dueWritten(Double.MIN_VALUE, ROUNDED, 3, NEAREST, "4.94e-324");
        dueWritten(0, ROUNDED, 1, UP, "0e0");
        dueWritten(0, ROUNDED, 4, UP, "0.000e0");
        dueWritten(-0.0, ROUNDED, 2, UP, "-0.0e0");
        dueWritten(2.5, FIXED, 0, NEAREST, "2");
        dueWritten(3.5, FIXED, 0, NEAREST, "4");
        dueWritten(0.5, FIXED, 0, NEAREST, "0");
        dueWritten(0.5, FIXED, 0, UP, "1");
        dueWritten(-0.5, FIXED, 0, NEAREST, "-0");
        dueWritten(-0.5, FIXED, 0, UP, "-0");
        dueWritten(-0.5, FIXED, 0, DOWN, "-1");
        dueWritten(1.5, FIXED, 0, TO_NOUGHT, "1");
        dueWritten(9.99, FIXED, 1, NEAREST, "10.0");
        dueWritten(99.5, FIXED, 0, NEAREST, "100");
        dueWritten(0.99, FIXED, 1, NEAREST, "1.0");
        dueWritten(0.1, FIXED, 3, NEAREST, "0.100");
        dueWritten(0.1, FIXED, 3, UP, "0.101");
        dueWritten(0.001, FIXED, 2, NEAREST, "0.00");
        dueWritten(0.001, FIXED, 2, UP, "0.01");
        dueWritten(-0.001, FIXED, 2, NEAREST, "-0.00");
        dueWritten(-0.001, FIXED, 2, DOWN, "-0.01");
        dueWritten(0.06, FIXED, 1, NEAREST, "0.1");
        dueWritten(1e-300, FIXED, 5, UP, "0.00001");
        dueWritten(1e-300, FIXED, 0, UP, "1");
        dueWritten(1e-300, FIXED, 60, NEAREST, "0." + "0".repeat(60));
        dueWritten(1e22, FIXED, 2, NEAREST, "10000000000000000000000.00");
        dueWritten(120, FIXED, 0, NEAREST, "120");
        dueWritten(0, FIXED, 0, NEAREST, "0");
        dueWritten(-0.0, FIXED, 3, NEAREST, "-0.000");
        dueWritten(0.15625, FIXED, 4, NEAREST, "0.1562");
        dueWritten(0.00390625, FIXED, 7, NEAREST, "0.0039062");
        dueWritten(0.00390625, FIXED, 7, UP, "0.0039063");
        dueWritten(INF, FIXED, 3, UP, "inf");
        dueWritten(-INF, ROUNDED, 3, UP, "-inf");
        dueWritten(Double.NaN, ROUNDED, 3, UP, "nan");
    }

    private static void promise19Rest() {
        about = "promise 19";
        dueWritten(0.1, EXACT, 0, 0, "0.1000000000000000055511151231257827021181583404541015625");
        dueWritten(-1e23, EXACT, 0, 0, "-99999999999999991611392");
        dueWritten(1000, EXACT, 0, 0, "1000");
        dueWritten(1024.5, EXACT, 0, 0, "1024.5");
        dueWritten(-Double.MIN_VALUE, EXACT, 0, 0, new java.math.BigDecimal(-Double.MIN_VALUE).toPlainString());
        dueWritten(Double.MAX_VALUE, EXACT, 0, 0, new java.math.BigDecimal(Double.MAX_VALUE).toPlainString());
        dueWritten(Math.nextDown(Double.MIN_NORMAL), EXACT, 0, 0,
            new java.math.BigDecimal(Math.nextDown(Double.MIN_NORMAL)).toPlainString());
        dueWrittenFloat(0.1f, EXACT, 0, 0, "0.100000001490116119384765625");
        dueWritten(1, SIXTEENS, 0, 0, "0x1p0");
        dueWritten(-10, SIXTEENS, 0, 0, "-0x1.4p3");
        dueWritten(0.1, SIXTEENS, 0, 0, "0x1.999999999999ap-4");
        dueWritten(Double.MAX_VALUE, SIXTEENS, 0, 0, "0x1.fffffffffffffp1023");
        dueWritten(Double.MIN_VALUE, SIXTEENS, 0, 0, "0x1p-1074");
        dueWritten(3 * Double.MIN_VALUE, SIXTEENS, 0, 0, "0x1.8p-1073");
        dueWrittenFloat(0.1f, SIXTEENS, 0, 0, "0x1.99999ap-4");
        dueWrittenFloat(Float.MIN_VALUE, SIXTEENS, 0, 0, "0x1p-149");
        String[] noughts = {"0", "0e0", "0.00", "0.0e0", "0x0p0", "0"};
        FigurePress x = new FigurePress();
        for (int form = 0; form < 6; form++) {
            dueWritten(0, form, 2, 0, noughts[form]);
            dueWritten(-0.0, form, 2, 0, "-" + noughts[form]);
            dueWritten(INF, form, 2, 0, "inf");
            dueWritten(-INF, form, 2, 0, "-inf");
            dueWritten(Double.NaN, form, 2, 0, "nan");
            dueWritten(Double.longBitsToDouble(-1), form, 2, 0, "nan");
            int told = form;
            for (int p : NO_PLACES) {
                dueIndex("write", () -> x.write(p, 9, 99, 9));
                dueIndex("write", () -> x.write(p, told, 2, 0));
            }
            for (int way : NO_WAYS) {
                dueArgument("write", () -> x.write(0, told, 2, way));
            }
        }
        for (int form : new int[] {-1, 6, Integer.MIN_VALUE, Integer.MAX_VALUE}) {
            dueArgument("write", () -> x.write(0, form, 2, 0));
        }
        for (int n : new int[] {-1, 61, Integer.MIN_VALUE, Integer.MAX_VALUE}) {
            dueArgument("write", () -> x.write(0, FIXED, n, 0));
            dueArgument("write", () -> x.write(0, ROUNDED, n, 0));
            for (int form : new int[] {PLAIN, POWERED, SIXTEENS, EXACT}) {
                due("n isn't looked at", x.write(0, form, n, 3), noughts[form].length());
            }
        }
        dueArgument("write", () -> x.write(0, ROUNDED, 0, 0));
        due("fixed 0", x.write(0, FIXED, 0, 0), 1);
        due("fixed 60", x.write(0, FIXED, 60, 0), 62);
        due("rounded 60", x.write(0, ROUNDED, 60, 0), 63);
        x.set(0, FLOAT, 0x7F800001L);
        dueArgument("write of none", () -> x.write(0, ROUNDED, 0, 0));
    }

    private static void promise20() {
        about = "promise 20";
        FigurePress x = new FigurePress();
        due("nothing written", x.letter(0), -1);
        x.set(0, DOUBLE, bits(-12.5));
        due("length", x.write(0, PLAIN, 0, 0), 5);
        due("letter", x.letter(0), '-');
        due("letter", x.letter(1), '1');
        due("letter", x.letter(2), '2');
        due("letter", x.letter(3), '.');
        due("letter", x.letter(4), '5');
        for (int i : new int[] {5, -1, 1200, Integer.MIN_VALUE, Integer.MAX_VALUE}) {
            due("letter", x.letter(i), -1);
        }
        due("length", x.write(1, PLAIN, 0, 0), 1);
        due("letter", x.letter(0), '0');
        due("older letter", x.letter(1), -1);
        x.set(1, DOUBLE, 5);
        due("only a write changes it", x.letter(0), '0');
    }

    private static void throwsChangeNothing() {
        about = "a call that throws changes nothing";
        FigurePress x = new FigurePress();
        for (int p = 0; p < 16; p++) {
            x.set(p, p & 1, 0x4045000000000000L + 0x3F912345L + p);
        }
        x.write(3, SIXTEENS, 0, 0);
        feed(x, "7e2");
        long before = state(x);
        Call[] calls = {
            () -> x.set(16, 0, 5), () -> x.set(1, 2, 5), () -> x.told(1, 9),
            () -> x.convert(1, 16, 0, 0), () -> x.convert(1, 2, 0, 4), () -> x.convert(1, 2, 2, 0),
            () -> x.from(16, 0, 5, 0), () -> x.from(1, 2, 5, 0), () -> x.from(1, 1, 5, 4),
            () -> x.to(1, 4), () -> x.order(1, 16), () -> x.step(16, true),
            () -> x.add(1, 2, 16, 0), () -> x.add(1, 2, 3, 4), () -> x.less(1, 2, 16, 0), () -> x.less(1, 2, 3, 4),
            () -> x.times(1, 2, 16, 0), () -> x.times(1, 2, 3, 4), () -> x.over(1, 2, 16, 0), () -> x.over(1, 2, 3, 4),
            () -> x.fused(1, 2, 16, 0), () -> x.fused(1, 2, 3, 4), () -> x.root(1, 16, 0), () -> x.root(1, 3, 4),
            () -> x.feed('5', 0), () -> x.feed('5', 9), () -> x.read(16, 0, 0), () -> x.read(1, 2, 0), () -> x.read(1, 1, 4),
            () -> x.write(16, 0, 0, 0), () -> x.write(1, 6, 0, 0), () -> x.write(1, 2, 61, 0), () -> x.write(1, 3, 0, 0),
            () -> x.write(1, 0, 0, 4),
        };
        for (int i = 0; i < calls.length; i++) {
            boolean thrown = false;
            try {
                calls[i].run();
            } catch (IndexOutOfBoundsException | IllegalArgumentException e) {
                thrown = true;
            }
            due("call " + i + " throws", thrown ? 1 : 0, 1);
            due("call " + i + " leaves all as it was", state(x), before);
        }
        due("tape", x.read(0, DOUBLE, 0), 0);
        due("tape", x.pattern(0), bits(700.0));
    }

    private static long state(FigurePress x) {
        long hash = 17;
        for (int p = 0; p < 16; p++) {
            hash = 31 * (31 * hash + x.pattern(p)) + x.told(p, 0);
        }
        for (int i = 0; i < 40; i++) {
            hash = 31 * hash + x.letter(i);
        }
        return hash;
    }

    // ---- helpers

    private static void act(FigurePress x, String name, int p, int q, int r, int way) {
        switch (name) {
            case "add":
                x.add(p, q, r, way);
                break;
            case "less":
                x.less(p, q, r, way);
                break;
            case "times":
                x.times(p, q, r, way);
                break;
            case "over":
                x.over(p, q, r, way);
                break;
            default:
                x.fused(p, q, r, way);
                break;
        }
    }

    private static void dueAct(String name, double p, double q, int way, double want) {
        FigurePress x = new FigurePress();
        x.set(0, DOUBLE, bits(p));
        x.set(1, DOUBLE, bits(q));
        x.set(2, DOUBLE, 12345);
        act(x, name, 0, 1, 2, way);
        due(name + " " + p + " " + q + " way " + way, x.pattern(2), bits(want));
        act(x, name, 0, 1, 0, way);
        due(name + " over its own place", x.pattern(0), bits(want));
        due("the other stays", x.pattern(1), bits(q));
    }

    private static void dueActToFloat(String name, double p, double q, int way, float want) {
        FigurePress x = new FigurePress();
        x.set(0, DOUBLE, bits(p));
        x.set(1, DOUBLE, bits(q));
        act(x, name, 0, 1, 2, way);
        due(name + " " + p + " " + q + " to float, way " + way, x.pattern(2), bits(want));
        due("format stays", x.told(2, 0), FLOAT);
    }

    private static void wrongActs(String name) {
        FigurePress x = new FigurePress();
        for (int p : NO_PLACES) {
            dueIndex(name, () -> act(x, name, p, 0, 0, 9));
            dueIndex(name, () -> act(x, name, 0, p, 0, 9));
            dueIndex(name, () -> act(x, name, 0, 0, p, 9));
        }
        for (int way : NO_WAYS) {
            dueArgument(name, () -> act(x, name, 0, 0, 0, way));
        }
    }

    private static void feed(FigurePress x, String text) {
        for (int i = 0; i < text.length(); i += 8) {
            long eight = 0;
            int n = Math.min(8, text.length() - i);
            for (int j = 0; j < n; j++) {
                eight |= (long) text.charAt(i + j) << (8 * j);
            }
            due("feed", x.feed(eight, n), i + n);
        }
    }

    private static void dueWritten(double v, int form, int n, int way, String want) {
        dueWrittenPattern(DOUBLE, bits(v), form, n, way, want);
    }

    private static void dueWrittenFloat(float v, int form, int n, int way, String want) {
        dueWrittenPattern(FLOAT, bits(v), form, n, way, want);
    }

    private static void dueWrittenPattern(int format, long pattern, int form, int n, int way, String want) {
        FigurePress x = new FigurePress();
        x.set(6, format, pattern);
        int length = x.write(6, form, n, way);
        StringBuilder got = new StringBuilder();
        for (int i = 0; i < length; i++) {
            got.append((char) x.letter(i));
        }
        checks++;
        if (!got.toString().equals(want)) {
            wrong++;
            System.out.println(about + ": form " + form + " n " + n + " way " + way + ": " + got + ", due is " + want);
        }
        due("behind the last letter", x.letter(length), -1);
    }

    private static void due(String call, long got, long want) {
        checks++;
        if (got != want) {
            wrong++;
            System.out.println(about + ": " + call + ": " + got + ", due is " + want);
        }
    }

    private static void dueIndex(String name, Call call) {
        dueThrown(name, IndexOutOfBoundsException.class, call);
    }

    private static void dueArgument(String name, Call call) {
        dueThrown(name, IllegalArgumentException.class, call);
    }

    private static void dueThrown(String name, Class<?> want, Call call) {
        String got = "nothing";
        try {
            call.run();
        } catch (RuntimeException e) {
            got = e.getClass().getName();
        }
        checks++;
        if (!got.equals(want.getName())) {
            wrong++;
            System.out.println(about + ": " + name + " throws " + got + ", due is " + want.getName());
        }
    }

    private static long bits(double v) {
        return Double.doubleToLongBits(v);
    }

    private static long bits(float v) {
        return Float.floatToIntBits(v) & 0xFFFFFFFFL;
    }
}
