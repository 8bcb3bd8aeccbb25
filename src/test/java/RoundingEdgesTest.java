import java.math.BigDecimal;
import java.math.BigInteger;

/** The sentences on rounding, and on what goes from one format to another: Terms 2, promises 6 to 8. */
public final class RoundingEdgesTest extends Edges {
    private static final BigDecimal HALF = new BigDecimal("0.5");

    public static void main(String[] args) {
        for (int format = 0; format < 2; format++) {
            ways(format);
            steps(format);
            sides(format);
            middles(format);
            middlesBelowPowers(format);
            belowNought(format);
            tooSmall(format);
            tooGreat(format);
            stepsBeyond(format);
        }
        convertedNumbers();
        convertedOthers();
        fromLongs();
        wholeOnes();
        nearestWholes();
        otherWays();
        noLongs();
        end();
    }

    // ---- Terms 2, by each call that takes a number from elsewhere

    private static void ways(int format) {
        sentence("ROUNDING v (a real number) to a format in a way: 0 NEAREST, 1 TO NOUGHT, 2 UP, 3 DOWN.");
        long one = ONE[format];
        BigDecimal quarter = two(1 - PRECISION[format]).multiply(two(-2));
        dueRounded(format, BigDecimal.ONE.add(quarter), one, one, one + 1, one);
        dueRounded(format, BigDecimal.ONE.add(quarter.multiply(new BigDecimal(3))), one + 1, one, one + 1, one);
    }

    private static void steps(int format) {
        sentence("If v is a step, or nought, it is that;");
        long[] sizes = {LEAST, 2, 3, LEAST_FULL[format] - 1, LEAST_FULL[format], LEAST_FULL[format] + 1, ONE[format] - 1,
            ONE[format], ONE[format] + 1, GREATEST[format] - 1, GREATEST[format]};
        for (long size : sizes) {
            dueRounded(format, value(format, size), size, size, size, size);
        }
        for (int way = 0; way < 4; way++) {
            for (String nought : new String[] {"0", "0.000", ".0", "0e999999", "0e-999999", "0x0", "0x.0p999999", "0x0p-999999"}) {
                due(nought + " way " + way, read(format, nought, way), 0);
                due("+" + nought + " way " + way, read(format, "+" + nought, way), 0);
                due("-" + nought + " way " + way, read(format, "-" + nought, way), SIGN[format]);
            }
        }
    }

    private static void sides(int format) {
        sentence("else with a the greatest step below it, b the least one above it: TO NOUGHT the one that is nearer to 0, "
            + "UP b, DOWN a, NEAREST the nearer one;");
        long[] lower = {0, LEAST, LEAST_FULL[format] - 1, LEAST_FULL[format], ONE[format] - 1, ONE[format],
            ONE[format] + 1, GREATEST[format] - 1};
        for (long a : lower) {
            BigDecimal below = value(format, a);
            BigDecimal gap = value(format, a + 1).subtract(below);
            BigDecimal middle = below.add(gap.multiply(HALF));
            BigDecimal bit = gap.multiply(two(-60));
            dueRounded(format, below.add(bit), a, a, a + 1, a);
            dueRounded(format, middle.subtract(bit), a, a, a + 1, a);
            dueRounded(format, middle.add(bit), a + 1, a, a + 1, a);
            dueRounded(format, below.add(gap).subtract(bit), a + 1, a, a + 1, a);
        }
    }

    private static void middles(int format) {
        sentence("of two the one whose m is even");
        // the lower one of each pair, and which of the two is even
        long[] evenBelow = {0, 2, LEAST_FULL[format], ONE[format], ONE[format] + 2, GREATEST[format] - 1};
        for (long a : evenBelow) {
            dueRounded(format, middleAbove(format, a), a, a, a + 1, a);
        }
        long[] oddBelow = {LEAST, 3, LEAST_FULL[format] + 1, ONE[format] + 1, GREATEST[format] - 2};
        for (long a : oddBelow) {
            dueRounded(format, middleAbove(format, a), a + 1, a, a + 1, a);
        }
    }

    private static void middlesBelowPowers(int format) {
        sentence("(of the two m with one e: if b's m is 2 to the P - 1 and a's 2 to the P less 1, b).");
        long[] powers = {LEAST_FULL[format], LEAST_FULL[format] << 1, ONE[format], ONE[format] + LEAST_FULL[format],
            GREATEST[format] + 1 - LEAST_FULL[format]};
        for (long b : powers) {
            long a = b - 1;
            BigDecimal middle = middleAbove(format, a);
            BigDecimal bit = value(format, b).subtract(value(format, a)).multiply(two(-40));
            dueRounded(format, middle, b, a, b, a);
            dueRounded(format, middle.subtract(bit), a, a, b, a);
            dueRounded(format, middle.add(bit), b, a, b, a);
        }
    }

    private static void belowNought(int format) {
        sentence("(Steps below 0 are those above 0 with the other sign, and 0 is a step.)");
        String quarter = "p" + (LOWEST[format] - 2);
        long sign = SIGN[format];
        long[] wants = {sign, sign, sign, sign | LEAST};
        for (int way = 0; way < 4; way++) {
            due("a quarter of the least below 0, way " + way, read(format, "-0x1" + quarter, way), wants[way]);
        }
        long[] more = {sign | LEAST, sign, sign, sign | LEAST};
        for (int way = 0; way < 4; way++) {
            due("three quarters of the least below 0, way " + way, read(format, "-0x3" + quarter, way), more[way]);
        }
        long[] next = {sign | LEAST, sign | LEAST, sign | LEAST, sign | LEAST + 1};
        for (int way = 0; way < 4; way++) {
            due("five quarters of the least below 0, way " + way, read(format, "-0x5" + quarter, way), next[way]);
        }
    }

    private static void tooSmall(int format) {
        sentence("A step 0 that comes of a v that isn't 0 has v's sign.");
        BigDecimal least = two(LOWEST[format]);
        dueRounded(format, least.multiply(HALF), 0, 0, LEAST, 0);
        dueRounded(format, least.multiply(two(-80)), 0, 0, LEAST, 0);
        dueRounded(format, least.multiply(HALF).subtract(least.multiply(two(-80))), 0, 0, LEAST, 0);
        dueRounded(format, least.multiply(HALF).add(least.multiply(two(-80))), LEAST, 0, LEAST, 0);
        String[] tiny = {"1e-999999", "0x1p-999999", "1e-401", "1e-399", "0.0000001e-999999", "0x.0001p-999999"};
        for (String text : tiny) {
            dueText(format, text, 0, 0, LEAST, 0);
        }
    }

    private static void tooGreat(int format) {
        sentence("What comes of that with e above U is ENDLESS of its sign by NEAREST, by UP above 0, by DOWN below 0; "
            + "otherwise the greatest number with its sign.");
        long greatest = GREATEST[format];
        long endless = ENDLESS[format];
        BigDecimal gap = two(HIGHEST[format]);
        BigDecimal bit = gap.multiply(two(-40));
        BigDecimal middle = value(format, greatest).add(gap.multiply(HALF));
        dueRounded(format, value(format, greatest).add(bit), greatest, greatest, endless, greatest);
        dueRounded(format, middle.subtract(bit), greatest, greatest, endless, greatest);
        dueRounded(format, middle, endless, greatest, endless, greatest);
        dueRounded(format, middle.add(bit), endless, greatest, endless, greatest);
        dueRounded(format, middle.add(gap.multiply(HALF)).subtract(bit), endless, greatest, endless, greatest);
        String[] huge = {"1e999999", "0x1p999999", "1e400", "1e401", "1e309", "10000000e999999", "0xfff.fp999999"};
        for (String text : huge) {
            dueText(format, text, endless, greatest, endless, greatest);
        }
    }

    private static void stepsBeyond(int format) {
        sentence("STEPS are the numbers of the format, and those that it would have with e above U too.");
        long greatest = GREATEST[format];
        long endless = ENDLESS[format];
        BigDecimal first = two(HIGHEST[format] + PRECISION[format]);
        BigDecimal gap = two(HIGHEST[format] + 1);
        dueRounded(format, first, endless, greatest, endless, greatest);
        dueRounded(format, first.add(gap), endless, greatest, endless, greatest);
        dueRounded(format, first.add(gap.multiply(HALF)), endless, greatest, endless, greatest);
        dueRounded(format, first.add(gap).multiply(two(20)), endless, greatest, endless, greatest);
    }

    // ---- promise 6

    private static void convertedNumbers() {
        sentence("Place r becomes p's value rounded to a format (which it has then);");
        for (int way = 0; way < 4; way++) {
            for (long size : new long[] {0, LEAST, LEAST_FULL[FLOAT] - 1, LEAST_FULL[FLOAT], ONE[FLOAT], GREATEST[FLOAT]}) {
                double v = Float.intBitsToFloat((int) size);
                dueConverted(FLOAT, size, DOUBLE, way, bits(DOUBLE, v));
                dueConverted(FLOAT, minus(FLOAT, size), DOUBLE, way, bits(DOUBLE, -v));
                dueConverted(FLOAT, size, FLOAT, way, size);
                dueConverted(DOUBLE, bits(DOUBLE, -v), FLOAT, way, minus(FLOAT, size));
            }
            for (long size : new long[] {0, LEAST, LEAST_FULL[DOUBLE] - 1, ONE[DOUBLE] + 1, GREATEST[DOUBLE]}) {
                dueConverted(DOUBLE, size, DOUBLE, way, size);
                dueConverted(DOUBLE, minus(DOUBLE, size), DOUBLE, way, minus(DOUBLE, size));
            }
        }
        long[] leastWants = {0, 0, LEAST, 0};
        long[] greatestWants = {ENDLESS[FLOAT], GREATEST[FLOAT], ENDLESS[FLOAT], GREATEST[FLOAT]};
        for (int way = 0; way < 4; way++) {
            dueConverted(DOUBLE, LEAST, FLOAT, way, leastWants[way]);
            dueConverted(DOUBLE, GREATEST[DOUBLE], FLOAT, way, greatestWants[way]);
        }
        FigurePress x = with(FLOAT, bits(FLOAT, -0.5));
        x.convert(0, 0, DOUBLE, NEAREST);
        due("onto itself", x.pattern(0), bits(DOUBLE, -0.5));
        due("its format then", x.told(0, 0), DOUBLE);
    }

    private static void convertedOthers() {
        sentence("ENDLESS and NONE stay such.");
        for (int way = 0; way < 4; way++) {
            for (int from = 0; from < 2; from++) {
                for (int to = 0; to < 2; to++) {
                    dueConverted(from, ENDLESS[from], to, way, ENDLESS[to]);
                    dueConverted(from, minus(from, ENDLESS[from]), to, way, minus(to, ENDLESS[to]));
                    dueConverted(from, ENDLESS[from] + 1, to, way, NONE[to]);
                    dueConverted(from, minus(from, NONE[from]), to, way, NONE[to]);
                }
            }
        }
    }

    private static void dueConverted(int from, long pattern, int to, int way, long want) {
        FigurePress x = with(from, pattern);
        x.set(1, 1 - to, 77);
        x.convert(0, 1, to, way);
        String what = "convert " + pattern + " of format " + from + " to " + to + " way " + way;
        due(what, x.pattern(1), want);
        due(what + ", format", x.told(1, 0), to);
        due(what + ", what was converted", x.pattern(0), pattern);
    }

    // ---- promise 7

    private static void fromLongs() {
        sentence("Place r becomes a whole number, rounded to a format.");
        for (int way = 0; way < 4; way++) {
            for (int format = 0; format < 2; format++) {
                dueFrom(format, 0, way, 0);
                dueFrom(format, 1, way, bits(format, 1));
                dueFrom(format, -1, way, bits(format, -1));
                dueFrom(format, Long.MIN_VALUE, way, bits(format, -0x1p63));
                long most = 1L << PRECISION[format];
                dueFrom(format, most - 1, way, bits(format, most - 1));
                dueFrom(format, -most, way, bits(format, -most));
            }
        }
        dueFromFour(FLOAT, Long.MAX_VALUE, 0x1p63, 0x1.fffffep62, 0x1p63, 0x1.fffffep62);
        dueFromFour(DOUBLE, Long.MAX_VALUE, 0x1p63, 0x1.fffffffffffffp62, 0x1p63, 0x1.fffffffffffffp62);
        dueFromFour(FLOAT, Long.MIN_VALUE + 1, -0x1p63, -0x1.fffffep62, -0x1.fffffep62, -0x1p63);
        dueFromFour(DOUBLE, Long.MIN_VALUE + 1, -0x1p63, -0x1.fffffffffffffp62, -0x1.fffffffffffffp62, -0x1p63);
        dueFromFour(FLOAT, (1L << 24) + 1, 0x1p24, 0x1p24, 0x1.000002p24, 0x1p24);
        dueFromFour(FLOAT, (1L << 24) + 3, 0x1.000004p24, 0x1.000002p24, 0x1.000004p24, 0x1.000002p24);
        dueFromFour(FLOAT, -(1L << 24) - 1, -0x1p24, -0x1p24, -0x1p24, -0x1.000002p24);
        dueFromFour(FLOAT, (1L << 25) - 1, 0x1p25, 0x1.fffffep24, 0x1p25, 0x1.fffffep24);
        dueFromFour(DOUBLE, (1L << 53) + 1, 0x1p53, 0x1p53, 0x1.0000000000001p53, 0x1p53);
        dueFromFour(DOUBLE, (1L << 53) + 3, 0x1.0000000000002p53, 0x1.0000000000001p53, 0x1.0000000000002p53,
            0x1.0000000000001p53);
        dueFromFour(DOUBLE, -(1L << 53) - 1, -0x1p53, -0x1p53, -0x1p53, -0x1.0000000000001p53);
        dueFromFour(DOUBLE, (1L << 54) - 1, 0x1p54, 0x1.fffffffffffffp53, 0x1p54, 0x1.fffffffffffffp53);
    }

    private static void dueFromFour(int format, long v, double... wants) {
        for (int way = 0; way < 4; way++) {
            dueFrom(format, v, way, bits(format, wants[way]));
        }
    }

    private static void dueFrom(int format, long v, int way, long want) {
        FigurePress x = with(1 - format, 77);
        x.from(0, format, v, way);
        due("from " + v + " way " + way, x.pattern(0), want);
        due("its format", x.told(0, 0), format);
    }

    // ---- promise 8

    private static void wholeOnes() {
        sentence("p's value as a whole number: itself if it is whole;");
        double[] wholes = {0.0, -0.0, 1, -1, 0x1p24, 0x1.fffffep62, -0x1.fffffep62, -0x1p63, 0x1p62, 0x1.fffffep23};
        long[] longs = {0, 0, 1, -1, 1L << 24, 0x7FFFFF8000000000L, -0x7FFFFF8000000000L, Long.MIN_VALUE, 1L << 62, 0xFFFFFFL};
        for (int i = 0; i < wholes.length; i++) {
            for (int way = 0; way < 4; way++) {
                dueTo(DOUBLE, wholes[i], way, longs[i]);
                dueTo(FLOAT, wholes[i], way, longs[i]);
            }
        }
        for (int way = 0; way < 4; way++) {
            dueTo(DOUBLE, 0x1.fffffffffffffp62, way, 0x7FFFFFFFFFFFFC00L);
            dueTo(DOUBLE, -0x1.fffffffffffffp62, way, -0x7FFFFFFFFFFFFC00L);
            dueTo(DOUBLE, 0x1.fffffffffffffp52, way, 0x1FFFFFFFFFFFFFL);
        }
    }

    private static void nearestWholes() {
        sentence("else NEAREST the nearest one (of two the even one),");
        double[] values = {0.5, 1.5, 2.5, 0x1.fffffffffffffp-2, 0x1.0000000000001p-1, 0x1.7ffffffffffffp0, 0x1.8000000000001p0,
            0x1p-1074, 0x1p-62, 0x1p-63, 0x1p-2, 0x1.8p-1, 0x1.fffffffffffffp51, 0x1.ffffffffffffdp51, 0x1.0000000000001p51};
        long[] wants = {0, 2, 2, 0, 1, 1, 2, 0, 0, 0, 0, 1, 1L << 52, (1L << 52) - 2, 1L << 51};
        for (int i = 0; i < values.length; i++) {
            dueTo(DOUBLE, values[i], NEAREST, wants[i]);
            dueTo(DOUBLE, -values[i], NEAREST, -wants[i]);
        }
        dueTo(FLOAT, 0x1.fffffep22, NEAREST, 1L << 23);
        dueTo(FLOAT, -0x1.fffffap22, NEAREST, -(1L << 23) + 2);
        dueTo(FLOAT, 0x1p-149, NEAREST, 0);
    }

    private static void otherWays() {
        sentence("TO NOUGHT, UP, DOWN as they say.");
        double[] values = {0.5, 1.5, 0x1p-1074, 0x1.fffffffffffffp-1, 0x1.fffffffffffffp51, 0x1p-61, 0x1p-62, 0x1p-63, 0x1p-64};
        long[] lower = {0, 1, 0, 0, (1L << 52) - 1, 0, 0, 0, 0};
        for (int i = 0; i < values.length; i++) {
            dueTo(DOUBLE, values[i], TO_NOUGHT, lower[i]);
            dueTo(DOUBLE, values[i], UP, lower[i] + 1);
            dueTo(DOUBLE, values[i], DOWN, lower[i]);
            dueTo(DOUBLE, -values[i], TO_NOUGHT, -lower[i]);
            dueTo(DOUBLE, -values[i], UP, -lower[i]);
            dueTo(DOUBLE, -values[i], DOWN, -lower[i] - 1);
        }
        dueTo(FLOAT, 0x1p-149, UP, 1);
        dueTo(FLOAT, -0x1p-149, DOWN, -1);
        dueTo(FLOAT, 0x1.fffffep22, TO_NOUGHT, (1L << 23) - 1);
    }

    private static void noLongs() {
        sentence("ArithmeticException: it is no number, or that is no long.");
        double[] tooFar = {0x1p63, 0x1p64, 0x1p65, 0x1.fffffep127, -0x1.000002p63, -0x1p64, -0x1.8p63, -0x1.fffffep127, INF, -INF, NAN};
        for (double v : tooFar) {
            for (int format = 0; format < 2; format++) {
                dueNoLong(format, bits(format, v));
            }
        }
        dueNoLong(DOUBLE, bits(DOUBLE, -0x1.0000000000001p63));
        dueNoLong(DOUBLE, GREATEST[DOUBLE]);
        dueNoLong(DOUBLE, minus(DOUBLE, GREATEST[DOUBLE]));
        dueNoLong(FLOAT, 0xFF800001L);
        dueNoLong(DOUBLE, -1);
    }

    private static void dueNoLong(int format, long pattern) {
        for (int way = 0; way < 4; way++) {
            int told = way;
            FigurePress x = with(format, pattern);
            dueArithmetic("to " + pattern + " of format " + format + " way " + way, () -> x.to(0, told));
            due("pattern after it", x.pattern(0), pattern);
        }
    }

    private static void dueTo(int format, double v, int way, long want) {
        due("to " + v + " of format " + format + " way " + way, with(format, bits(format, v)).to(0, way), want);
    }

    // ---- helpers

    /** A number above 0, and the one below 0, by every call that can have it: what comes of it in the four ways. */
    private static void dueRounded(int format, BigDecimal v, long... wants) {
        dueText(format, v.toString().replace("E", "e"), wants);
        dueText(format, inSixteens(v), wants);
        double near = v.doubleValue();
        if (!Double.isInfinite(near) && new BigDecimal(near).compareTo(v) == 0) {
            for (int way = 0; way < 4; way++) {
                dueConverted(DOUBLE, bits(DOUBLE, near), format, way, wants[way]);
                dueConverted(DOUBLE, bits(DOUBLE, -near), format, way, minus(format, wants[mirrored(way)]));
            }
        }
    }

    private static void dueText(int format, String text, long... wants) {
        for (int way = 0; way < 4; way++) {
            due("read " + shown(text) + " format " + format + " way " + way, read(format, text, way), wants[way]);
            due("read -" + shown(text) + " format " + format + " way " + way, read(format, "-" + text, way),
                minus(format, wants[mirrored(way)]));
        }
    }

    private static int mirrored(int way) {
        return way == UP ? DOWN : way == DOWN ? UP : way;
    }

    private static long read(int format, String text, int way) {
        FigurePress x = with(1 - format, 77);
        feed(x, text);
        due("read " + shown(text), x.read(0, format, way), 0);
        due("its format", x.told(0, 0), format);
        return x.pattern(0);
    }

    private static BigDecimal value(int format, long size) {
        return new BigDecimal(format == DOUBLE ? Double.longBitsToDouble(size) : Float.intBitsToFloat((int) size));
    }

    private static BigDecimal middleAbove(int format, long size) {
        return value(format, size).add(value(format, size + 1)).multiply(HALF);
    }

    private static BigDecimal two(int power) {
        return power >= 0 ? new BigDecimal(BigInteger.ONE.shiftLeft(power)) : HALF.pow(-power);
    }

    /** A number that a power of two makes whole. */
    private static String inSixteens(BigDecimal v) {
        return "0x" + v.multiply(two(1300)).toBigIntegerExact().toString(16) + "p-1300";
    }
}
