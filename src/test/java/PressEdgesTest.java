import java.math.BigDecimal;

/** The sentences ahead of the terms: what the press is for, and how long an object is used. */
public final class PressEdgesTest extends Edges {
    private static final int MOST_CALLS = 512;
    private static final int MOST_BYTES = 1200;
    private static final String LEAST_EXACTLY = new BigDecimal(Double.MIN_VALUE).toPlainString();

    public static void main(String[] args) {
        bothFormats();
        for (int format = 0; format < 2; format++) {
            fewestFigures(format);
            toldFigures(format);
            allFigures(format);
            longTexts(format);
        }
        roundedOnce();
        fourWays();
        lastCalls();
        laterCalls();
        end();
    }

    private static void bothFormats() {
        sentence("A press for floating numbers of 32 and 64 bits, by whole numbers alone:");
        FigurePress x = new FigurePress();
        x.set(0, FLOAT, 0xFFFFFFFF3F800001L);
        x.set(1, DOUBLE, 0xFFFFFFFF3F800001L);
        due("32 bits", x.pattern(0), 0x3F800001L);
        due("64 bits", x.pattern(1), 0xFFFFFFFF3F800001L);
        // a value that only an exact sum tells from its neighbours, and that the machine's own doubles would lose
        x.set(2, DOUBLE, bits(DOUBLE, 0x1p-1074));
        x.set(3, DOUBLE, ONE[DOUBLE]);
        x.set(4, DOUBLE, 0L);
        x.add(2, 3, 4, UP);
        due("1 and the least number, UP", x.pattern(4), ONE[DOUBLE] + 1);
    }

    private static long[] sizes(int format) {
        return new long[] {LEAST, 2, 3, LEAST_FULL[format] - 1, LEAST_FULL[format], LEAST_FULL[format] + 1,
            bits(format, 0x1p-30), bits(format, 0.1f), bits(format, 0.3f), ONE[format] - 1, ONE[format], ONE[format] + 1,
            bits(format, 9.5), bits(format, 1e22f), bits(format, 0x1p60), bits(format, 0x1p90),
            GREATEST[format] - 1, GREATEST[format]};
    }

    private static void fewestFigures(int format) {
        sentence("values are turned into the fewest figures that lead back to them,");
        for (long size : sizes(format)) {
            for (long pattern : new long[] {size, minus(format, size)}) {
                FigurePress x = with(format, pattern);
                String powered = written(x, POWERED, 0, 0);
                due(powered, read(format, powered, NEAREST), pattern);
                String plain = written(x, PLAIN, 0, 0);
                due(plain, read(format, plain, NEAREST), pattern);
                int figures = powered.substring(0, powered.indexOf('e')).replaceAll("[-.]", "").length();
                for (int way = UP; way <= DOWN && figures > 1; way++) {
                    String fewer = written(x, ROUNDED, figures - 1, way);
                    due(fewer + " of " + powered, read(format, fewer, NEAREST) == pattern ? 1 : 0, 0);
                }
            }
        }
    }

    private static void toldFigures(int format) {
        sentence("into told numbers of figures,");
        for (long size : sizes(format)) {
            FigurePress x = with(format, size);
            for (int n : new int[] {1, 2, 17, 59, 60}) {
                String rounded = written(x, ROUNDED, n, NEAREST);
                due(rounded + " figures", rounded.indexOf('e') - (n > 1 ? 1 : 0), n);
                String fixed = written(x, FIXED, n, NEAREST);
                due(fixed + " figures behind the point", fixed.length() - 1 - fixed.indexOf('.'), n);
            }
            due("a point in 0 figures behind it", written(x, FIXED, 0, NEAREST).indexOf('.'), -1);
        }
    }

    private static void allFigures(int format) {
        sentence("exactly, or by sixteens;");
        for (long size : sizes(format)) {
            FigurePress x = with(format, size);
            String exact = written(x, EXACT, 0, 0);
            String sixteens = written(x, SIXTEENS, 0, 0);
            for (int way = 0; way < 4; way++) {
                due(shown(exact) + " way " + way, read(format, exact, way), size);
                due(shown(sixteens) + " way " + way, read(format, sixteens, way), size);
            }
        }
    }

    /** The middle above 1, told with as many figures as the tape has room for, and a bit more or less. */
    private static void longTexts(int format) {
        sentence("figures of any length are read to the nearest value;");
        FigurePress above = with(DOUBLE, bits(DOUBLE, 0x1p-24));
        String middle = format == FLOAT ? "1" + written(above, EXACT, 0, 0).substring(1)
            : "1.00000000000000011102230246251565404236316680908203125";
        for (int length = middle.length() + 1; length <= MOST_BYTES; length += length < 100 ? 1 : 50) {
            String noughts = "0".repeat(length - middle.length() - 1);
            due(length + " bytes, the middle", read(format, middle + noughts + "0", NEAREST), ONE[format]);
            due(length + " bytes, more", read(format, middle + noughts + "1", NEAREST), ONE[format] + 1);
            due(length + " bytes, ahead", read(format, noughts + middle + "1", NEAREST), ONE[format] + 1);
        }
        String nines = middle.substring(0, middle.length() - 1) + "4" + "9".repeat(MOST_BYTES - middle.length());
        due("less than the middle", read(format, nines, NEAREST), ONE[format]);
    }

    /** Results in a FLOAT that a DOUBLE between would bring to the middle of two FLOATs, and then to the even one. */
    private static void roundedOnce() {
        sentence("and sums, products, quotients, roots are rounded once,");
        double middle = 0x1p24 + 1;
        dueOnce("sum", 0x1p24, act("add", middle, 0x1p-60, 0));
        dueOnce("less", 0x1p24, act("less", middle, -0x1p-60, 0));
        dueOnce("product", 0x1p60, act("times", 269.0, 4285953804187077.0, 0));
        dueOnce("quotient", 0x1p24, act("over", 0x1p53 + 0x1p29 + (0x1p24 + 2), 0x1p29 + 1, 0));
        dueOnce("root", 0x1p24, act("root", middle * middle + 0x1p-4, 0, 0));
        FigurePress x = with(1 + 0x1p-27);
        x.set(1, DOUBLE, bits(DOUBLE, -1 - 0x1p-26));
        x.fused(0, 0, 1, NEAREST);
        due("what a product has behind its DOUBLE", x.pattern(1), bits(DOUBLE, 0x1p-54));
    }

    /** The FLOAT above is the nearest one, as the result is a bit above the middle. */
    private static void dueOnce(String what, double below, long got) {
        due(what + " rounded once", got, bits(FLOAT, below) + 1);
    }

    private static void fourWays() {
        sentence("in each of four ways.");
        double[][] cases = {{0x1p24, 1.5}, {-0x1p24, -1.5}};
        long up = bits(FLOAT, 0x1p24) + 1;
        long[][] sums = {{up, up - 1, up, up - 1}, {up, up - 1, up - 1, up}};
        for (int i = 0; i < 2; i++) {
            for (int way = 0; way < 4; way++) {
                long sign = i == 0 ? 0 : SIGN[FLOAT];
                due("sum " + i + " way " + way, act("add", cases[i][0], cases[i][1], way), sums[i][way] | sign);
            }
        }
        long third = 0x3EAAAAAAL;
        long tenth = 0x3DCCCCCCL;
        long[] thirds = {third + 1, third, third + 1, third};
        long[] roots = {0x3FB504F3L, 0x3FB504F3L, 0x3FB504F4L, 0x3FB504F3L};
        long[] products = {tenth + 1, tenth, tenth + 1, tenth};
        for (int way = 0; way < 4; way++) {
            due("quotient, way " + way, act("over", 1, 3, way), thirds[way]);
            due("root, way " + way, act("root", 2, 0, way), roots[way]);
            due("product, way " + way, act("times", 0.1, 1, way), products[way]);
        }
    }

    private static void lastCalls() {
        sentence("An object is used for at most 512 calls after it has been made;");
        for (int last = 0; last < 4; last++) {
            FigurePress x = new FigurePress();
            int calls = 0;
            for (; calls < MOST_BYTES / 8; calls++) {
                due("bytes after call " + (calls + 1), x.feed(0x3030303030303030L, 8), 8 * (calls + 1));
            }
            x.set(0, DOUBLE, LEAST);
            due("the longest text", x.write(0, EXACT, 0, 0), LEAST_EXACTLY.length());
            for (calls += 2; calls < MOST_CALLS - 1; calls++) {
                due("letter " + calls, x.letter(calls), LEAST_EXACTLY.charAt(calls));
            }
            switch (last) {
                case 0:
                    due("the 512th call", x.read(0, DOUBLE, NEAREST), 0);
                    break;
                case 1:
                    due("the 512th call", x.letter(1075), '5');
                    break;
                case 2:
                    due("the 512th call", x.pattern(0), LEAST);
                    break;
                default:
                    dueArgument("the 512th call", () -> x.feed(0L, 1));
                    break;
            }
        }
    }

    private static void laterCalls() {
        sentence("what later calls answer is free.");
        FigurePress x = new FigurePress();
        for (int i = 0; i < 4 * MOST_CALLS; i++) {
            // the answers are free, but the machine must not throw, so that this loop ends
            x.set(i & 15, i & 1, 0x0123456789ABCDEFL * i);
            x.fused(i & 15, i >> 4 & 15, i >> 8 & 15, i & 3);
            x.write(i & 15, i % 6, 60, i & 3);
            if (x.feed(0x3939393939393939L, 8) == MOST_BYTES) {
                x.read(i & 15, i & 1, i & 3);
            }
        }
        due("calls that ended", 1, 1);
    }

    private static long read(int format, String text, int way) {
        FigurePress x = new FigurePress();
        feed(x, text);
        due(shown(text) + " read", x.read(5, format, way), 0);
        return x.pattern(5);
    }

    /** What comes of two DOUBLEs in a FLOAT. */
    private static long act(String name, double a, double b, int way) {
        FigurePress x = with(a);
        x.set(1, DOUBLE, bits(DOUBLE, b));
        switch (name) {
            case "add":
                x.add(0, 1, 2, way);
                break;
            case "less":
                x.less(0, 1, 2, way);
                break;
            case "times":
                x.times(0, 1, 2, way);
                break;
            case "over":
                x.over(0, 1, 2, way);
                break;
            default:
                x.root(0, 2, way);
                break;
        }
        return x.pattern(2);
    }
}
