import java.math.BigDecimal;
import java.math.BigInteger;
import java.math.MathContext;
import java.math.RoundingMode;
import java.util.Random;
import java.util.regex.Matcher;
import java.util.regex.Pattern;

/**
 * Many calls, with fixed seeds, against answers found in another way: results are searched for among
 * the patterns by exact comparison, and figures come from BigDecimal.
 */
public final class OracleTest {
    private static final int FLOAT = 0;
    private static final int DOUBLE = 1;
    private static final int NEAREST = 0;
    private static final int UP = 2;
    private static final int DOWN = 3;
    private static final RoundingMode[] MODES = {
        RoundingMode.HALF_EVEN, RoundingMode.DOWN, RoundingMode.CEILING, RoundingMode.FLOOR};
    private static final long[] ENDLESS = {0x7F800000L, 0x7FF0000000000000L};
    private static final long[] NONE = {0x7FC00000L, 0x7FF8000000000000L};
    private static final long[] SIGN = {0x80000000L, Long.MIN_VALUE};
    private static final BigDecimal[] BEYOND = {
        new BigDecimal(BigInteger.ONE.shiftLeft(128)), new BigDecimal(BigInteger.ONE.shiftLeft(1024))};
    private static final BigDecimal TWO = BigDecimal.valueOf(2);

    private static final Random random = new Random(20261116);
    private static FigurePress x = new FigurePress();
    private static int calls = 0;
    private static int checks = 0;
    private static int wrong = 0;

    /** How a real number not below 0 stands to x. */
    private interface Size {
        int against(BigDecimal x);
    }

    public static void main(String[] args) {
        sums();
        products();
        fusedOnes();
        roots();
        conversions();
        wholeNumbers();
        orders();
        machineArithmetic();
        shortOnes();
        figures();
        exactAndSixteens();
        readings();
        halves();
        readingSixteens();
        wrongTexts();
        System.out.println(checks + " checks, " + wrong + " wrong");
        if (wrong != 0) {
            System.exit(1);
        }
    }

    // ---- acts

    private static void sums() {
        for (int i = 0; i < 12000; i++) {
            int[] formats = someFormats();
            long p = somePattern(formats[0]);
            long q = i % 3 == 0 ? near(formats[0], p, formats[1]) : somePattern(formats[1]);
            int way = random.nextInt(4);
            put(0, formats[0], p);
            put(1, formats[1], q);
            put(2, formats[2], 5);
            x.add(0, 1, 2, way);
            due("add", x.pattern(2), sum(formats, p, q, way), p, q, way);
            put(2, formats[2], 5);
            x.less(0, 1, 2, way);
            due("less", x.pattern(2), sum(formats, p, q ^ SIGN[formats[1]], way), p, q, way);
        }
    }

    private static long sum(int[] formats, long p, long q, int way) {
        double a = asDouble(formats[0], p);
        double b = asDouble(formats[1], q);
        int to = formats[2];
        if (!isFinite(a) || !isFinite(b)) {
            return special(to, a + b);
        }
        BigDecimal exact = new BigDecimal(a).add(new BigDecimal(b));
        if (exact.signum() == 0) {
            return zeroSum(to, isMinus(a), isMinus(b), way);
        }
        return rounded(to, exact.signum() < 0, of(exact), way);
    }

    private static long zeroSum(int to, boolean aMinus, boolean bMinus, int way) {
        boolean minus = aMinus && bMinus || aMinus != bMinus && way == DOWN;
        return minus ? SIGN[to] : 0;
    }

    private static void products() {
        for (int i = 0; i < 12000; i++) {
            int[] formats = someFormats();
            long p = somePattern(formats[0]);
            long q = somePattern(formats[1]);
            int way = random.nextInt(4);
            put(0, formats[0], p);
            put(1, formats[1], q);
            put(2, formats[2], 5);
            put(3, formats[2], 5);
            x.times(0, 1, 2, way);
            x.over(0, 1, 3, way);
            double a = asDouble(formats[0], p);
            double b = asDouble(formats[1], q);
            boolean minus = isMinus(a) != isMinus(b);
            int to = formats[2];
            boolean usual = isFinite(a) && isFinite(b) && a != 0 && b != 0;
            BigDecimal exactA = usual ? new BigDecimal(a).abs() : BigDecimal.ZERO;
            BigDecimal exactB = usual ? new BigDecimal(b).abs() : BigDecimal.ZERO;
            due("times", x.pattern(2), usual ? rounded(to, minus, of(exactA.multiply(exactB)), way) : special(to, a * b), p, q, way);
            due("over", x.pattern(3), usual ? rounded(to, minus, ratio(exactA, exactB), way) : special(to, a / b), p, q, way);
        }
    }

    private static void fusedOnes() {
        for (int i = 0; i < 12000; i++) {
            int[] formats = someFormats();
            long p = somePattern(formats[0]);
            long q = somePattern(formats[1]);
            double a = asDouble(formats[0], p);
            double b = asDouble(formats[1], q);
            int to = formats[2];
            long r = somePattern(to);
            if (i % 2 == 0 && isFinite(a * b)) {
                r = to == DOUBLE ? Double.doubleToLongBits(-a * b) : Float.floatToIntBits((float) (-a * b)) & 0xFFFFFFFFL;
                r += random.nextInt(3) - 1;
                r &= to == FLOAT ? 0xFFFFFFFFL : -1;
            }
            int way = random.nextInt(4);
            put(0, formats[0], p);
            put(1, formats[1], q);
            put(2, to, r);
            double c = asDouble(to, r);
            x.fused(0, 1, 2, way);
            due("fused with " + c, x.pattern(2), fused(a, b, c, to, way), p, q, way);
        }
    }

    private static long fused(double a, double b, double c, int to, int way) {
        if (!isFinite(a) || !isFinite(b) || !isFinite(c)) {
            boolean endlessProduct = Double.isInfinite(a) || Double.isInfinite(b);
            boolean endless = endlessProduct && !Double.isNaN(a * b);
            return special(to, endless ? a * b + c : Math.fma(a, b, c));
        }
        BigDecimal exact = new BigDecimal(a).multiply(new BigDecimal(b)).add(new BigDecimal(c));
        if (exact.signum() == 0) {
            return zeroSum(to, isMinus(a) != isMinus(b), isMinus(c), way);
        }
        return rounded(to, exact.signum() < 0, of(exact), way);
    }

    private static void roots() {
        for (int i = 0; i < 12000; i++) {
            int[] formats = someFormats();
            long p = somePattern(formats[0]);
            if (i % 4 != 0) {
                p &= ~SIGN[formats[0]];
            }
            double a = asDouble(formats[0], p);
            if (i % 5 == 0) {
                double square = Math.abs((double) (float) a);
                a = square * square;
                formats[0] = DOUBLE;
                p = Double.doubleToLongBits(a);
            }
            int way = random.nextInt(4);
            put(0, formats[0], p);
            put(2, formats[2], 5);
            x.root(0, 2, way);
            long want;
            if (isFinite(a) && a > 0) {
                BigDecimal square = new BigDecimal(a);
                want = rounded(formats[2], false, y -> square.compareTo(y.multiply(y)), way);
            } else {
                want = special(formats[2], Math.sqrt(a));
            }
            due("root", x.pattern(2), want, p, 0, way);
        }
    }

    private static void conversions() {
        for (int i = 0; i < 20000; i++) {
            int[] formats = someFormats();
            long p = somePattern(formats[0]);
            double a = asDouble(formats[0], p);
            int to = formats[2];
            int way = random.nextInt(4);
            put(0, formats[0], p);
            x.convert(0, 1, to, way);
            boolean usual = isFinite(a) && a != 0;
            due("convert", x.pattern(1), usual ? rounded(to, a < 0, of(new BigDecimal(a)), way) : special(to, a), p, 0, way);
            due("format", x.told(1, 0), to, p, 0, way);
            x.step(0, (i & 1) == 0);
            due("step", x.pattern(0), beside(formats[0], p, (i & 1) == 0), p, i & 1, 0);
        }
    }

    private static long beside(int format, long p, boolean up) {
        double a = asDouble(format, p);
        if (Double.isNaN(a)) {
            return p;
        }
        if (format == FLOAT) {
            float f = (float) a;
            return Float.floatToIntBits(up ? Math.nextUp(f) : Math.nextDown(f)) & 0xFFFFFFFFL;
        }
        return Double.doubleToLongBits(up ? Math.nextUp(a) : Math.nextDown(a));
    }

    private static void wholeNumbers() {
        for (int i = 0; i < 20000; i++) {
            long v = random.nextLong() >> random.nextInt(64);
            int way = random.nextInt(4);
            int to = random.nextInt(2);
            call();
            x.from(0, to, v, way);
            due("from", x.pattern(0), v == 0 ? 0 : rounded(to, v < 0, of(BigDecimal.valueOf(v)), way), v, 0, way);
            int format = random.nextInt(2);
            long p = i % 2 == 0 ? somePattern(format) : withPower(format, random.nextInt(70) - 4);
            put(0, format, p);
            due("to", to(way), wantedLong(asDouble(format, p), way), p, 0, way);
        }
    }

    private static long withPower(int format, int power) {
        double v = Math.scalb(1 + random.nextDouble(), power);
        v = random.nextInt(4) == 0 ? Math.rint(2 * v) / 2 : v;
        v = random.nextBoolean() ? -v : v;
        return format == DOUBLE ? Double.doubleToLongBits(v) : Float.floatToIntBits((float) v) & 0xFFFFFFFFL;
    }

    private static long to(int way) {
        try {
            return x.to(0, way);
        } catch (ArithmeticException e) {
            return 987654321987654321L;
        }
    }

    private static long wantedLong(double v, int way) {
        if (!isFinite(v)) {
            return 987654321987654321L;
        }
        BigInteger whole = new BigDecimal(v).setScale(0, MODES[way]).toBigInteger();
        return whole.bitLength() < 64 ? whole.longValue() : 987654321987654321L;
    }

    private static void orders() {
        for (int i = 0; i < 20000; i++) {
            int[] formats = someFormats();
            long p = somePattern(formats[0]);
            long q = i % 2 == 0 ? near(formats[0], p, formats[1]) : somePattern(formats[1]);
            put(0, formats[0], p);
            put(1, formats[1], q);
            double a = asDouble(formats[0], p);
            double b = asDouble(formats[1], q);
            int want = Double.isNaN(a) || Double.isNaN(b) ? 2 : a < b ? -1 : a > b ? 1 : 0;
            due("order", x.order(0, 1), want, p, q, 0);
        }
    }

    /** The machine's own NEAREST, which is right, on many more values. */
    private static void machineArithmetic() {
        for (int i = 0; i < 100000; i++) {
            long p = somePattern(DOUBLE);
            long q = somePattern(DOUBLE);
            double a = asDouble(DOUBLE, p);
            double b = asDouble(DOUBLE, q);
            put(0, DOUBLE, p);
            put(1, DOUBLE, q);
            put(2, DOUBLE, p);
            x.add(0, 1, 2, NEAREST);
            due("add", x.pattern(2), Double.doubleToLongBits(a + b), p, q, 0);
            x.times(0, 1, 2, NEAREST);
            due("times", x.pattern(2), Double.doubleToLongBits(a * b), p, q, 0);
            x.over(0, 1, 2, NEAREST);
            due("over", x.pattern(2), Double.doubleToLongBits(a / b), p, q, 0);
            x.root(0, 2, NEAREST);
            due("root", x.pattern(2), Double.doubleToLongBits(Math.sqrt(a)), p, q, 0);
            put(2, DOUBLE, p);
            x.fused(0, 1, 2, NEAREST);
            due("fused", x.pattern(2), Double.doubleToLongBits(Math.fma(a, b, a)), p, q, 0);
        }
    }

    // ---- writing

    private static void shortOnes() {
        for (int i = 0; i < 6000; i++) {
            int format = random.nextInt(2);
            long p = somePattern(format) & ~SIGN[format];
            if (p == 0 || p >= ENDLESS[format]) {
                continue;
            }
            dueShort(format, p);
        }
        for (int format = 0; format < 2; format++) {
            int places = format == FLOAT ? 23 : 52;
            for (long e = 0; e < ENDLESS[format] >>> places; e += 1 + 2 * format) {
                dueShort(format, Math.max(1, e << places));
                dueShort(format, (e << places) + 1);
                dueShort(format, (e + 1 << places) - 1);
            }
            for (long p = 1; p < 600; p++) {
                dueShort(format, p);
            }
        }
    }

    private static void dueShort(int format, long p) {
        BigDecimal want = shortest(format, p);
        put(0, format, p);
        dueText("plain", written(0, 0, 0), want.toPlainString(), p);
        dueText("powered", written(1, 0, 0), powered(want, want.precision()), p);
        x.set(1, format, p | SIGN[format]);
        x.write(1, 1, 0, 0);
        dueText("minus", text(), "-" + powered(want, want.precision()), p);
    }

    /** Of all decimals with as many figures in the decades about it, those that lead back. */
    private static BigDecimal shortest(int format, long p) {
        BigDecimal exact = value(format, p);
        int top = exact.precision() - exact.scale() - 1;
        for (int n = 1; n < 20; n++) {
            BigDecimal best = null;
            for (int decade = top - 1; decade <= top + 1; decade++) {
                BigDecimal unit = BigDecimal.ONE.scaleByPowerOfTen(decade - n + 1);
                BigDecimal base = exact.setScale(n - 1 - decade, RoundingMode.DOWN);
                for (int j = -1; j <= 2; j++) {
                    BigDecimal found = base.add(unit.multiply(BigDecimal.valueOf(j)));
                    if (found.signum() > 0 && leadsBack(format, p, found)) {
                        best = better(exact, best, found.stripTrailingZeros());
                    }
                }
            }
            if (best != null) {
                return best;
            }
        }
        throw new IllegalStateException();
    }

    private static BigDecimal better(BigDecimal exact, BigDecimal a, BigDecimal b) {
        if (a == null) {
            return b;
        }
        if (a.precision() != b.precision()) {
            return a.precision() < b.precision() ? a : b;
        }
        int order = a.subtract(exact).abs().compareTo(b.subtract(exact).abs());
        return order < 0 || order == 0 && a.compareTo(b) < 0 ? a : b;
    }

    private static boolean leadsBack(int format, long p, BigDecimal v) {
        if (format == FLOAT) {
            return Float.floatToIntBits(Float.parseFloat(v.toString())) == p;
        }
        return Double.doubleToLongBits(Double.parseDouble(v.toString())) == p;
    }

    private static String powered(BigDecimal v, int figures) {
        StringBuilder all = new StringBuilder(v.unscaledValue().abs().toString());
        int power = all.length() - v.scale() - 1;
        while (all.length() < figures) {
            all.append('0');
        }
        all.setLength(figures);
        if (figures > 1) {
            all.insert(1, '.');
        }
        return all.append('e').append(power).toString();
    }

    private static void figures() {
        for (int i = 0; i < 30000; i++) {
            int format = random.nextInt(2);
            long p = i % 3 != 0 ? withPower(format, random.nextInt(60) - 30) : somePattern(format);
            double a = asDouble(format, p);
            if (!isFinite(a) || a == 0) {
                continue;
            }
            int way = random.nextInt(4);
            int n = random.nextInt(4) == 0 ? random.nextInt(61) : random.nextInt(12);
            String minus = a < 0 ? "-" : "";
            BigDecimal exact = new BigDecimal(a);
            put(0, format, p);
            dueText("fixed " + n + " way " + way, written(2, n, way), minus + exact.setScale(n, MODES[way]).abs().toPlainString(), p);
            n = Math.max(n, 1);
            BigDecimal cut = exact.round(new MathContext(n, MODES[way]));
            dueText("rounded " + n + " way " + way, written(3, n, way), minus + powered(cut, n), p);
        }
    }

    private static void exactAndSixteens() {
        for (int i = 0; i < 10000; i++) {
            int format = random.nextInt(2);
            long p = somePattern(format);
            double a = asDouble(format, p);
            if (!isFinite(a) || a == 0) {
                continue;
            }
            put(0, format, p);
            dueText("exact", written(5, 0, 0), new BigDecimal(a).stripTrailingZeros().toPlainString(), p);
            String sixteens = written(4, 0, 0);
            dueText("sixteens", "" + Double.parseDouble(sixteens), "" + a, p);
            dueText("sixteens", sixteens, sixteens(a), p);
            for (int form = 0; form < 6; form++) {
                if (form == 2 || form == 3) {
                    continue;
                }
                dueReadBack(format, p, form);
            }
        }
    }

    private static String sixteens(double a) {
        double size = Math.abs(a);
        int power = Math.getExponent(size);
        if (size < Double.MIN_NORMAL) {
            power = 63 - Long.numberOfLeadingZeros(Double.doubleToLongBits(size)) - 1074;
            size = Math.scalb(size, 600);
            size = Math.scalb(size, -power - 600);
        } else {
            size = Math.scalb(size, -power);
        }
        String shown = Double.toHexString(size).replace(".0p0", "p0").replace("p0", "");
        return (a < 0 ? "-" : "") + shown + "p" + power;
    }

    private static void dueReadBack(int format, long p, int form) {
        FigurePress y = new FigurePress();
        y.set(0, format, p);
        int length = y.write(0, form, 0, 0);
        for (int i = 0; i < length; i++) {
            y.feed(y.letter(i), 1);
        }
        due("read back " + form, y.read(1, format, NEAREST), 0, p, 0, 0);
        due("read back " + form, y.pattern(1), p, p, 0, 0);
    }

    // ---- reading

    private static void readings() {
        for (int i = 0; i < 12000; i++) {
            int figures = 1 + random.nextInt(random.nextInt(10) == 0 ? 1100 : 40);
            StringBuilder text = new StringBuilder();
            int point = random.nextInt(figures + 1);
            for (int j = 0; j < figures; j++) {
                if (j == point) {
                    text.append('.');
                }
                text.append((char) ('0' + (random.nextInt(3) == 0 ? 0 : random.nextInt(10))));
            }
            if (random.nextInt(4) != 0) {
                int spread = random.nextInt(3) == 0 ? 400 : 30;
                int power = random.nextInt(2 * spread + 1) - spread - (random.nextBoolean() ? point : 0);
                text.append('e').append(power);
            }
            dueValue((random.nextBoolean() ? "-" : "") + text, random.nextInt(2), random.nextInt(4));
        }
    }

    /** Texts upon and close beside the middle of two numbers. */
    private static void halves() {
        for (int i = 0; i < 4000; i++) {
            int format = random.nextInt(2);
            long p = somePattern(format) & ~SIGN[format];
            if (p >= ENDLESS[format]) {
                continue;
            }
            BigDecimal above = p + 1 == ENDLESS[format] ? BEYOND[format] : value(format, p + 1);
            BigDecimal middle = value(format, p).add(above).divide(TWO).stripTrailingZeros();
            BigDecimal bit = middle.ulp().scaleByPowerOfTen(-20);
            String sign = random.nextBoolean() ? "-" : "";
            for (int way = 0; way < 4; way++) {
                dueValue(sign + middle.toString().replace("E", "e"), format, way);
                dueValue(sign + middle.add(bit).toString().replace("E", "e"), format, way);
                dueValue(sign + middle.subtract(bit).toString().replace("E", "e"), format, way);
            }
        }
    }

    private static void dueValue(String text, int format, int way) {
        BigDecimal exact = new BigDecimal(text);
        boolean minus = text.charAt(0) == '-';
        long want = exact.signum() == 0 ? (minus ? SIGN[format] : 0) : rounded(format, minus, of(exact), way);
        dueRead(text, format, way, want);
    }

    private static void dueRead(String text, int format, int way, long want) {
        FigurePress y = new FigurePress();
        feed(y, text);
        int answer = y.read(0, format, way);
        checks++;
        if (answer != 0 || y.pattern(0) != want) {
            wrong++;
            System.out.println("read " + text + " format " + format + " way " + way + ": " + answer + ", "
                + y.pattern(0) + ", due is " + want);
        }
    }

    private static void readingSixteens() {
        String all = "0123456789abcdef";
        for (int i = 0; i < 12000; i++) {
            int figures = 1 + random.nextInt(random.nextInt(20) == 0 ? 1100 : 24);
            StringBuilder text = new StringBuilder("0x");
            int point = random.nextInt(figures + 1);
            for (int j = 0; j < figures; j++) {
                text.append(j == point ? "." : "");
                text.append(all.charAt(random.nextInt(2) == 0 ? 0 : random.nextInt(16)));
            }
            BigInteger whole = new BigInteger(text.substring(2).replace(".", ""), 16);
            int power = random.nextInt(3) == 0 ? random.nextInt(2400) - 1200 : random.nextInt(60) - 30;
            boolean minus = random.nextBoolean();
            int format = random.nextInt(2);
            int way = random.nextInt(4);
            int two = power - 4 * (figures - point);
            BigDecimal exact = new BigDecimal(whole).multiply(two >= 0 ? TWO.pow(two) : BigDecimal.ONE);
            exact = two < 0 ? exact.multiply(new BigDecimal("0.5").pow(-two)) : exact;
            long want = whole.signum() == 0 ? (minus ? SIGN[format] : 0) : rounded(format, minus, of(exact), way);
            String shown = power == 0 && random.nextBoolean() ? "" : "p" + (power > 0 && random.nextBoolean() ? "+" : "") + power;
            dueRead((minus ? "-" : "") + text + shown, format, way, want);
        }
    }

    private static void wrongTexts() {
        Pattern grammar = Pattern.compile("[+-]?(inf|nan|0x([0-9a-f]+\\.?[0-9a-f]*|\\.[0-9a-f]+)(p[+-]?[0-9]{1,6})?"
            + "|([0-9]+\\.?[0-9]*|\\.[0-9]+)(e[+-]?[0-9]{1,6})?)");
        String[] parts = {"+", "-", "0", "1", "9", "00", "123456", "x", "0x", ".", "e", "p", "a", "f", "inf", "nan", "in", "na",
            "i", "n", "g", " ", "E", "\u00ff", "/", ":", "e+", "p-"};
        for (int i = 0; i < 200000; i++) {
            StringBuilder made = new StringBuilder();
            int count = random.nextInt(8);
            for (int j = 0; j < count; j++) {
                made.append(parts[random.nextInt(random.nextBoolean() ? 14 : parts.length)]);
            }
            String text = made.toString();
            FigurePress y = new FigurePress();
            feed(y, text);
            y.set(0, FLOAT, 5);
            int want = grammar.matcher(text).matches() ? 0 : -1 - wrongPlace(grammar, text);
            due("read " + text, y.read(0, DOUBLE, NEAREST), want, i, 0, 0);
            due("format after " + text, y.told(0, 0), want == 0 ? DOUBLE : FLOAT, i, 0, 0);
        }
    }

    private static int wrongPlace(Pattern grammar, String text) {
        for (int i = 0; i < text.length(); i++) {
            Matcher matcher = grammar.matcher(text.substring(0, i + 1));
            if (!matcher.matches() && !matcher.hitEnd()) {
                return i;
            }
        }
        return text.length();
    }

    // ---- the search for the rounded value

    private static long rounded(int format, boolean minus, Size v, int way) {
        long low = 0;
        long high = ENDLESS[format] + 1;
        while (high - low > 1) {
            long middle = low + (high - low) / 2;
            if (v.against(stepValue(format, middle)) >= 0) {
                low = middle;
            } else {
                high = middle;
            }
        }
        long found = low;
        if (low < ENDLESS[format] && v.against(stepValue(format, low)) != 0 && goesOn(format, low, minus, v, way)) {
            found++;
        }
        if (found == ENDLESS[format] && !(way == NEAREST || way == (minus ? DOWN : UP))) {
            found--;
        }
        return minus ? found | SIGN[format] : found;
    }

    private static boolean goesOn(int format, long low, boolean minus, Size v, int way) {
        if (way != NEAREST) {
            return way == (minus ? DOWN : UP);
        }
        int order = v.against(stepValue(format, low).add(stepValue(format, low + 1)).divide(TWO));
        return order > 0 || order == 0 && (low & 1) != 0;
    }

    private static BigDecimal stepValue(int format, long size) {
        return size == ENDLESS[format] ? BEYOND[format] : value(format, size);
    }

    private static Size of(BigDecimal v) {
        BigDecimal size = v.abs();
        return size::compareTo;
    }

    private static Size ratio(BigDecimal a, BigDecimal b) {
        return y -> a.compareTo(y.multiply(b));
    }

    private static long special(int format, double v) {
        if (Double.isNaN(v)) {
            return NONE[format];
        }
        return (v == 0 ? 0 : ENDLESS[format]) | (isMinus(v) ? SIGN[format] : 0);
    }

    // ---- helpers

    private static int[] someFormats() {
        return new int[] {random.nextInt(2), random.nextInt(2), random.nextInt(2)};
    }

    private static long somePattern(int format) {
        int places = format == FLOAT ? 23 : 52;
        int powers = format == FLOAT ? 255 : 2047;
        long sign = random.nextBoolean() ? SIGN[format] : 0;
        long fraction = random.nextLong() & (1L << places) - 1;
        switch (random.nextInt(8)) {
            case 0:
                fraction = 0;
                break;
            case 1:
                fraction = (1L << places) - 1 - random.nextInt(3);
                break;
            case 2:
                fraction = fraction >>> random.nextInt(places);
                break;
            case 3:
                fraction = random.nextInt(4);
                break;
            default:
                break;
        }
        long power = random.nextInt(powers);
        switch (random.nextInt(8)) {
            case 0:
                power = 0;
                break;
            case 1:
                power = random.nextInt(3);
                break;
            case 2:
                power = powers - random.nextInt(3);
                break;
            case 3:
            case 4:
                power = powers / 2 + random.nextInt(60) - 30;
                break;
            default:
                break;
        }
        return sign | power << places | fraction;
    }

    /** A pattern of about the same size, often with the other sign. */
    private static long near(int format, long p, int to) {
        double v = asDouble(format, p);
        v = random.nextInt(3) == 0 ? v : -v;
        long q = to == DOUBLE ? Double.doubleToRawLongBits(v) : Float.floatToRawIntBits((float) v) & 0xFFFFFFFFL;
        return (q + random.nextInt(5) - 2) & (to == FLOAT ? 0xFFFFFFFFL : -1);
    }

    private static double asDouble(int format, long p) {
        return format == FLOAT ? Float.intBitsToFloat((int) p) : Double.longBitsToDouble(p);
    }

    private static BigDecimal value(int format, long p) {
        return new BigDecimal(asDouble(format, p));
    }

    private static boolean isFinite(double v) {
        return !Double.isNaN(v) && !Double.isInfinite(v);
    }

    private static boolean isMinus(double v) {
        return v < 0 || v == 0 && 1 / v < 0;
    }

    private static void put(int r, int format, long pattern) {
        call();
        x.set(r, format, pattern);
    }

    /** An object is good for 512 calls, so a new one comes in time; places 0 to 3 go along. */
    private static void call() {
        calls++;
        if (calls % 60 == 0) {
            FigurePress y = new FigurePress();
            for (int p = 0; p < 4; p++) {
                y.set(p, x.told(p, 0), x.pattern(p));
            }
            x = y;
        }
    }

    private static void feed(FigurePress y, String text) {
        for (int i = 0; i < text.length(); i += 8) {
            long eight = random.nextLong();
            int n = Math.min(8, text.length() - i);
            for (int j = 0; j < n; j++) {
                eight &= ~(0xFFL << (8 * j));
                eight |= (long) text.charAt(i + j) << (8 * j);
            }
            y.feed(eight, n);
        }
    }

    private static String written(int form, int n, int way) {
        int length = x.write(0, form, n, way);
        String got = text();
        return got.length() == length ? got : "length " + length + " of " + got;
    }

    private static String text() {
        StringBuilder got = new StringBuilder();
        for (int i = 0; x.letter(i) >= 0; i++) {
            got.append((char) x.letter(i));
        }
        return got.toString();
    }

    private static void due(String name, long got, long want, long p, long q, int way) {
        checks++;
        if (got != want) {
            wrong++;
            System.out.println(name + " of " + p + ", " + q + " way " + way + ": " + got + ", due is " + want);
        }
    }

    private static void dueText(String name, String got, String want, long p) {
        checks++;
        if (!got.equals(want)) {
            wrong++;
            System.out.println(name + " of " + p + ": " + got + ", due is " + want);
        }
    }
}
