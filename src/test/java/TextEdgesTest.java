import java.math.BigDecimal;

/** The sentences on the tape and on the texts that are read: Terms 4, promises 17, 18. */
public final class TextEdgesTest extends Edges {
    private static final String TENS = "0123456789";
    private static final String SIXTEEN = TENS + "abcdef";
    private static final String[] SIGNS = {"", "+", "-"};

    public static void main(String[] args) {
        bytesOfEight();
        fullTape();
        emptyThen();
        emptyTape();
        signs();
        words();
        sixteens();
        powersOfTwo();
        tens();
        powersOfTen();
        noughtAndX();
        wrongBytes();
        wrongWithinWords();
        wrongAtTheFarEnd();
        wrongChangesNoPlace();
        longTexts();
        usedTapes();
        end();
    }

    // ---- promise 17

    private static void bytesOfEight() {
        sentence("The n lowest bytes of eight come to the tape, the lowest first: how many there are.");
        long[] wants = {1, 12, 123, 1234, 12345, 123456, 1234567, 12345678};
        for (int n = 1; n <= 8; n++) {
            FigurePress x = new FigurePress();
            due("feed of " + n, x.feed(0x3837363534333231L, n), n);
            due("read", x.read(0, DOUBLE, NEAREST), 0);
            due("value of " + n, x.pattern(0), bits(DOUBLE, wants[n - 1]));
        }
        FigurePress x = new FigurePress();
        due("one of -1", x.feed(0xFFFFFFFFFFFFFF37L, 1), 1);
        due("two more", x.feed(0x8000000000003534L, 2), 3);
        due("eight more", x.feed(0x3030303030302E36L, 8), 11);
        due("read", x.read(0, DOUBLE, NEAREST), 0);
        due("all of them", x.pattern(0), bits(DOUBLE, 7456));
        long[] ends = {Long.MIN_VALUE, Long.MAX_VALUE, -1, 0};
        for (long eight : ends) {
            x = new FigurePress();
            due("eight of " + eight, x.feed(eight, 8), 8);
            due("read", x.read(0, DOUBLE, NEAREST), -1);
        }
        x = new FigurePress();
        x.feed('1', 1);
        due("highest byte", x.feed(0x8000000000000000L | 0x00393837363534L << 8 | '2', 8), 9);
        due("byte 128 is at place 8", x.read(0, DOUBLE, NEAREST), -9);
        x.feed('1' | 0xB1 << 8, 2);
        due("a byte above 127 is no figure", x.read(0, DOUBLE, NEAREST), -2);
    }

    private static void fullTape() {
        sentence("IllegalArgumentException: n isn't 1 .. 8, or there would be more than 1200.");
        for (int n = 1; n <= 8; n++) {
            int told = n;
            FigurePress x = new FigurePress();
            feed(x, "0".repeat(1200 - n));
            due("just full with " + n, x.feed(0x3730303030303030L >>> 8 * (8 - n), n), 1200);
            for (int more = 1; more <= 8; more++) {
                int count = more;
                dueArgument("feed of " + more + " to a full tape", () -> x.feed(0x3939393939393939L, count));
            }
            due("read", x.read(0, DOUBLE, NEAREST), 0);
            due("all 1200 bytes", x.pattern(0), bits(DOUBLE, 7));
            FigurePress y = new FigurePress();
            feed(y, "0".repeat(1201 - n));
            dueArgument("one byte too many with " + n, () -> y.feed(0x3939393939393939L, told));
            if (n > 1) {
                due("room for less", y.feed(0x3030303030303030L, n - 1), 1200);
            }
            due("read", y.read(0, DOUBLE, NEAREST), 0);
        }
        for (int n : new int[] {0, 9, -1, 10, Integer.MIN_VALUE, Integer.MAX_VALUE}) {
            FigurePress x = new FigurePress();
            dueArgument("feed of " + n, () -> x.feed('9', n));
            due("bytes then", x.feed('1', 1), 1);
        }
    }

    // ---- promise 18

    private static void emptyThen() {
        sentence("The tape (empty then) is read: 0, and place r becomes its value rounded to a format;");
        for (String text : new String[] {"1", "0".repeat(1200), "x", "1e", "", "nan", "inf", "2" + "?".repeat(1199)}) {
            FigurePress x = new FigurePress();
            feed(x, text);
            x.read(0, DOUBLE, NEAREST);
            due("bytes after " + shown(text), x.feed('8', 1), 1);
            due("read", x.read(0, FLOAT, NEAREST), 0);
            due("only what came since", x.pattern(0), bits(FLOAT, 8));
            for (int i = 1; i <= 150; i++) {
                due("room again", x.feed(0x3030303030303030L, 8), 8 * i);
            }
        }
        for (int r = 0; r < 16; r += 15) {
            for (int format = 0; format < 2; format++) {
                FigurePress x = new FigurePress();
                x.set(r, 1 - format, 77);
                feed(x, "-0.5");
                due("read", x.read(r, format, NEAREST), 0);
                due("value", x.pattern(r), bits(format, -0.5));
                due("format", x.told(r, 0), format);
            }
        }
    }

    private static void emptyTape() {
        sentence("or -1 less the place that is WRONG.");
        FigurePress x = with(DOUBLE, 77);
        due("no bytes", x.read(0, FLOAT, NEAREST), -1);
        due("no bytes again", x.read(0, FLOAT, NEAREST), -1);
        due("place", x.pattern(0), 77);
        due("its format", x.told(0, 0), DOUBLE);
        dueWrong("x", 0);
        dueWrong("1x", 1);
        dueWrong("+", 1);
    }

    private static void signs() {
        sentence("TEXTS that are read: a + or - or none;");
        dueRead("1.5", 1.5);
        dueRead("+1.5", 1.5);
        dueRead("-1.5", -1.5);
        dueRead("0", 0.0);
        dueRead("+0", 0.0);
        dueRead("-0", -0.0);
        dueRead("0x1", 1);
        dueRead("+0x1", 1);
        dueRead("-0x1", -1);
        dueRead("-0x0", -0.0);
        for (String twice : new String[] {"++1", "--1", "+-1", "-+1", "+-inf", "-+nan", "--0x1"}) {
            dueWrong(twice, 1);
        }
    }

    private static void words() {
        sentence("then inf; or nan;");
        for (int format = 0; format < 2; format++) {
            for (int way = 0; way < 4; way++) {
                due("inf", read("inf", format, way), ENDLESS[format]);
                due("+inf", read("+inf", format, way), ENDLESS[format]);
                due("-inf", read("-inf", format, way), minus(format, ENDLESS[format]));
                for (String sign : SIGNS) {
                    due(sign + "nan", read(sign + "nan", format, way), NONE[format]);
                }
            }
        }
    }

    private static void sixteens() {
        sentence("or 0x, figures of sixteen (a .. f, small) with at most one point among, ahead of or behind them, "
            + "one figure at least,");
        for (int i = 0; i < 16; i++) {
            char figure = SIXTEEN.charAt(i);
            dueRead("0x" + figure, i);
            dueRead("0x" + figure + ".", i);
            dueRead("0x." + figure, i / 16.0);
            dueRead("0x" + figure + "." + figure, i * 17 / 16.0);
        }
        dueRead("0x00ff", 255);
        dueRead("0xf.f0", 15.9375);
        dueRead("0x.00ff", 255 / 65536.0);
        for (char capital = 'A'; capital <= 'F'; capital++) {
            dueWrong("0x" + capital, 2);
            dueWrong("0x1" + capital, 3);
        }
        dueWrong("0xg", 2);
        dueWrong("0x1..", 4);
        dueWrong("0x.1.", 4);
        dueWrong("0x..1", 3);
        dueWrong("0x", 2);
        dueWrong("0x.", 3);
        dueWrong("0xp1", 2);
        dueWrong("0x.p1", 3);
    }

    private static void powersOfTwo() {
        sentence("perhaps p, a + or - or none, and one to six figures (a power of two);");
        dueRead("0x1p0", 1);
        dueRead("0x1p9", 512);
        dueRead("0x1p10", 1024);
        dueRead("0x1p+10", 1024);
        dueRead("0x1p-10", 1 / 1024.0);
        dueRead("0x1p000010", 1024);
        dueRead("0x1p+000010", 1024);
        dueRead("0x1p-000010", 1 / 1024.0);
        dueRead("0x1p-0", 1);
        dueRead("0x1p-000000", 1);
        dueRead("0x1p999999", INF);
        dueRead("0x1p-999999", 0.0);
        dueRead("-0x1p-999999", -0.0);
        dueRead("0x.8p1", 1);
        dueRead("0x1e1", 481);
        dueRead("0x1e1p1", 962);
        dueRead("0x" + "0".repeat(1189) + "1p-1074", Double.MIN_VALUE);
        dueRead("0x." + "0".repeat(1187) + "1p4752", 1);
        dueWrong("0x1p", 4);
        dueWrong("0x1p+", 5);
        dueWrong("0x1p0000010", 10);
        dueWrong("0x1p-0000010", 11);
        dueWrong("0x1p1.", 5);
        dueWrong("0x1p1p1", 5);
        dueWrong("0x1pa", 4);
        dueWrong("0x1p--1", 5);
    }

    private static void tens() {
        sentence("or figures 0 .. 9 likewise,");
        for (int i = 0; i < 10; i++) {
            dueRead("" + i, i);
            dueRead(i + ".", i);
            dueRead("." + i, i / 10.0);
            dueRead(i + "." + i, i * 11 / 10.0);
        }
        dueRead("007", 7);
        dueRead("7.00", 7);
        dueRead("00.50", 0.5);
        dueWrong(".", 1);
        dueWrong("..", 1);
        dueWrong("1..", 2);
        dueWrong(".1.", 2);
        dueWrong("1.2.3", 3);
        dueWrong("a", 0);
        dueWrong("1a", 1);
        dueWrong("1f", 1);
    }

    private static void powersOfTen() {
        sentence("perhaps e and so on (a power of ten).");
        dueRead("1e0", 1);
        dueRead("1e9", 1e9);
        dueRead("1e+9", 1e9);
        dueRead("1e-9", 1e-9);
        dueRead("1e000022", 1e22);
        dueRead("1e+000022", 1e22);
        dueRead("1e-000022", 1e-22);
        dueRead("1.e1", 10);
        dueRead(".1e1", 1);
        dueRead("1e-0", 1);
        dueRead("1e999999", INF);
        dueRead("-1e999999", -INF);
        dueRead("1e-999999", 0.0);
        dueRead("-1e-999999", -0.0);
        dueRead("0." + "0".repeat(1189) + "1e1190", 1);
        dueRead("1" + "0".repeat(1190) + "e-1190", 1);
        dueRead("1" + "0".repeat(1190) + "e-1513", Double.MIN_VALUE * 2);
        dueWrong("1e", 2);
        dueWrong("1e-", 3);
        dueWrong("1e0000022", 8);
        dueWrong("1e-0000022", 9);
        dueWrong("1e1.", 3);
        dueWrong("1e1e1", 3);
        dueWrong("1ea", 2);
        dueWrong("1e++1", 3);
        dueWrong("1E1", 1);
        dueWrong("1p1", 1);
        dueWrong(".e1", 1);
        dueWrong("e1", 0);
    }

    private static void noughtAndX() {
        sentence("(After 0 an x makes it sixteens.)");
        dueRead("0", 0.0);
        dueRead("0x10", 16);
        dueRead("0e1", 0.0);
        dueRead("0xe1", 225);
        dueWrong("00x1", 2);
        dueWrong("1x1", 1);
        dueWrong("0.x1", 2);
        dueWrong(".0x1", 2);
        dueWrong("x1", 0);
        dueWrong("0X1", 1);
        dueWrong("0x0x1", 3);
        dueWrong("0xx", 2);
        dueWrong("0x-1", 2);
    }

    // ---- what is WRONG

    /** Behind each of these each byte is tried; those told end a text, or let it go on, all others are WRONG. */
    private static void wrongBytes() {
        sentence("WRONG is the first byte that can't be there, the length if it ends too soon.");
        dueNext("", TENS, "+-in.", false);
        dueNext("+", TENS, "in.", false);
        dueNext("-", TENS, "in.", false);
        for (String sign : SIGNS) {
            dueNext(sign + "0", TENS + ".", "ex", true);
            dueNext(sign + "7", TENS + ".", "e", true);
            dueNext(sign + "00", TENS + ".", "e", true);
            dueNext(sign + ".", TENS, "", false);
            dueNext(sign + "0.", TENS, "e", true);
            dueNext(sign + ".5", TENS, "e", true);
            dueNext(sign + "1.5", TENS, "e", true);
            dueNext(sign + "1e", TENS, "+-", false);
            dueNext(sign + "1.e", TENS, "+-", false);
            dueNext(sign + "1e+", TENS, "", false);
            dueNext(sign + "1e-", TENS, "", false);
            dueNext(sign + "1e0", TENS, "", true);
            dueNext(sign + "1e-12345", TENS, "", true);
            dueNext(sign + "1e123456", "", "", true);
            dueNext(sign + "1e-123456", "", "", true);
            dueNext(sign + "0x", SIXTEEN, ".", false);
            dueNext(sign + "0x.", SIXTEEN, "", false);
            dueNext(sign + "0xa", SIXTEEN + ".", "p", true);
            dueNext(sign + "0x0", SIXTEEN + ".", "p", true);
            dueNext(sign + "0xa.", SIXTEEN, "p", true);
            dueNext(sign + "0x.a", SIXTEEN, "p", true);
            dueNext(sign + "0x1.a", SIXTEEN, "p", true);
            dueNext(sign + "0x1p", TENS, "+-", false);
            dueNext(sign + "0x.1p", TENS, "+-", false);
            dueNext(sign + "0x1p+", TENS, "", false);
            dueNext(sign + "0x1p-", TENS, "", false);
            dueNext(sign + "0x1p0", TENS, "", true);
            dueNext(sign + "0x1p+12345", TENS, "", true);
            dueNext(sign + "0x1p123456", "", "", true);
            dueNext(sign + "0x1p-123456", "", "", true);
        }
    }

    private static void wrongWithinWords() {
        sentence("WRONG is the first byte that can't be there, the length if it ends too soon.");
        for (String sign : SIGNS) {
            dueNext(sign + "i", "", "n", false);
            dueNext(sign + "in", "f", "", false);
            dueNext(sign + "inf", "", "", true);
            dueNext(sign + "n", "", "a", false);
            dueNext(sign + "na", "n", "", false);
            dueNext(sign + "nan", "", "", true);
        }
        dueWrong("infinity", 3);
        dueWrong("nanf", 3);
        dueWrong("inan", 2);
        dueWrong("naf", 2);
        // the first one counts, not a later one
        dueWrong("i?f?", 1);
        dueWrong("1e?.?", 2);
        dueWrong("?1?", 0);
        dueWrong("\0", 0);
        dueWrong("1\0", 1);
    }

    private static void dueNext(String begun, String ending, String open, boolean whole) {
        FigurePress alone = new FigurePress();
        feed(alone, begun);
        due("'" + begun + "' alone", alone.read(0, DOUBLE, NEAREST), whole ? 0 : -1 - begun.length());
        for (int next = 0; next < 256; next++) {
            int want = -1 - begun.length();
            if (ending.indexOf(next) >= 0) {
                want = 0;
            } else if (open.indexOf(next) >= 0) {
                want = -2 - begun.length();
            }
            FigurePress x = new FigurePress();
            feed(x, begun);
            x.feed(next, 1);
            due("'" + begun + "' and byte " + next, x.read(0, DOUBLE, NEAREST), want);
            if (want == -1 - begun.length()) {
                feed(x, begun);
                x.feed(next, 1);
                x.feed('1', 1);
                due("'" + begun + "', byte " + next + " and more", x.read(0, DOUBLE, NEAREST), want);
            }
        }
    }

    private static void wrongAtTheFarEnd() {
        sentence("or -1 less the place that is WRONG.");
        dueWrong("0".repeat(1199) + "x", 1199);
        dueWrong("0".repeat(1199) + "e", 1200);
        dueWrong("0".repeat(1198) + "e+", 1200);
        dueWrong("0x" + "f".repeat(1197) + "p", 1200);
        dueWrong("0x" + "f".repeat(1197) + "g", 1199);
        dueWrong("?".repeat(1200), 0);
        dueWrong("." + "0".repeat(1198) + ".", 1199);
        dueWrong("-." + "0".repeat(1197) + "x", 1199);
        dueWrong("0".repeat(1192) + "e1234567", 1199);
    }

    private static void wrongChangesNoPlace() {
        sentence("or -1 less the place that is WRONG.");
        for (int format = 0; format < 2; format++) {
            for (String text : new String[] {"", "1x", "1e", "infx", "na", "0x", "?"}) {
                FigurePress x = with(1 - format, 77);
                x.write(0, SIXTEENS, 0, NEAREST);
                int first = x.letter(2);
                feed(x, text);
                due("answer is below 0", x.read(0, format, NEAREST) < 0 ? 1 : 0, 1);
                due("pattern", x.pattern(0), 77);
                due("format", x.told(0, 0), 1 - format);
                due("what is written", x.letter(2), first);
            }
        }
    }

    private static void longTexts() {
        sentence("The tape (empty then) is read: 0, and place r becomes its value rounded to a format;");
        dueRead("9".repeat(1200), INF);
        due("9s down", read("9".repeat(1200), DOUBLE, DOWN), GREATEST[DOUBLE]);
        due("9s behind the point", read("." + "9".repeat(1199), DOUBLE, DOWN), ONE[DOUBLE] - 1);
        due("9s behind the point", read("." + "9".repeat(1199), DOUBLE, NEAREST), ONE[DOUBLE]);
        due("fs down", read("0x" + "f".repeat(1198), FLOAT, DOWN), GREATEST[FLOAT]);
        due("fs behind the point", read("0x." + "f".repeat(1197), DOUBLE, DOWN), ONE[DOUBLE] - 1);
        due("0s and 1", read("0." + "0".repeat(1197) + "1", DOUBLE, UP), LEAST);
        due("-0s and 1", read("-0." + "0".repeat(1196) + "1", DOUBLE, UP), SIGN[DOUBLE]);
        due("0s and 1 to the other side", read("-0." + "0".repeat(1196) + "1", DOUBLE, DOWN), minus(DOUBLE, LEAST));
        due("a last figure above 1", read("1." + "0".repeat(1197) + "1", DOUBLE, UP), ONE[DOUBLE] + 1);
        due("a last figure of sixteen above 1", read("0x1." + "0".repeat(1195) + "1", DOUBLE, UP), ONE[DOUBLE] + 1);
        for (int format = 0; format < 2; format++) {
            long[] sizes = {0, LEAST, LEAST_FULL[format] - 1, LEAST_FULL[format], ONE[format], ONE[format] + 1};
            for (long size : sizes) {
                dueMiddle(format, size);
            }
        }
    }

    /** The middle of two numbers, and what one figure more or less at the far end makes of it. */
    private static void dueMiddle(int format, long size) {
        BigDecimal below = new BigDecimal(format == DOUBLE ? Double.longBitsToDouble(size) : Float.intBitsToFloat((int) size));
        BigDecimal above = new BigDecimal(
            format == DOUBLE ? Double.longBitsToDouble(size + 1) : Float.intBitsToFloat((int) size + 1));
        BigDecimal middle = below.add(above).divide(new BigDecimal(2));
        String text = middle.toPlainString();
        String filled = text + "0".repeat(1199 - text.length());
        BigDecimal bit = BigDecimal.ONE.scaleByPowerOfTen(-1190);
        long even = (size & 1) == 0 ? size : size + 1;
        due("middle above " + size, read(text, format, NEAREST), even);
        due("middle with 0s above " + size, read(filled, format, NEAREST), even);
        due("a bit beyond the middle above " + size, read(filled + "1", format, NEAREST), size + 1);
        due("a bit beneath the middle above " + size, read(middle.subtract(bit).toPlainString(), format, NEAREST), size);
    }

    /** Whatever an object has read before, it reads as a new one does. */
    private static void usedTapes() {
        sentence("The tape (empty then) is read: 0, and place r becomes its value rounded to a format;");
        String[] texts = {"7", "-7", "1e5", "1e-5", "1.25", ".5", "0x1", "0x1.8p4", "-0xap-3", "0", "-0", "inf", "-inf", "nan",
            "1".repeat(300), "5e300", "5e-300", "0." + "0".repeat(300) + "5", "", "-", "in", "na", "1e", "1e+", "0x", "0x1p", ".",
            "1x", "0xg", "e5", "1.5.", "12345678901234567890"};
        for (String first : texts) {
            for (String second : texts) {
                FigurePress x = new FigurePress();
                feed(x, first);
                x.read(1, DOUBLE, UP);
                feed(x, second);
                FigurePress y = new FigurePress();
                feed(y, second);
                String what = "'" + shown(second) + "' after '" + shown(first) + "'";
                due(what, x.read(0, DOUBLE, NEAREST), y.read(0, DOUBLE, NEAREST));
                due("value of " + what, x.pattern(0), y.pattern(0));
            }
        }
    }

    // ---- helpers

    private static long read(String text, int format, int way) {
        FigurePress x = with(1 - format, 77);
        feed(x, text);
        due("read " + shown(text), x.read(0, format, way), 0);
        due("format of " + shown(text), x.told(0, 0), format);
        return x.pattern(0);
    }

    private static void dueRead(String text, double want) {
        due("value of " + shown(text), read(text, DOUBLE, NEAREST), bits(DOUBLE, want));
        due("value of " + shown(text), read(text, FLOAT, NEAREST), bits(FLOAT, want));
    }

    private static void dueWrong(String text, int place) {
        FigurePress x = new FigurePress();
        feed(x, text);
        due("what is WRONG in " + shown(text), x.read(0, DOUBLE, NEAREST), -1 - place);
        due("bytes after " + shown(text), x.feed('0', 1), 1);
    }
}
