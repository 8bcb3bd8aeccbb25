/** The sentences on places, formats, values and patterns, order and step: Terms 1, promises 1 to 5, 9, 10. */
public final class ValueEdgesTest extends Edges {
    private static final int[] MOST_POWER = {255, 2047};

    public static void main(String[] args) {
        newObject();
        places();
        lastCalls();
        set();
        pattern();
        formats();
        bounds();
        patterns();
        kinds();
        signs();
        powers();
        whole();
        oneAfterAnother();
        orderOfNumbers();
        orderOfOthers();
        stepsAtNought();
        stepsBetween();
        stepsAtTheEnd();
        end();
    }

    // ---- promises 1 to 3

    private static void newObject() {
        sentence("All places FLOAT with the pattern 0; no bytes, nothing written.");
        FigurePress x = new FigurePress();
        for (int p = 0; p < 16; p++) {
            due("format at " + p, x.told(p, 0), FLOAT);
            due("pattern at " + p, x.pattern(p), 0);
        }
        due("first letter", x.letter(0), -1);
        due("a read of no bytes", x.read(0, DOUBLE, NEAREST), -1);
        due("bytes with the first one", new FigurePress().feed('1', 1), 1);
    }

    private static void places() {
        sentence("PLACES 0 .. 15 have a value each, in a format; at first all FLOAT with the pattern 0.");
        FigurePress x = new FigurePress();
        for (int p = 0; p < 16; p++) {
            x.set(p, p & 1, 1000 + p);
            for (int q = 0; q < 16; q++) {
                due("format at " + q + " after " + p, x.told(q, 0), q <= p ? q & 1 : FLOAT);
                due("pattern at " + q + " after " + p, x.pattern(q), q <= p ? 1000 + q : 0);
            }
            x = p == 7 ? copied(x) : x;
        }
    }

    /** As an object is good for 512 calls only. */
    private static FigurePress copied(FigurePress x) {
        FigurePress y = new FigurePress();
        for (int p = 0; p < 16; p++) {
            y.set(p, x.told(p, 0), x.pattern(p));
        }
        return y;
    }

    private static void lastCalls() {
        sentence("An object is used for at most 512 calls after it has been made");
        FigurePress x = new FigurePress();
        x.set(0, DOUBLE, minus(DOUBLE, LEAST_FULL[DOUBLE] - 1));
        for (int i = 1; i < 510; i++) {
            due("length at call " + i, x.write(0, EXACT, 0, NEAREST), 1077);
        }
        due("call 511", x.letter(1076), '5');
        due("call 512", x.letter(1077), -1);
        x = new FigurePress();
        for (int i = 0; i < 256; i++) {
            due("bytes", x.feed('7', 1), 1);
            due("read", x.read(0, FLOAT, NEAREST), 0);
        }
    }

    private static void set() {
        sentence("Place r has a format and a pattern (of FLOAT the lowest 32 bits) from now on.");
        long[] patterns = {0, 1, -1, Long.MIN_VALUE, Long.MAX_VALUE, 0x80000000L, 0xFFFFFFFFL, 0x100000000L,
            0xABCDEF0187654321L};
        for (long pattern : patterns) {
            for (int r = 0; r < 16; r += 15) {
                FigurePress x = new FigurePress();
                x.set(r, DOUBLE, pattern);
                due("format", x.told(r, 0), DOUBLE);
                due("all bits", x.pattern(r), pattern);
                x.set(r, FLOAT, pattern);
                due("format", x.told(r, 0), FLOAT);
                due("lowest bits", x.pattern(r), pattern & 0xFFFFFFFFL);
                x.set(r, DOUBLE, ~pattern);
                due("format again", x.told(r, 0), DOUBLE);
                due("all bits again", x.pattern(r), ~pattern);
            }
        }
    }

    private static void pattern() {
        sentence("The pattern at p (of FLOAT 0 .. 2 to the 32nd less 1).");
        due("least", with(FLOAT, 0).pattern(0), 0);
        due("greatest", with(FLOAT, -1).pattern(0), 4294967295L);
        due("only a sign", with(FLOAT, Long.MIN_VALUE | 0x80000000L).pattern(0), 2147483648L);
        FigurePress x = with(FLOAT, minus(FLOAT, ONE[FLOAT]));
        x.add(0, 0, 1, NEAREST);
        due("of a result below 0", x.pattern(1), 0xC0000000L);
        x.from(2, FLOAT, Long.MIN_VALUE, NEAREST);
        due("of the least long", x.pattern(2), 0xDF000000L);
        x.convert(0, 3, DOUBLE, NEAREST);
        x.convert(3, 4, FLOAT, NEAREST);
        due("of a conversion", x.pattern(4), 0xBF800000L);
        x.step(5, false);
        due("of a step below nought", x.pattern(5), 0x80000001L);
        feed(x, "-inf");
        x.read(6, FLOAT, NEAREST);
        due("of a text", x.pattern(6), 0xFF800000L);
    }

    // ---- Terms 1

    private static void formats() {
        sentence("0 FLOAT: 32 bits, P = 24, L = -149, U = 104.");
        dueParts(FLOAT, 0x00000001L, 1, -149);
        dueParts(FLOAT, 0x00800000L, 1L << 23, -149);
        dueParts(FLOAT, 0x7F7FFFFFL, (1L << 24) - 1, 104);
        sentence("1 DOUBLE: 64 bits, P = 53, L = -1074, U = 971.");
        dueParts(DOUBLE, 0x0000000000000001L, 1, -1074);
        dueParts(DOUBLE, 0x0010000000000000L, 1L << 52, -1074);
        dueParts(DOUBLE, 0x7FEFFFFFFFFFFFFFL, (1L << 53) - 1, 971);
    }

    private static void dueParts(int format, long pattern, long m, int e) {
        FigurePress x = with(format, pattern);
        due("m of " + pattern, x.whole(0), m);
        due("e of " + pattern, x.told(0, 3), e);
        x.set(0, format, minus(format, pattern));
        due("m of minus " + pattern, x.whole(0), m);
        due("e of minus " + pattern, x.told(0, 3), e);
    }

    private static void bounds() {
        sentence("A VALUE has a sign and is a NUMBER m times 2 to the e, where L is at most e, e at most U, "
            + "and m below 2 to the P, and not below 2 to the P - 1 unless e is L");
        for (int format = 0; format < 2; format++) {
            int places = PRECISION[format] - 1;
            for (long power = 0; power < MOST_POWER[format]; power++) {
                FigurePress x = with(format, power << places);
                due("least m of the power " + power, x.whole(0), power == 0 ? 0 : 1L << places);
                x.set(0, format, (power + 1 << places) - 1);
                due("greatest m of the power " + power, x.whole(0), (power == 0 ? 1L << places : 2L << places) - 1);
                int e = x.told(0, 3);
                due("e of the power " + power, e >= LOWEST[format] && e <= HIGHEST[format] ? 1 : 0, 1);
            }
        }
    }

    private static void patterns() {
        for (int format = 0; format < 2; format++) {
            int places = PRECISION[format] - 1;
            long most = (1L << places) - 1;
            sentence("PATTERNS: the highest bit is the sign (1 is minus); the next 8 (of DOUBLE 11) bits a number E, "
                + "the others f");
            due("highest bit alone", with(format, SIGN[format]).told(0, 2), 1);
            due("all but the highest bit", with(format, SIGN[format] - 1).told(0, 2), 0);
            due("lowest bit of E", with(format, 1L << places).told(0, 1), 2);
            due("highest bit of E", with(format, 1L << places + (format == FLOAT ? 7 : 10)).told(0, 3),
                LOWEST[format] - 1 + (format == FLOAT ? 128 : 1024));
            due("highest bit of f", with(format, 1L << places - 1).whole(0), 1L << places - 1);
            sentence("E 0: m is f, e is L");
            dueParts(format, 0, 0, LOWEST[format]);
            dueParts(format, 1, 1, LOWEST[format]);
            dueParts(format, most, most, LOWEST[format]);
            sentence("E 1 to 254 (2046): m is f and 2 to the P - 1, e is L - 1 + E");
            for (int power = 1; power < MOST_POWER[format]; power++) {
                int e = LOWEST[format] - 1 + power;
                dueParts(format, (long) power << places, 1L << places, e);
                dueParts(format, (long) power << places | 1, 1L << places | 1, e);
                dueParts(format, (long) power << places | most, 1L << places | most, e);
            }
            sentence("E 255 (2047): ENDLESS if f is 0, else NONE.");
            due("f is 0", with(format, ENDLESS[format]).told(0, 1), 3);
            due("f is 0, minus", with(format, minus(format, ENDLESS[format])).told(0, 1), 3);
            due("f is 1", with(format, ENDLESS[format] + 1).told(0, 1), 4);
            due("f is 1, minus", with(format, minus(format, ENDLESS[format] + 1)).told(0, 1), 4);
            due("highest bit of f", with(format, NONE[format]).told(0, 1), 4);
            due("all bits", with(format, -1).told(0, 1), 4);
            due("E one less, f is all", with(format, GREATEST[format]).told(0, 1), 2);
        }
    }

    // ---- promises 4, 5

    private static void kinds() {
        for (int format = 0; format < 2; format++) {
            sentence("Of p: 0 its format;");
            due("format of NONE", with(format, -1).told(0, 0), format);
            due("format of nought", with(format, 0).told(0, 0), format);
            sentence("1 its kind: 0 nought, 1 a number with m below 2 to the P - 1, 2 another one, 3 ENDLESS, 4 NONE;");
            long[] patterns = {0, 1, LEAST_FULL[format] - 1, LEAST_FULL[format], LEAST_FULL[format] + 1, ONE[format],
                GREATEST[format], ENDLESS[format], ENDLESS[format] + 1, NONE[format], SIGN[format] - 1};
            int[] kinds = {0, 1, 1, 2, 2, 2, 2, 3, 4, 4, 4};
            for (int i = 0; i < patterns.length; i++) {
                due("kind of " + patterns[i], with(format, patterns[i]).told(0, 1), kinds[i]);
                due("kind of minus " + patterns[i], with(format, minus(format, patterns[i])).told(0, 1), kinds[i]);
            }
        }
    }

    private static void signs() {
        for (int format = 0; format < 2; format++) {
            sentence("2 its sign's bit;");
            for (long pattern : new long[] {1, ONE[format], GREATEST[format]}) {
                dueSign(format, pattern);
            }
            sentence("(m 0 is NOUGHT, which has a sign, too)");
            dueSign(format, 0);
            sentence("or ENDLESS with a sign; or NONE (no number).");
            dueSign(format, ENDLESS[format]);
            dueSign(format, ENDLESS[format] + 1);
            dueSign(format, NONE[format]);
        }
    }

    private static void dueSign(int format, long pattern) {
        due("sign of " + pattern, with(format, pattern).told(0, 2), 0);
        due("sign of minus " + pattern, with(format, minus(format, pattern)).told(0, 2), 1);
    }

    private static void powers() {
        sentence("3 its e (0 of 3 and 4).");
        for (int format = 0; format < 2; format++) {
            due("e of nought", with(format, 0).told(0, 3), LOWEST[format]);
            due("e of minus nought", with(format, SIGN[format]).told(0, 3), LOWEST[format]);
            due("e of the greatest", with(format, GREATEST[format]).told(0, 3), HIGHEST[format]);
            due("e of ENDLESS", with(format, ENDLESS[format]).told(0, 3), 0);
            due("e of minus ENDLESS", with(format, minus(format, ENDLESS[format])).told(0, 3), 0);
            due("e of NONE", with(format, NONE[format]).told(0, 3), 0);
            due("e of another NONE", with(format, -1).told(0, 3), 0);
        }
    }

    private static void whole() {
        sentence("Its m; 0 if it is no number.");
        for (int format = 0; format < 2; format++) {
            due("m of nought", with(format, SIGN[format]).whole(0), 0);
            due("m of the least", with(format, minus(format, LEAST)).whole(0), 1);
            due("m of the greatest", with(format, GREATEST[format]).whole(0), (1L << PRECISION[format]) - 1);
            due("m of ENDLESS", with(format, ENDLESS[format]).whole(0), 0);
            due("m of NONE", with(format, NONE[format]).whole(0), 0);
            due("m of another NONE", with(format, -1).whole(0), 0);
        }
    }

    /** Whatever value was told of before. */
    private static void oneAfterAnother() {
        for (int format = 0; format < 2; format++) {
            long[] patterns = {0, LEAST, LEAST_FULL[format], ONE[format], GREATEST[format], ENDLESS[format], NONE[format], -1};
            for (long first : patterns) {
                for (long second : patterns) {
                    FigurePress x = with(format, first);
                    x.set(1, format, second);
                    x.whole(0);
                    sentence("Its m; 0 if it is no number.");
                    due("m of " + second + " after " + first, x.whole(1), with(format, second).whole(0));
                    x.told(0, 3);
                    sentence("3 its e (0 of 3 and 4).");
                    due("e of " + second + " after " + first, x.told(1, 3), with(format, second).told(0, 3));
                }
            }
        }
    }

    // ---- promise 9

    private static void orderOfNumbers() {
        sentence("How p's and q's values stand, whatever their formats: -1 below, 0 the same (noughts are), 1 above;");
        double[] rising = {-INF, -0x1.fffffffffffffp1023, -0x1.ffffff0000001p127, -0x1.fffffep127, -1, -0x1p-126,
            -0x1.0000000000001p-149, -0x1p-149, -0x1.fffffffffffffp-150, -0x1p-1022, -0x1p-1074, 0, 0x1p-1074, 0x1p-1022,
            0x1.fffffffffffffp-150, 0x1p-149, 0x1.0000000000001p-149, 0x1.fffffep-127, 0x1p-126, 1, 0x1.0000000000001p0,
            0x1.000002p0, 0x1.fffffep127, 0x1.ffffff0000001p127, 0x1.fffffffffffffp1023, INF};
        for (int i = 0; i < rising.length; i++) {
            for (int j = 0; j < rising.length; j++) {
                dueOrder(rising[i], rising[j], Integer.compare(i, j));
            }
        }
        for (int formats = 0; formats < 4; formats++) {
            for (int signs = 0; signs < 4; signs++) {
                FigurePress x = new FigurePress();
                x.set(0, formats & 1, (signs & 1) == 0 ? 0 : SIGN[formats & 1]);
                x.set(1, formats >> 1, (signs & 2) == 0 ? 0 : SIGN[formats >> 1]);
                due("noughts", x.order(0, 1), 0);
            }
        }
    }

    /** In all formats that have both of them. */
    private static void dueOrder(double a, double b, int want) {
        for (int formats = 0; formats < 4; formats++) {
            int first = formats & 1;
            int second = formats >> 1;
            if ((first == DOUBLE || (float) a == a) && (second == DOUBLE || (float) b == b)) {
                FigurePress x = with(first, bits(first, a));
                x.set(1, second, bits(second, b));
                due(a + " and " + b + " in formats " + formats, x.order(0, 1), want);
            }
        }
    }

    private static void orderOfOthers() {
        sentence("2: one is NONE.");
        for (int format = 0; format < 2; format++) {
            for (int other = 0; other < 2; other++) {
                long[] values = {0, SIGN[other], LEAST, GREATEST[other], ENDLESS[other], minus(other, ENDLESS[other]),
                    NONE[other], ENDLESS[other] + 1};
                for (long value : values) {
                    FigurePress x = with(format, minus(format, ENDLESS[format] + 1));
                    x.set(1, other, value);
                    due("NONE and " + value, x.order(0, 1), 2);
                    due(value + " and NONE", x.order(1, 0), 2);
                }
            }
            due("NONE and itself", with(format, NONE[format]).order(0, 0), 2);
        }
        due("a number and itself", with(DOUBLE, ONE[DOUBLE]).order(0, 0), 0);
    }

    // ---- promise 10

    private static void stepsAtNought() {
        for (int format = 0; format < 2; format++) {
            long sign = SIGN[format];
            sentence("(of nought, of whatever sign, the one beside it;");
            dueStep(format, 0, true, LEAST);
            dueStep(format, sign, true, LEAST);
            dueStep(format, 0, false, sign | LEAST);
            dueStep(format, sign, false, sign | LEAST);
            sentence("beside the least number on its way to nought is nought of that sign;");
            dueStep(format, LEAST, false, 0);
            dueStep(format, sign | LEAST, true, sign);
        }
    }

    private static void stepsBetween() {
        sentence("Place r becomes the least value of its format above it (up), or the greatest one below it, ENDLESS ones too");
        for (int format = 0; format < 2; format++) {
            long sign = SIGN[format];
            long[] below = {LEAST, LEAST_FULL[format] - 1, LEAST_FULL[format], ONE[format] - 1, ONE[format],
                GREATEST[format] - 1, GREATEST[format]};
            for (long size : below) {
                dueStep(format, size, true, size + 1);
                dueStep(format, size + 1, false, size);
                dueStep(format, sign | size, false, sign | size + 1);
                dueStep(format, sign | size + 1, true, sign | size);
            }
        }
    }

    private static void stepsAtTheEnd() {
        sentence("ENDLESS on that way, and NONE, stay).");
        for (int format = 0; format < 2; format++) {
            long sign = SIGN[format];
            dueStep(format, ENDLESS[format], true, ENDLESS[format]);
            dueStep(format, sign | ENDLESS[format], false, sign | ENDLESS[format]);
            for (long none : new long[] {ENDLESS[format] + 1, NONE[format], SIGN[format] - 1}) {
                dueStep(format, none, true, none);
                dueStep(format, none, false, none);
                dueStep(format, sign | none, true, sign | none);
                dueStep(format, sign | none, false, sign | none);
            }
        }
    }

    private static void dueStep(int format, long pattern, boolean up, long want) {
        FigurePress x = with(format, pattern);
        x.step(0, up);
        due("step of " + pattern + (up ? " up" : " down"), x.pattern(0), want);
        due("format of it", x.told(0, 0), format);
    }
}
