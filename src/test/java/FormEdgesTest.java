import java.math.BigDecimal;

/** The sentences on figures and forms, and on what is written: Terms 4, promises 19, 20. */
public final class FormEdgesTest extends Edges {
    private static final double MOST = Double.MAX_VALUE;
    private static final double LITTLE = Double.MIN_VALUE;
    private static final int[] OTHER_FORMS = {PLAIN, POWERED, SIXTEENS, EXACT};

    public static void main(String[] args) {
        decimals();
        fewestFigures();
        figuresAtTheMiddle();
        figuresBesidePowers();
        figuresOfAllPowers();
        nearestOfThem();
        lesserOfTwo();
        sign();
        plainWholes();
        plainPoints();
        powered();
        fixed();
        fixedWays();
        fixedHalves();
        fixedCarries();
        fixedTooSmall();
        fixedMostFigures();
        rounded();
        roundedCarries();
        roundedMostFigures();
        sixteens();
        exact();
        noughts();
        endlessAndNone();
        bytes();
        figuresThatAFormTakes();
        letters();
        usedObjects();
        end();
    }

    // ---- SHORT

    private static void decimals() {
        sentence("A DECIMAL is d times 10 to the k (d a whole number above 0 that 10 doesn't divide).");
        dueBoth(POWERED, 100, "1e2");
        dueBoth(POWERED, 10, "1e1");
        dueBoth(POWERED, 1, "1e0");
        dueBoth(POWERED, 1010, "1.01e3");
        dueBoth(POWERED, 120, "1.2e2");
        dueBoth(POWERED, 0.5, "5e-1");
        dueBoth(PLAIN, 1010, "1010");
        dueBoth(PLAIN, 1000000, "1000000");
        dueDouble(POWERED, 1e22, "1e22");
    }

    private static void fewestFigures() {
        sentence("The SHORT one of a number that isn't nought (without its sign): of those that ROUNDED by NEAREST to its "
            + "format are that number, those of which d has the fewest figures;");
        dueDouble(POWERED, 0.1, "1e-1");
        dueFloat(POWERED, 0.1f, "1e-1");
        dueDouble(POWERED, 0.1f, "1.0000000149011612e-1");
        dueDouble(POWERED, 0.1 + 0.2, "3.0000000000000004e-1");
        dueDouble(POWERED, 2e23, "2e23");
        dueDouble(POWERED, MOST, "1.7976931348623157e308");
        dueDouble(POWERED, -MOST, "-1.7976931348623157e308");
        dueDouble(POWERED, Math.nextDown(MOST), "1.7976931348623155e308");
        dueDouble(POWERED, LITTLE, "5e-324");
        dueDouble(POWERED, -LITTLE, "-5e-324");
        dueDouble(POWERED, 2 * LITTLE, "1e-323");
        dueDouble(POWERED, 3 * LITTLE, "1.5e-323");
        dueDouble(POWERED, 0x0.fffffffffffffp-1022, "2.225073858507201e-308");
        dueDouble(POWERED, 0x1p-1022, "2.2250738585072014e-308");
        dueFloat(POWERED, Float.MAX_VALUE, "3.4028235e38");
        dueFloat(POWERED, Float.MIN_VALUE, "1e-45");
        dueFloat(POWERED, 2 * Float.MIN_VALUE, "3e-45");
        dueFloat(POWERED, 0x0.fffffep-126f, "1.1754942e-38");
        dueFloat(POWERED, 0x1p-126f, "1.1754944e-38");
        dueFloat(POWERED, Math.nextUp(1f), "1.0000001e0");
        dueFloat(POWERED, Math.nextDown(1f), "9.9999994e-1");
        dueDouble(POWERED, Math.nextUp(1.0), "1.0000000000000002e0");
        dueDouble(POWERED, Math.nextDown(1.0), "9.999999999999999e-1");
    }

    private static void figuresAtTheMiddle() {
        sentence("of those that ROUNDED by NEAREST to its format are that number,");
        // a decimal in the middle of two numbers leads back to the even one
        dueDouble(POWERED, 0x1.52d02c7e14af6p76, "1e23");
        dueDouble(POWERED, 0x1.52d02c7e14af7p76, "1.0000000000000001e23");
        dueFloat(PLAIN, 33554448f, "33554450");
        dueFloat(PLAIN, 33554452f, "33554452");
        dueFloat(PLAIN, 33554472f, "33554470");
        dueFloat(PLAIN, 33554468f, "33554468");
        dueDouble(PLAIN, 18014398509482008.0, "18014398509482010");
        dueDouble(PLAIN, 18014398509482012.0, "18014398509482012");
        dueDouble(PLAIN, 18014398509481992.0, "18014398509481990");
        dueDouble(PLAIN, 18014398509481988.0, "18014398509481988");
    }

    private static void figuresBesidePowers() {
        sentence("of those that ROUNDED by NEAREST to its format are that number,");
        // below a power of two numbers stand nearer together than above it
        dueFloat(POWERED, 0x1p-103f, "9.8607613e-32");
        dueFloat(POWERED, 0x1p-96f, "1.2621775e-29");
        dueFloat(POWERED, 0x1p33f, "8.589935e9");
        dueFloat(POWERED, 0x1p-47f, "7.1054274e-15");
        dueDouble(POWERED, 0x1p-1019, "1.7800590868057611e-307");
        dueDouble(POWERED, 0x1p-1017, "7.120236347223045e-307");
        dueDouble(POWERED, 0x1p-44, "5.684341886080802e-14");
        dueDouble(POWERED, 0x1p-1012, "2.2784756311113742e-305");
    }

    private static void figuresOfAllPowers() {
        sentence("those of which d has the fewest figures;");
        for (int power = LOWEST[DOUBLE]; power <= 1023; power++) {
            double v = Math.scalb(1.0, power);
            FigurePress x = with(v);
            String text = written(x, POWERED, 0, NEAREST);
            due("2 to the " + power + " leads back", bits(DOUBLE, Double.parseDouble(text)), bits(DOUBLE, v));
            due("at most 17 figures in " + text, text.replaceAll("e.*|\\.", "").length() <= 17 ? 1 : 0, 1);
            due("first figure in " + text, text.charAt(0) != '0' ? 1 : 0, 1);
            if (power >= LOWEST[FLOAT] && power <= 127) {
                text = written(with(FLOAT, bits(FLOAT, v)), POWERED, 0, NEAREST);
                due("2 to the " + power + " leads back", bits(FLOAT, Float.parseFloat(text)), bits(FLOAT, v));
                due("at most 9 figures in " + text, text.replaceAll("e.*|\\.", "").length() <= 9 ? 1 : 0, 1);
            }
        }
    }

    private static void nearestOfThem() {
        sentence("of these the nearest to it;");
        // 2.5e-324 to 7.4e-324 would lead back to the first, 7.7e-45 to 9.1e-45 to the second
        dueDouble(POWERED, LITTLE, "5e-324");
        dueFloat(POWERED, 6 * Float.MIN_VALUE, "8e-45");
        dueFloat(POWERED, 3 * Float.MIN_VALUE, "4e-45");
        dueFloat(POWERED, 7 * Float.MIN_VALUE, "1e-44");
        dueDouble(PLAIN, 9007199254740993.0 * 2, "18014398509481984");
        // 90071992547409936777216, to which both ..993e22 and ..994e22 lead back
        dueDouble(POWERED, 9.007199254740993e22, "9.007199254740994e22");
    }

    private static void lesserOfTwo() {
        sentence("of two the lesser one.");
        dueFloat(PLAIN, 1048576.25f, "1048576.2");
        dueFloat(PLAIN, 1048576.75f, "1048576.7");
        dueFloat(PLAIN, -1048576.75f, "-1048576.7");
        dueDouble(PLAIN, 562949953421312.25, "562949953421312.2");
        dueDouble(PLAIN, 562949953421312.75, "562949953421312.7");
        dueDouble(PLAIN, -562949953421312.75, "-562949953421312.7");
    }

    // ---- forms 0, 1

    private static void sign() {
        sentence("FORMS of a number, behind a - if its sign is minus:");
        String[] texts = {"1.5", "1.5e0", "1.50", "1.5e0", "0x1.8p0", "1.5"};
        for (int form = 0; form < 6; form++) {
            for (int format = 0; format < 2; format++) {
                FigurePress x = with(format, bits(format, 1.5));
                dueText("form " + form, written(x, form, 2, NEAREST), texts[form]);
                x = with(format, bits(format, -1.5));
                dueText("form " + form, written(x, form, 2, NEAREST), "-" + texts[form]);
            }
        }
    }

    private static void plainWholes() {
        sentence("0 PLAIN: the SHORT one: if k isn't below 0, d and k times 0;");
        dueBoth(PLAIN, 5, "5");
        dueBoth(PLAIN, 50, "50");
        dueBoth(PLAIN, -12300, "-12300");
        dueBoth(PLAIN, 9, "9");
        dueDouble(PLAIN, MOST, "17976931348623157" + "0".repeat(292));
        dueFloat(PLAIN, Float.MAX_VALUE, "34028235" + "0".repeat(31));
        dueDouble(PLAIN, 1e23, "1" + "0".repeat(23));
        dueDouble(PLAIN, 9007199254740992.0, "9007199254740992");
        dueDouble(PLAIN, 0x1p60, "1152921504606847000");
    }

    private static void plainPoints() {
        sentence("else d with a point ahead of its last -k figures (with as many 0 ahead of d as are needed for one figure "
            + "ahead of the point).");
        dueBoth(PLAIN, 0.5, "0.5");
        dueBoth(PLAIN, 1.5, "1.5");
        dueBoth(PLAIN, 12.5, "12.5");
        dueBoth(PLAIN, 0.75, "0.75");
        dueDouble(PLAIN, 0.05, "0.05");
        dueDouble(PLAIN, 0.015, "0.015");
        dueDouble(PLAIN, 10.05, "10.05");
        dueDouble(PLAIN, -0.001, "-0.001");
        dueDouble(PLAIN, LITTLE, "0." + "0".repeat(323) + "5");
        dueDouble(PLAIN, 0x1p-1022, "0." + "0".repeat(307) + "22250738585072014");
        dueFloat(PLAIN, Float.MIN_VALUE, "0." + "0".repeat(44) + "1");
    }

    private static void powered() {
        sentence("1 POWERED: the SHORT one: d's first figure; if there are others a point and these; e; a - if the power is "
            + "below 0; the power of ten of the first figure.");
        dueBoth(POWERED, 5, "5e0");
        dueBoth(POWERED, 9, "9e0");
        dueBoth(POWERED, 1.5, "1.5e0");
        dueBoth(POWERED, 10, "1e1");
        dueBoth(POWERED, 15, "1.5e1");
        dueBoth(POWERED, 0.5, "5e-1");
        dueBoth(POWERED, 0.75, "7.5e-1");
        dueDouble(POWERED, 1e9, "1e9");
        dueDouble(POWERED, 1e10, "1e10");
        dueDouble(POWERED, 1e99, "1e99");
        dueDouble(POWERED, 1e100, "1e100");
        dueDouble(POWERED, 1e-9, "1e-9");
        dueDouble(POWERED, 1e-10, "1e-10");
        dueDouble(POWERED, -1e-99, "-1e-99");
        dueDouble(POWERED, -1e-100, "-1e-100");
    }

    // ---- form 2

    private static void fixed() {
        sentence("2 FIXED n: the number, in the way told (UP, DOWN with its sign in mind), to the nearest multiple of "
            + "10 to the -n: its whole part, and if n isn't 0 a point and n figures.");
        for (int way = 0; way < 4; way++) {
            dueWritten(1, FIXED, 0, way, "1");
            dueWritten(1, FIXED, 1, way, "1.0");
            dueWritten(-1, FIXED, 2, way, "-1.00");
            dueWritten(0.5, FIXED, 1, way, "0.5");
            dueWritten(0.5, FIXED, 3, way, "0.500");
            dueWritten(0x1p-10, FIXED, 10, way, "0.0009765625");
            dueWritten(120, FIXED, 0, way, "120");
            dueWritten(1e22, FIXED, 1, way, "1" + "0".repeat(22) + ".0");
        }
    }

    private static void fixedWays() {
        sentence("in the way told (UP, DOWN with its sign in mind),");
        dueFour(1.75, FIXED, 1, "1.8", "1.7", "1.8", "1.7");
        dueFour(-1.75, FIXED, 1, "-1.8", "-1.7", "-1.7", "-1.8");
        dueFour(1.125, FIXED, 1, "1.1", "1.1", "1.2", "1.1");
        dueFour(-1.125, FIXED, 1, "-1.1", "-1.1", "-1.1", "-1.2");
        dueFour(0.1, FIXED, 2, "0.10", "0.10", "0.11", "0.10");
        dueFour(-0.1, FIXED, 2, "-0.10", "-0.10", "-0.10", "-0.11");
        // this one is a bit below 0.3
        dueFour(0.3, FIXED, 1, "0.3", "0.2", "0.3", "0.2");
        dueFour(Math.nextUp(1.0), FIXED, 0, "1", "1", "2", "1");
        dueFour(-Math.nextDown(1.0), FIXED, 0, "-1", "-0", "-0", "-1");
    }

    private static void fixedHalves() {
        sentence("to the nearest multiple of 10 to the -n:");
        dueFour(0.5, FIXED, 0, "0", "0", "1", "0");
        dueFour(1.5, FIXED, 0, "2", "1", "2", "1");
        dueFour(2.5, FIXED, 0, "2", "2", "3", "2");
        dueFour(-2.5, FIXED, 0, "-2", "-2", "-2", "-3");
        dueFour(-3.5, FIXED, 0, "-4", "-3", "-3", "-4");
        dueFour(0.25, FIXED, 1, "0.2", "0.2", "0.3", "0.2");
        dueFour(0.75, FIXED, 1, "0.8", "0.7", "0.8", "0.7");
        dueFour(0.125, FIXED, 2, "0.12", "0.12", "0.13", "0.12");
        dueFour(0.0625, FIXED, 3, "0.062", "0.062", "0.063", "0.062");
        dueFour(10.5, FIXED, 0, "10", "10", "11", "10");
        dueFour(100.125, FIXED, 2, "100.12", "100.12", "100.13", "100.12");
        dueWritten(Math.nextUp(0.5), FIXED, 0, NEAREST, "1");
        dueWritten(Math.nextDown(0.5), FIXED, 0, NEAREST, "0");
        dueWritten(Math.nextUp(2.5), FIXED, 0, NEAREST, "3");
        dueWritten(Math.nextDown(1.5), FIXED, 0, NEAREST, "1");
        dueWritten(0.0078125, FIXED, 6, NEAREST, "0.007812");
        dueWritten(0.0234375, FIXED, 6, NEAREST, "0.023438");
    }

    private static void fixedCarries() {
        sentence("its whole part, and if n isn't 0 a point and n figures.");
        dueFour(9.5, FIXED, 0, "10", "9", "10", "9");
        dueFour(-99.5, FIXED, 0, "-100", "-99", "-99", "-100");
        dueFour(0.9375, FIXED, 1, "0.9", "0.9", "1.0", "0.9");
        dueFour(0.96875, FIXED, 1, "1.0", "0.9", "1.0", "0.9");
        dueFour(9.96875, FIXED, 1, "10.0", "9.9", "10.0", "9.9");
        dueFour(1.96875, FIXED, 1, "2.0", "1.9", "2.0", "1.9");
        dueFour(0.09375, FIXED, 1, "0.1", "0.0", "0.1", "0.0");
        dueFour(0.099609375, FIXED, 2, "0.10", "0.09", "0.10", "0.09");
        dueFour(999.9990234375, FIXED, 2, "1000.00", "999.99", "1000.00", "999.99");
    }

    private static void fixedTooSmall() {
        sentence("to the nearest multiple of 10 to the -n:");
        dueFour(LITTLE, FIXED, 0, "0", "0", "1", "0");
        dueFour(-LITTLE, FIXED, 0, "-0", "-0", "-0", "-1");
        dueFour(LITTLE, FIXED, 3, "0.000", "0.000", "0.001", "0.000");
        dueFour(-LITTLE, FIXED, 3, "-0.000", "-0.000", "-0.000", "-0.001");
        dueFour(0.0625, FIXED, 1, "0.1", "0.0", "0.1", "0.0");
        dueFour(0.03125, FIXED, 1, "0.0", "0.0", "0.1", "0.0");
        dueFour(0.00390625, FIXED, 1, "0.0", "0.0", "0.1", "0.0");
        dueFour(-0.00390625, FIXED, 1, "-0.0", "-0.0", "-0.0", "-0.1");
        dueFour(0.0078125, FIXED, 2, "0.01", "0.00", "0.01", "0.00");
        dueFour(0.9375, FIXED, 0, "1", "0", "1", "0");
        dueFour(0.4375, FIXED, 0, "0", "0", "1", "0");
    }

    private static void fixedMostFigures() {
        sentence("its whole part, and if n isn't 0 a point and n figures.");
        String most = new BigDecimal(MOST).toPlainString();
        String sixty = "0".repeat(60);
        for (int way = 0; way < 4; way++) {
            dueWritten(MOST, FIXED, 0, way, most);
            dueWritten(-MOST, FIXED, 60, way, "-" + most + "." + sixty);
        }
        dueFour(LITTLE, FIXED, 60, "0." + sixty, "0." + sixty, "0." + "0".repeat(59) + "1", "0." + sixty);
        dueFour(-LITTLE, FIXED, 60, "-0." + sixty, "-0." + sixty, "-0." + sixty, "-0." + "0".repeat(59) + "1");
        dueWritten(0.1, FIXED, 55, DOWN, "0.1000000000000000055511151231257827021181583404541015625");
        dueWritten(0.1, FIXED, 60, DOWN, "0.100000000000000005551115123125782702118158340454101562500000");
        dueFour(0.1, FIXED, 54, "0.100000000000000005551115123125782702118158340454101562",
            "0.100000000000000005551115123125782702118158340454101562", "0.100000000000000005551115123125782702118158340454101563",
            "0.100000000000000005551115123125782702118158340454101562");
        dueFour(0x1p-60, FIXED, 59, "0.00000000000000000086736173798840354720596224069595336914062",
            "0.00000000000000000086736173798840354720596224069595336914062", "0.00000000000000000086736173798840354720596224069595336914063",
            "0.00000000000000000086736173798840354720596224069595336914062");
    }

    // ---- form 3

    private static void rounded() {
        sentence("3 ROUNDED n (n 1 at least): likewise to n figures from the first one that isn't 0 on "
            + "(which may become one more figure: 9.99 to 2 is 1.0e1), written as POWERED is with n figures.");
        for (int way = 0; way < 4; way++) {
            dueWritten(1, ROUNDED, 1, way, "1e0");
            dueWritten(1, ROUNDED, 2, way, "1.0e0");
            dueWritten(-10, ROUNDED, 3, way, "-1.00e1");
            dueWritten(0.5, ROUNDED, 1, way, "5e-1");
            dueWritten(0.0625, ROUNDED, 3, way, "6.25e-2");
        }
        dueFour(1.75, ROUNDED, 2, "1.8e0", "1.7e0", "1.8e0", "1.7e0");
        dueFour(-1.75, ROUNDED, 2, "-1.8e0", "-1.7e0", "-1.7e0", "-1.8e0");
        dueFour(2.5, ROUNDED, 1, "2e0", "2e0", "3e0", "2e0");
        dueFour(3.5, ROUNDED, 1, "4e0", "3e0", "4e0", "3e0");
        dueFour(-0.125, ROUNDED, 2, "-1.2e-1", "-1.2e-1", "-1.2e-1", "-1.3e-1");
        dueFour(123456, ROUNDED, 2, "1.2e5", "1.2e5", "1.3e5", "1.2e5");
        dueFour(150, ROUNDED, 1, "2e2", "1e2", "2e2", "1e2");
        dueFour(250, ROUNDED, 1, "2e2", "2e2", "3e2", "2e2");
        dueFour(251, ROUNDED, 1, "3e2", "2e2", "3e2", "2e2");
        dueFour(-249, ROUNDED, 1, "-2e2", "-2e2", "-2e2", "-3e2");
        dueFour(201, ROUNDED, 1, "2e2", "2e2", "3e2", "2e2");
        dueFour(-200, ROUNDED, 1, "-2e2", "-2e2", "-2e2", "-2e2");
        dueFour(10.5, ROUNDED, 2, "1.0e1", "1.0e1", "1.1e1", "1.0e1");
        dueFour(LITTLE, ROUNDED, 1, "5e-324", "4e-324", "5e-324", "4e-324");
        dueFour(-LITTLE, ROUNDED, 3, "-4.94e-324", "-4.94e-324", "-4.94e-324", "-4.95e-324");
        dueFour(MOST, ROUNDED, 1, "2e308", "1e308", "2e308", "1e308");
        dueFour(MOST, ROUNDED, 3, "1.80e308", "1.79e308", "1.80e308", "1.79e308");
    }

    private static void roundedCarries() {
        sentence("(which may become one more figure: 9.99 to 2 is 1.0e1)");
        dueFour(9.99, ROUNDED, 2, "1.0e1", "9.9e0", "1.0e1", "9.9e0");
        dueFour(-9.99, ROUNDED, 2, "-1.0e1", "-9.9e0", "-9.9e0", "-1.0e1");
        dueFour(9.99, ROUNDED, 1, "1e1", "9e0", "1e1", "9e0");
        dueFour(9.5, ROUNDED, 1, "1e1", "9e0", "1e1", "9e0");
        dueFour(99.5, ROUNDED, 2, "1.0e2", "9.9e1", "1.0e2", "9.9e1");
        dueFour(0.9375, ROUNDED, 1, "9e-1", "9e-1", "1e0", "9e-1");
        dueFour(0.99609375, ROUNDED, 2, "1.0e0", "9.9e-1", "1.0e0", "9.9e-1");
        dueFour(0.09765625, ROUNDED, 1, "1e-1", "9e-2", "1e-1", "9e-2");
        dueFour(999999, ROUNDED, 3, "1.00e6", "9.99e5", "1.00e6", "9.99e5");
        dueFour(199.5, ROUNDED, 3, "2.00e2", "1.99e2", "2.00e2", "1.99e2");
    }

    private static void roundedMostFigures() {
        sentence("written as POWERED is with n figures.");
        dueWritten(1, ROUNDED, 60, UP, "1." + "0".repeat(59) + "e0");
        dueWritten(-1, ROUNDED, 60, DOWN, "-1." + "0".repeat(59) + "e0");
        dueWritten(0.1, ROUNDED, 60, UP, "1.00000000000000005551115123125782702118158340454101562500000e-1");
        dueFour(LITTLE, ROUNDED, 60, "4.94065645841246544176568792868221372365059802614324764425586e-324",
            "4.94065645841246544176568792868221372365059802614324764425585e-324",
            "4.94065645841246544176568792868221372365059802614324764425586e-324",
            "4.94065645841246544176568792868221372365059802614324764425585e-324");
        dueFour(MOST, ROUNDED, 60, "1.79769313486231570814527423731704356798070567525844996598917e308",
            "1.79769313486231570814527423731704356798070567525844996598917e308",
            "1.79769313486231570814527423731704356798070567525844996598918e308",
            "1.79769313486231570814527423731704356798070567525844996598917e308");
    }

    // ---- forms 4, 5

    private static void sixteens() {
        sentence("4 SIXTEENS: 0x1, if more is needed a point and figures of sixteen (0 .. 9, a .. f) as few as tell it all, p, "
            + "the power of two as POWERED's (of the leading 1).");
        dueBoth(SIXTEENS, 1, "0x1p0");
        dueBoth(SIXTEENS, 2, "0x1p1");
        dueBoth(SIXTEENS, 0.5, "0x1p-1");
        dueBoth(SIXTEENS, 1.5, "0x1.8p0");
        dueBoth(SIXTEENS, 1.0625, "0x1.1p0");
        dueBoth(SIXTEENS, -17.0625, "-0x1.11p4");
        dueBoth(SIXTEENS, 1024, "0x1p10");
        dueDouble(SIXTEENS, 0x1.0123456789abcp-9, "0x1.0123456789abcp-9");
        dueDouble(SIXTEENS, 0x1.fedcba987654p99, "0x1.fedcba987654p99");
        dueDouble(SIXTEENS, Math.nextUp(1.0), "0x1.0000000000001p0");
        dueDouble(SIXTEENS, MOST, "0x1.fffffffffffffp1023");
        dueDouble(SIXTEENS, 0x1p-1022, "0x1p-1022");
        dueDouble(SIXTEENS, 0x0.fffffffffffffp-1022, "0x1.ffffffffffffep-1023");
        dueDouble(SIXTEENS, LITTLE, "0x1p-1074");
        dueDouble(SIXTEENS, -3 * LITTLE, "-0x1.8p-1073");
        dueFloat(SIXTEENS, Math.nextUp(1f), "0x1.000002p0");
        dueFloat(SIXTEENS, Float.MAX_VALUE, "0x1.fffffep127");
        dueFloat(SIXTEENS, 0x1p-126f, "0x1p-126");
        dueFloat(SIXTEENS, 0x0.fffffep-126f, "0x1.fffffcp-127");
        dueFloat(SIXTEENS, Float.MIN_VALUE, "0x1p-149");
        dueDouble(SIXTEENS, 0x1p-99, "0x1p-99");
        dueDouble(SIXTEENS, 0x1p100, "0x1p100");
        dueDouble(SIXTEENS, 0x1p-1000, "0x1p-1000");
        dueDouble(SIXTEENS, 0x1p999, "0x1p999");
    }

    private static void exact() {
        sentence("5 EXACT: as PLAIN is with all figures that it has.");
        dueBoth(EXACT, 1, "1");
        dueBoth(EXACT, 100, "100");
        dueBoth(EXACT, 0.5, "0.5");
        dueBoth(EXACT, -12.75, "-12.75");
        dueDouble(EXACT, 0.1, "0.1000000000000000055511151231257827021181583404541015625");
        dueFloat(EXACT, 0.1f, "0.100000001490116119384765625");
        dueDouble(EXACT, 1e23, "99999999999999991611392");
        dueDouble(EXACT, 1e22, "1" + "0".repeat(22));
        dueFloat(EXACT, 33554448f, "33554448");
        double[] ends = {MOST, LITTLE, 0x1p-1022, 0x0.fffffffffffffp-1022, 0x1.fffffffffffffp-1022, 0x1p1023};
        for (double v : ends) {
            dueDouble(EXACT, v, new BigDecimal(v).toPlainString());
            dueDouble(EXACT, -v, new BigDecimal(-v).toPlainString());
        }
        dueFloat(EXACT, Float.MIN_VALUE, new BigDecimal(Float.MIN_VALUE).toPlainString());
        dueFloat(EXACT, Float.MAX_VALUE, new BigDecimal(Float.MAX_VALUE).toPlainString());
        due("the longest text", with(-0x0.fffffffffffffp-1022).write(0, EXACT, 0, NEAREST), 1077);
    }

    // ---- nought, ENDLESS, NONE

    private static void noughts() {
        sentence("Nought is 0, by FIXED with n figures 0 behind a point (if n isn't 0), by ROUNDED 0 with n - 1 of them and e0, "
            + "by POWERED 0e0, by SIXTEENS 0x0p0.");
        for (int format = 0; format < 2; format++) {
            for (int way = 0; way < 4; way++) {
                for (int sign = 0; sign < 2; sign++) {
                    FigurePress x = with(format, sign == 0 ? 0 : SIGN[format]);
                    String minus = sign == 0 ? "" : "-";
                    dueText("plain", written(x, PLAIN, 5, way), minus + "0");
                    dueText("powered", written(x, POWERED, 5, way), minus + "0e0");
                    dueText("sixteens", written(x, SIXTEENS, 5, way), minus + "0x0p0");
                    dueText("exact", written(x, EXACT, 5, way), minus + "0");
                    dueText("fixed 0", written(x, FIXED, 0, way), minus + "0");
                    dueText("fixed 1", written(x, FIXED, 1, way), minus + "0.0");
                    dueText("fixed 60", written(x, FIXED, 60, way), minus + "0." + "0".repeat(60));
                    dueText("rounded 1", written(x, ROUNDED, 1, way), minus + "0e0");
                    dueText("rounded 2", written(x, ROUNDED, 2, way), minus + "0.0e0");
                    dueText("rounded 60", written(x, ROUNDED, 60, way), minus + "0." + "0".repeat(59) + "e0");
                }
            }
        }
    }

    private static void endlessAndNone() {
        sentence("ENDLESS is inf (behind its sign), NONE nan, in all forms.");
        for (int format = 0; format < 2; format++) {
            for (int form = 0; form < 6; form++) {
                for (int n : new int[] {1, 60}) {
                    for (int way = 0; way < 4; way++) {
                        dueOf(format, ENDLESS[format], form, n, way, "inf");
                        dueOf(format, minus(format, ENDLESS[format]), form, n, way, "-inf");
                        dueOf(format, NONE[format], form, n, way, "nan");
                        dueOf(format, ENDLESS[format] + 1, form, n, way, "nan");
                        dueOf(format, minus(format, NONE[format]), form, n, way, "nan");
                        dueOf(format, -1, form, n, way, "nan");
                    }
                }
            }
        }
    }

    // ---- promises 19, 20

    private static void bytes() {
        sentence("p's value is written in a form 0 .. 5; n is the number of figures of forms 2 and 3 (not looked at of others), "
            + "way the way of these (of others it must be one, too): how many bytes.");
        FigurePress x = with(-0.3);
        int[] lengths = {4, 5, 6, 8, 21, 57};
        for (int form = 0; form < 6; form++) {
            due("bytes of form " + form, x.write(0, form, 3, NEAREST), lengths[form]);
        }
        for (int form : OTHER_FORMS) {
            String want = written(with(-0.3), form, 0, NEAREST);
            for (int n : new int[] {-1, 0, 61, Integer.MIN_VALUE, Integer.MAX_VALUE}) {
                for (int way = 0; way < 4; way++) {
                    dueText("form " + form + " with n " + n + " way " + way, written(with(-0.3), form, n, way), want);
                }
            }
        }
        for (int p = 0; p < 16; p += 15) {
            FigurePress y = new FigurePress();
            y.set(p, DOUBLE, bits(DOUBLE, -2));
            due("bytes", y.write(p, PLAIN, 0, NEAREST), 2);
            due("pattern after it", y.pattern(p), bits(DOUBLE, -2));
            due("format after it", y.told(p, 0), DOUBLE);
        }
    }

    private static void figuresThatAFormTakes() {
        sentence("IllegalArgumentException: another form, or (of 2 and 3) n isn't 0 .. 60, or 1 .. 60.");
        FigurePress x = with(2.5);
        dueText("fixed 0", written(x, FIXED, 0, UP), "3");
        dueText("fixed 60", written(x, FIXED, 60, UP), "2.5" + "0".repeat(59));
        dueText("rounded 1", written(x, ROUNDED, 1, UP), "3e0");
        dueText("rounded 60", written(x, ROUNDED, 60, UP), "2.5" + "0".repeat(58) + "e0");
        long[] values = {bits(DOUBLE, 2.5), 0, ENDLESS[DOUBLE], NONE[DOUBLE]};
        for (long value : values) {
            FigurePress y = with(DOUBLE, value);
            for (int form : new int[] {-1, 6, Integer.MIN_VALUE, Integer.MAX_VALUE}) {
                dueArgument("form " + form, () -> y.write(0, form, 1, NEAREST));
            }
            for (int n : new int[] {-1, 61, Integer.MIN_VALUE, Integer.MAX_VALUE}) {
                dueArgument("fixed " + n, () -> y.write(0, FIXED, n, NEAREST));
                dueArgument("rounded " + n, () -> y.write(0, ROUNDED, n, NEAREST));
            }
            dueArgument("rounded 0", () -> y.write(0, ROUNDED, 0, NEAREST));
        }
    }

    private static void letters() {
        sentence("Byte i of what was written last; -1 without it.");
        FigurePress x = with(-1.5);
        int[] outside = {-1, Integer.MIN_VALUE, Integer.MAX_VALUE, 1076, 1077, 1078, 1200};
        for (int i : outside) {
            due("letter " + i + " of nothing", x.letter(i), -1);
        }
        due("letter 0 of nothing", x.letter(0), -1);
        x.write(0, PLAIN, 0, NEAREST);
        int[] wants = {'-', '1', '.', '5', -1};
        for (int i = 0; i < wants.length; i++) {
            due("letter " + i, x.letter(i), wants[i]);
            due("letter " + i + " again", x.letter(i), wants[i]);
        }
        for (int i : outside) {
            due("letter " + i, x.letter(i), -1);
        }
        x.set(0, DOUBLE, minus(DOUBLE, LEAST));
        due("a set changes nothing", x.letter(1), '1');
        due("the longest", x.write(0, EXACT, 0, NEAREST), 1077);
        due("its last", x.letter(1076), '5');
        due("behind it", x.letter(1077), -1);
        x.write(1, PLAIN, 0, NEAREST);
        due("a shorter one", x.letter(0), '0');
        due("what the longer one had", x.letter(1), -1);
        due("its last", x.letter(1076), -1);
    }

    /** Whatever an object has written before, it writes as a new one does. */
    private static void usedObjects() {
        sentence("Byte i of what was written last; -1 without it.");
        double[] values = {1, 6 * Float.MIN_VALUE, 0.1f, -0.0, 1048576.75, -INF, NAN, 33554472, 0.5, Float.MAX_VALUE};
        for (int form = 0; form < 6; form++) {
            for (double first : values) {
                for (double second : values) {
                    FigurePress x = new FigurePress();
                    x.set(0, FLOAT, bits(FLOAT, second));
                    x.set(1, FLOAT, bits(FLOAT, first));
                    x.write(1, 5 - form, 7, UP);
                    x.write(1, form, 7, UP);
                    String want = written(with(FLOAT, bits(FLOAT, second)), form, 4, NEAREST);
                    dueText(second + " after " + first + " form " + form, written(x, form, 4, NEAREST), want);
                }
            }
        }
    }

    // ---- helpers

    private static void dueOf(int format, long pattern, int form, int n, int way, String want) {
        FigurePress x = with(format, pattern);
        String got = written(x, form, n, way);
        dueText("form " + form + " n " + n + " way " + way + " of " + pattern, shown(got), shown(want));
        dueText("all of form " + form + " of " + pattern, got, want);
        due("behind the last of form " + form, x.letter(want.length()), -1);
    }

    private static void dueWritten(double v, int form, int n, int way, String want) {
        dueOf(DOUBLE, bits(DOUBLE, v), form, n, way, want);
    }

    private static void dueFour(double v, int form, int n, String... wants) {
        for (int way = 0; way < 4; way++) {
            dueWritten(v, form, n, way, wants[way]);
            if ((float) v == v) {
                dueOf(FLOAT, bits(FLOAT, v), form, n, way, wants[way]);
            }
        }
    }

    private static void dueDouble(int form, double v, String want) {
        dueWritten(v, form, 0, NEAREST, want);
    }

    private static void dueFloat(int form, float v, String want) {
        dueOf(FLOAT, bits(FLOAT, v), form, 0, NEAREST, want);
    }

    private static void dueBoth(int form, double v, String want) {
        dueDouble(form, v, want);
        dueFloat(form, (float) v, want);
    }
}
