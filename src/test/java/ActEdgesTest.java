/** The sentences on sums, products, quotients, fused ones and roots: Terms 3, promises 11 to 16. */
public final class ActEdgesTest extends Edges {
    private static final String[] ACTS = {"add", "less", "times", "over", "fused"};
    private static final String[] SENTENCES = {
        "Place r becomes p's and q's sum, rounded.",
        "Place r becomes p's less q's: the sum of p's and q's with the other sign.",
        "Place r becomes their product, rounded.",
        "Place r becomes p's by q's, rounded.",
        "Place r becomes p's times q's, and what r was, rounded once."};
    private static final double MOST = Double.MAX_VALUE;
    private static final double LITTLE = Double.MIN_VALUE;
    private static final double FLOAT_MOST = Float.MAX_VALUE;
    private static final double FLOAT_LITTLE = Float.MIN_VALUE;
    /** The one behind 1, and the one behind that. */
    private static final double NEXT = 0x1.0000000000001p0;
    private static final double SECOND = 0x1.0000000000002p0;

    public static void main(String[] args) {
        formatOfThePlace();
        noneOfThem();
        patternOfNone();
        signsOfProducts();
        signsOfQuotients();
        endlessSums();
        noughtSums();
        noughtDifferences();
        sums();
        sumsBeyond();
        differences();
        products();
        productsBeyond();
        noughtTimesEndless();
        quotients();
        quotientsBeyond();
        quotientsOfNought();
        fusedOnce();
        fusedBeyond();
        fusedNoughts();
        fusedEndless();
        rootsOfNought();
        roots();
        rootsInFloat();
        samePlaces();
        end();
    }

    // ---- of all acts

    private static void formatOfThePlace() {
        sentence("\"rounded\": in the format of the place where it goes.");
        dueFour("add", FLOAT, 1, 0x1p-24, 1, 1, 0x1.000002p0, 1);
        dueFour("add", FLOAT, 0x1.000002p0, 0x1p-24, 0x1.000004p0, 0x1.000002p0, 0x1.000004p0, 0x1.000002p0);
        dueFour("less", FLOAT, 1, 0x1p-25, 1, 0x1.fffffep-1, 1, 0x1.fffffep-1);
        dueFour("times", FLOAT, 0x1.000001p0, 1, 1, 1, 0x1.000002p0, 1);
        dueFour("over", FLOAT, 0x1.000001p0, 1, 1, 1, 0x1.000002p0, 1);
        dueFour("over", FLOAT, 0x1.000003p0, 1, 0x1.000004p0, 0x1.000002p0, 0x1.000004p0, 0x1.000002p0);
        dueFour("times", DOUBLE, 0x1.000001p0, 1, 0x1.000001p0, 0x1.000001p0, 0x1.000001p0, 0x1.000001p0);
        for (int format = 0; format < 2; format++) {
            for (int i = 0; i < ACTS.length; i++) {
                FigurePress x = with(1 - format, ONE[1 - format]);
                x.set(1, format, ONE[format]);
                x.set(2, format, 0);
                act(x, ACTS[i], 0, 1, 2, NEAREST);
                due(ACTS[i] + ", format", x.told(2, 0), format);
                due(ACTS[i], x.pattern(2), bits(format, new double[] {2, 0, 1, 1, 1}[i]));
            }
            FigurePress x = with(1 - format, ONE[1 - format]);
            x.set(2, format, 0);
            x.root(0, 2, NEAREST);
            due("root, format", x.told(2, 0), format);
            due("root", x.pattern(2), ONE[format]);
        }
    }

    private static void noneOfThem() {
        sentence("NONE if one of them is NONE, and where told.");
        double[] others = {0.0, -0.0, 1, LITTLE, -MOST, INF, -INF, NAN};
        for (int format = 0; format < 2; format++) {
            for (String name : ACTS) {
                for (double other : others) {
                    for (int way = 0; way < 4; way++) {
                        due(name + " of NONE and " + other, acted(name, format, NAN, other, way), NONE[format]);
                        due(name + " of " + other + " and NONE", acted(name, format, other, NAN, way), NONE[format]);
                    }
                }
            }
            for (double other : others) {
                due("fused " + other + " and NONE", fused(format, other, 1, NAN, NEAREST), NONE[format]);
                due("fused 0 " + other + " and NONE", fused(format, 0.0, other, NAN, DOWN), NONE[format]);
            }
            due("root of NONE", root(format, NAN, UP), NONE[format]);
        }
    }

    private static void patternOfNone() {
        sentence("The pattern of a NONE that an act makes: sign 0, f is 2 to the P - 2.");
        for (int format = 0; format < 2; format++) {
            for (int from = 0; from < 2; from++) {
                for (long none : new long[] {ENDLESS[from] + 1, minus(from, ENDLESS[from] + 1), minus(from, NONE[from]), -1}) {
                    for (String name : ACTS) {
                        due(name + " of " + none, ofNone(name, from, none, format), NONE[format]);
                    }
                }
            }
            FigurePress x = with(format, minus(format, ENDLESS[format] + 1));
            x.set(1, format, ONE[format]);
            x.fused(1, 1, 0, NEAREST);
            due("fused with a NONE", x.pattern(0), NONE[format]);
            x.set(0, format, -1);
            x.root(0, 1, NEAREST);
            due("root of a NONE", x.pattern(1), NONE[format]);
            due("root of -1", root(format, -1, NEAREST), NONE[format]);
            feed(x, "-nan");
            x.read(1, format, NEAREST);
            due("read", x.pattern(1), NONE[format]);
        }
    }

    private static long ofNone(String name, int from, long none, int format) {
        FigurePress x = with(from, none);
        x.set(1, format, ONE[format]);
        x.set(2, format, ONE[format]);
        act(x, name, 1, 0, 2, NEAREST);
        act(x, name, 0, 1, 1, NEAREST);
        due(name + " either way", x.pattern(1), x.pattern(2));
        return x.pattern(2);
    }

    private static void signsOfProducts() {
        sentence("A nought or ENDLESS result has the sign that the signs tell (of products and quotients: minus if they differ).");
        double[] sizes = {0.0, 3, LITTLE, MOST};
        for (double size : sizes) {
            for (int way = 0; way < 4; way++) {
                for (int format = 0; format < 2; format++) {
                    dueSigns("times", format, 0.0, size, 0, way);
                    dueSigns("times", format, size, 0.0, 0, way);
                    if (size != 0) {
                        dueSigns("times", format, INF, size, ENDLESS[format], way);
                        dueSigns("times", format, size, INF, ENDLESS[format], way);
                    }
                    dueSigns("times", format, INF, INF, ENDLESS[format], way);
                }
            }
        }
        for (int format = 0; format < 2; format++) {
            dueSigns("times", format, MOST, MOST, ENDLESS[format], NEAREST);
            dueSigns("times", format, LITTLE, LITTLE, 0, NEAREST);
            dueSigns("times", format, LITTLE, LITTLE, 0, TO_NOUGHT);
        }
    }

    private static void signsOfQuotients() {
        for (int way = 0; way < 4; way++) {
            for (int format = 0; format < 2; format++) {
                for (double size : new double[] {3, LITTLE, MOST}) {
                    dueSigns("over", format, 0.0, size, 0, way);
                    dueSigns("over", format, size, 0.0, ENDLESS[format], way);
                    dueSigns("over", format, size, INF, 0, way);
                    dueSigns("over", format, INF, size, ENDLESS[format], way);
                }
                dueSigns("over", format, 0.0, INF, 0, way);
                dueSigns("over", format, INF, 0.0, ENDLESS[format], way);
            }
        }
        for (int format = 0; format < 2; format++) {
            dueSigns("over", format, MOST, LITTLE, ENDLESS[format], NEAREST);
            dueSigns("over", format, LITTLE, MOST, 0, NEAREST);
            dueSigns("over", format, LITTLE, MOST, 0, TO_NOUGHT);
        }
    }

    private static void dueSigns(String name, int format, double p, double q, long size, int way) {
        due(name + " " + p + " " + q + " way " + way, acted(name, format, p, q, way), size);
        due(name + " " + -p + " " + q + " way " + way, acted(name, format, -p, q, way), minus(format, size));
        due(name + " " + p + " " + -q + " way " + way, acted(name, format, p, -q, way), minus(format, size));
        due(name + " " + -p + " " + -q + " way " + way, acted(name, format, -p, -q, way), size);
    }

    // ---- add, less

    private static void endlessSums() {
        sentence("add: ENDLESS of unlike signs: NONE; else ENDLESS of that sign if one is;");
        for (int format = 0; format < 2; format++) {
            for (int way = 0; way < 4; way++) {
                due("unlike", acted("add", format, INF, -INF, way), NONE[format]);
                due("unlike", acted("add", format, -INF, INF, way), NONE[format]);
                due("less of like", acted("less", format, INF, INF, way), NONE[format]);
                due("less of like", acted("less", format, -INF, -INF, way), NONE[format]);
                for (double other : new double[] {INF, 0.0, -0.0, 1, -1, LITTLE, MOST, -MOST}) {
                    due("inf and " + other, acted("add", format, INF, other, way), ENDLESS[format]);
                    due(other + " and inf", acted("add", format, other, INF, way), ENDLESS[format]);
                    due("-inf and " + -other, acted("add", format, -INF, -other, way), minus(format, ENDLESS[format]));
                    due(-other + " and -inf", acted("add", format, -other, -INF, way), minus(format, ENDLESS[format]));
                    due("inf less " + -other, acted("less", format, INF, -other, way), ENDLESS[format]);
                    due(-other + " less inf", acted("less", format, -other, INF, way), minus(format, ENDLESS[format]));
                }
            }
        }
    }

    private static void noughtSums() {
        sentence("a sum 0 of numbers is minus if both are minus nought, or if it is 0 otherwise and the way is DOWN "
            + "(not both plus nought), else plus.");
        for (int format = 0; format < 2; format++) {
            dueFour("add", format, 0.0, 0.0, 0.0, 0.0, 0.0, 0.0);
            dueFour("add", format, -0.0, -0.0, -0.0, -0.0, -0.0, -0.0);
            for (double size : new double[] {0.0, 1, 5, FLOAT_LITTLE, LITTLE, FLOAT_MOST, MOST}) {
                dueFour("add", format, size, -size, 0.0, 0.0, 0.0, -0.0);
                dueFour("add", format, -size, size, 0.0, 0.0, 0.0, -0.0);
            }
        }
        sentence(SENTENCES[0]);
        FigurePress x = with(FLOAT, bits(FLOAT, 0.5));
        x.set(1, DOUBLE, bits(DOUBLE, -0.5));
        x.add(0, 1, 2, DOWN);
        due("of two formats", x.pattern(2), SIGN[FLOAT]);
    }

    private static void noughtDifferences() {
        sentence(SENTENCES[1]);
        for (int format = 0; format < 2; format++) {
            dueFour("less", format, 0.0, -0.0, 0.0, 0.0, 0.0, 0.0);
            dueFour("less", format, -0.0, 0.0, -0.0, -0.0, -0.0, -0.0);
            for (double size : new double[] {0.0, 1, 5, FLOAT_LITTLE, LITTLE, FLOAT_MOST, MOST}) {
                dueFour("less", format, size, size, 0.0, 0.0, 0.0, -0.0);
                dueFour("less", format, -size, -size, 0.0, 0.0, 0.0, -0.0);
            }
            due("3 less 5", acted("less", format, 3, 5, UP), bits(format, -2));
            due("0 less 5", acted("less", format, 0.0, 5, UP), bits(format, -5));
        }
        FigurePress x = with(7);
        x.set(1, DOUBLE, bits(DOUBLE, 2));
        x.less(0, 1, 2, NEAREST);
        due("what was taken stays", x.pattern(1), bits(DOUBLE, 2));
    }

    private static void sums() {
        sentence(SENTENCES[0]);
        dueFour("add", DOUBLE, 1, 0x1p-53, 1, 1, NEXT, 1);
        dueFour("add", DOUBLE, NEXT, 0x1p-53, SECOND, NEXT, SECOND, NEXT);
        dueFour("add", DOUBLE, 1, 0x1.0000000000001p-53, NEXT, 1, NEXT, 1);
        dueFour("add", DOUBLE, 1, LITTLE, 1, 1, NEXT, 1);
        dueFour("add", DOUBLE, -1, -LITTLE, -1, -1, -1, -NEXT);
        dueFour("add", DOUBLE, 1, -LITTLE, 1, 0x1.fffffffffffffp-1, 1, 0x1.fffffffffffffp-1);
        dueFour("add", DOUBLE, 0x1.fffffffffffffp0, 0x1p-53, 2, 0x1.fffffffffffffp0, 2, 0x1.fffffffffffffp0);
        dueFour("add", DOUBLE, LITTLE, LITTLE, 2 * LITTLE, 2 * LITTLE, 2 * LITTLE, 2 * LITTLE);
        dueFour("add", DOUBLE, 0x1p-1022, -LITTLE, 0x0.fffffffffffffp-1022, 0x0.fffffffffffffp-1022,
            0x0.fffffffffffffp-1022, 0x0.fffffffffffffp-1022);
        dueFour("add", FLOAT, 0x1p-150, 0x1p-1074, FLOAT_LITTLE, 0, FLOAT_LITTLE, 0);
        dueFour("add", FLOAT, 0x1p-151, 0x1p-151, 0, 0, FLOAT_LITTLE, 0);
        dueFour("add", FLOAT, -0x1p-151, -0x1p-151, -0.0, -0.0, -0.0, -FLOAT_LITTLE);
        dueFour("add", FLOAT, 0x1p-150, -0x1p-1074, 0, 0, FLOAT_LITTLE, 0);
        // one bit longer than both, by 64 and by 96 bits
        dueFour("add", DOUBLE, 0x1.fffffffffffffp63, 0x1p52, 0x1.001p64, 0x1.000ffffffffffp64, 0x1.001p64, 0x1.000ffffffffffp64);
        dueFour("add", DOUBLE, 0x1.fffffffffffffp95, 0x1p52, 0x1.00000000001p96, 0x1.00000000000ffp96, 0x1.00000000001p96,
            0x1.00000000000ffp96);
        // only one rounding: in DOUBLE first this would be the middle of two FLOATs
        dueFour("add", FLOAT, 0x1.000001p0, LITTLE, 0x1.000002p0, 1, 0x1.000002p0, 1);
        dueFour("add", FLOAT, 0x1.000003p0, -LITTLE, 0x1.000002p0, 0x1.000002p0, 0x1.000004p0, 0x1.000002p0);
    }

    private static void sumsBeyond() {
        sentence(SENTENCES[0]);
        dueFour("add", DOUBLE, MOST, 0x1p970, INF, MOST, INF, MOST);
        dueFour("add", DOUBLE, MOST, 0x1.fffffffffffffp969, MOST, MOST, INF, MOST);
        dueFour("add", DOUBLE, MOST, LITTLE, MOST, MOST, INF, MOST);
        dueFour("add", DOUBLE, MOST, MOST, INF, MOST, INF, MOST);
        dueFour("add", DOUBLE, -MOST, -0x1p970, -INF, -MOST, -MOST, -INF);
        dueFour("add", DOUBLE, -MOST, -LITTLE, -MOST, -MOST, -MOST, -INF);
        dueFour("add", DOUBLE, -MOST, -MOST, -INF, -MOST, -MOST, -INF);
        dueFour("add", FLOAT, FLOAT_MOST, 0x1p103, INF, FLOAT_MOST, INF, FLOAT_MOST);
        dueFour("add", FLOAT, FLOAT_MOST, 0x1.fffffffffffffp102, FLOAT_MOST, FLOAT_MOST, INF, FLOAT_MOST);
        dueFour("add", FLOAT, -FLOAT_MOST, -0x1p103, -INF, -FLOAT_MOST, -FLOAT_MOST, -INF);
        dueFour("add", FLOAT, MOST, MOST, INF, FLOAT_MOST, INF, FLOAT_MOST);
        dueFour("add", FLOAT, MOST, -MOST, 0.0, 0.0, 0.0, -0.0);
    }

    private static void differences() {
        sentence(SENTENCES[1]);
        dueFour("less", DOUBLE, MOST, -0x1p970, INF, MOST, INF, MOST);
        dueFour("less", DOUBLE, -MOST, 0x1p970, -INF, -MOST, -MOST, -INF);
        dueFour("less", DOUBLE, -MOST, LITTLE, -MOST, -MOST, -MOST, -INF);
        dueFour("less", DOUBLE, 1, 0x1p-54, 1, 0x1.fffffffffffffp-1, 1, 0x1.fffffffffffffp-1);
        dueFour("less", DOUBLE, LITTLE, 2 * LITTLE, -LITTLE, -LITTLE, -LITTLE, -LITTLE);
        dueFour("less", FLOAT, 0x1p-150, 0x1p-1074, 0, 0, FLOAT_LITTLE, 0);
        dueFour("less", FLOAT, -0x1p-150, 0x1p-1074, -FLOAT_LITTLE, -0.0, -0.0, -FLOAT_LITTLE);
        dueFour("less", FLOAT, -MOST, MOST, -INF, -FLOAT_MOST, -FLOAT_MOST, -INF);
    }

    // ---- times

    private static void products() {
        sentence(SENTENCES[2]);
        dueFour("times", DOUBLE, NEXT, NEXT, SECOND, SECOND, 0x1.0000000000003p0, SECOND);
        dueFour("times", DOUBLE, -NEXT, NEXT, -SECOND, -SECOND, -SECOND, -0x1.0000000000003p0);
        // (2 to the 27, less 1) times (2 to the 27, and 1): one bit too long, and the middle
        dueFour("times", DOUBLE, 134217727, 134217729, 0x1p54, 0x1.fffffffffffffp53, 0x1p54, 0x1.fffffffffffffp53);
        dueFour("times", DOUBLE, 1.5, 0x1.0000000000001p0, 0x1.8000000000002p0, 0x1.8000000000001p0, 0x1.8000000000002p0,
            0x1.8000000000001p0);
        dueFour("times", DOUBLE, 1.5, 0x1.0000000000003p0, 0x1.8000000000004p0, 0x1.8000000000004p0, 0x1.8000000000005p0,
            0x1.8000000000004p0);
        dueFour("times", DOUBLE, 0x1.fffffffffffffp52, 0x1.001p-1031, 0x1.000ffffffffffp-978, 0x1.000ffffffffffp-978,
            0x1.001p-978, 0x1.000ffffffffffp-978);
        dueFour("times", DOUBLE, LITTLE, 0.5, 0, 0, LITTLE, 0);
        dueFour("times", DOUBLE, LITTLE, -0.5, -0.0, -0.0, -0.0, -LITTLE);
        dueFour("times", DOUBLE, LITTLE, 0x1.0000000000001p-1, LITTLE, 0, LITTLE, 0);
        dueFour("times", DOUBLE, LITTLE, 0x1.fffffffffffffp-2, 0, 0, LITTLE, 0);
        dueFour("times", DOUBLE, LITTLE, 1.5, 2 * LITTLE, LITTLE, 2 * LITTLE, LITTLE);
        dueFour("times", DOUBLE, LITTLE, -2.5, -2 * LITTLE, -2 * LITTLE, -2 * LITTLE, -3 * LITTLE);
        dueFour("times", DOUBLE, LITTLE, LITTLE, 0, 0, LITTLE, 0);
        dueFour("times", DOUBLE, LITTLE, -LITTLE, -0.0, -0.0, -0.0, -LITTLE);
        dueFour("times", DOUBLE, 0x1.fffffffffffffp-1, 0x1p-1022, 0x1p-1022, 0x0.fffffffffffffp-1022, 0x1p-1022,
            0x0.fffffffffffffp-1022);
        dueFour("times", FLOAT, 0x1p-75, 0x1p-75, 0, 0, FLOAT_LITTLE, 0);
        dueFour("times", FLOAT, LITTLE, -LITTLE, -0.0, -0.0, -0.0, -FLOAT_LITTLE);
    }

    private static void productsBeyond() {
        sentence(SENTENCES[2]);
        dueFour("times", DOUBLE, MOST, NEXT, INF, MOST, INF, MOST);
        dueFour("times", DOUBLE, MOST, -NEXT, -INF, -MOST, -MOST, -INF);
        dueFour("times", DOUBLE, MOST, MOST, INF, MOST, INF, MOST);
        dueFour("times", DOUBLE, 0x1p512, 0x1p512, INF, MOST, INF, MOST);
        // the middle behind the greatest, and beneath it
        dueFour("times", DOUBLE, 134217727 * 0x1p500, 134217729 * 0x1p470, INF, MOST, INF, MOST);
        dueFour("times", DOUBLE, 134217727 * 0x1p500, -134217729 * 0x1p470, -INF, -MOST, -MOST, -INF);
        dueFour("times", FLOAT, 0x1p64, 0x1p64, INF, FLOAT_MOST, INF, FLOAT_MOST);
        // 2 to the 25, less 1, is 31 times 1082401
        dueFour("times", FLOAT, 31, 1082401 * 0x1p103, INF, FLOAT_MOST, INF, FLOAT_MOST);
        dueFour("times", FLOAT, 31, 0x1.ffffffffffffep-1 * 1082401 * 0x1p103, FLOAT_MOST, FLOAT_MOST, INF, FLOAT_MOST);
        dueFour("times", FLOAT, MOST, -MOST, -INF, -FLOAT_MOST, -FLOAT_MOST, -INF);
    }

    private static void noughtTimesEndless() {
        sentence("times: nought times ENDLESS: NONE.");
        for (int format = 0; format < 2; format++) {
            for (int way = 0; way < 4; way++) {
                for (double nought : new double[] {0.0, -0.0}) {
                    for (double endless : new double[] {INF, -INF}) {
                        due(nought + " times " + endless, acted("times", format, nought, endless, way), NONE[format]);
                        due(endless + " times " + nought, acted("times", format, endless, nought, way), NONE[format]);
                    }
                }
            }
        }
    }

    // ---- over

    private static void quotients() {
        sentence(SENTENCES[3]);
        dueFour("over", DOUBLE, 1, 3, 0x1.5555555555555p-2, 0x1.5555555555555p-2, 0x1.5555555555556p-2, 0x1.5555555555555p-2);
        dueFour("over", DOUBLE, -2, 3, -0x1.5555555555555p-1, -0x1.5555555555555p-1, -0x1.5555555555555p-1,
            -0x1.5555555555556p-1);
        dueFour("over", DOUBLE, 6, -3, -2, -2, -2, -2);
        dueFour("over", DOUBLE, LITTLE, 2, 0, 0, LITTLE, 0);
        dueFour("over", DOUBLE, LITTLE, -2, -0.0, -0.0, -0.0, -LITTLE);
        dueFour("over", DOUBLE, LITTLE, 0x1.fffffffffffffp0, LITTLE, 0, LITTLE, 0);
        dueFour("over", DOUBLE, LITTLE, 0x1.0000000000001p1, 0, 0, LITTLE, 0);
        dueFour("over", DOUBLE, 3 * LITTLE, 2, 2 * LITTLE, LITTLE, 2 * LITTLE, LITTLE);
        dueFour("over", DOUBLE, 5 * LITTLE, 2, 2 * LITTLE, 2 * LITTLE, 3 * LITTLE, 2 * LITTLE);
        dueFour("over", DOUBLE, LITTLE, MOST, 0, 0, LITTLE, 0);
        dueFour("over", DOUBLE, LITTLE, LITTLE, 1, 1, 1, 1);
        dueFour("over", DOUBLE, MOST, MOST, 1, 1, 1, 1);
        dueFour("over", DOUBLE, 0x1.fffffffffffffp-1022, 2, 0x1p-1022, 0x0.fffffffffffffp-1022, 0x1p-1022,
            0x0.fffffffffffffp-1022);
        dueFour("over", FLOAT, 0x1p-149, 2, 0, 0, FLOAT_LITTLE, 0);
        dueFour("over", FLOAT, LITTLE, -MOST, -0.0, -0.0, -0.0, -FLOAT_LITTLE);
        // above the middle of two FLOATs by so little that a DOUBLE hardly shows it
        dueFour("over", FLOAT, 0x1.000001p0, 0x1.fffffffffffffp-1, 0x1.000002p0, 1, 0x1.000002p0, 1);
    }

    private static void quotientsBeyond() {
        sentence(SENTENCES[3]);
        dueFour("over", DOUBLE, MOST, 0x1.fffffffffffffp-1, INF, MOST, INF, MOST);
        dueFour("over", DOUBLE, MOST, 0.5, INF, MOST, INF, MOST);
        dueFour("over", DOUBLE, MOST, -LITTLE, -INF, -MOST, -MOST, -INF);
        dueFour("over", DOUBLE, 0x1p1023, 0.5, INF, MOST, INF, MOST);
        dueFour("over", DOUBLE, 0x1p1022, 0.5, 0x1p1023, 0x1p1023, 0x1p1023, 0x1p1023);
        dueFour("over", FLOAT, 0x1.ffffffp127, 1, INF, FLOAT_MOST, INF, FLOAT_MOST);
        dueFour("over", FLOAT, 0x1.fffffefffffffp127, 1, FLOAT_MOST, FLOAT_MOST, INF, FLOAT_MOST);
        dueFour("over", FLOAT, 0x1p127, -0.5, -INF, -FLOAT_MOST, -FLOAT_MOST, -INF);
    }

    private static void quotientsOfNought() {
        for (int format = 0; format < 2; format++) {
            for (int way = 0; way < 4; way++) {
                for (int signs = 0; signs < 4; signs++) {
                    double nought = (signs & 1) == 0 ? 0.0 : -0.0;
                    double other = (signs & 2) == 0 ? 0.0 : -0.0;
                    double endless = (signs & 1) == 0 ? INF : -INF;
                    double otherEndless = (signs & 2) == 0 ? INF : -INF;
                    boolean minus = signs == 1 || signs == 2;
                    long least = bits(DOUBLE, other) | LEAST;
                    sentence("over: nought by nought, ENDLESS by ENDLESS: NONE;");
                    due(nought + " by " + other, acted("over", format, nought, other, way), NONE[format]);
                    due(endless + " by " + otherEndless, acted("over", format, endless, otherEndless, way), NONE[format]);
                    sentence("other numbers by nought, ENDLESS by a number: ENDLESS;");
                    long endlessWant = minus ? minus(format, ENDLESS[format]) : ENDLESS[format];
                    double little = Double.longBitsToDouble(least);
                    due(little + " by " + nought, acted("over", format, little, nought, way), endlessWant);
                    due(endless + " by " + other, acted("over", format, endless, other, way), endlessWant);
                    due(endless + " by " + little, acted("over", format, endless, little, way), endlessWant);
                    sentence("a number by ENDLESS: nought.");
                    long noughtWant = minus ? SIGN[format] : 0;
                    due(nought + " by " + otherEndless, acted("over", format, nought, otherEndless, way), noughtWant);
                    due(little + " by " + endless, acted("over", format, little, endless, way), noughtWant);
                }
            }
        }
    }

    // ---- fused

    private static void fusedOnce() {
        sentence(SENTENCES[4]);
        // rounded first, the product would be SECOND and the sum the middle of two numbers
        dueFused(DOUBLE, NEXT, NEXT, 0x1p-53, 0x1.0000000000003p0, SECOND, 0x1.0000000000003p0, SECOND);
        dueFused(DOUBLE, NEXT, NEXT, -SECOND, 0x1p-104, 0x1p-104, 0x1p-104, 0x1p-104);
        dueFused(DOUBLE, -NEXT, NEXT, SECOND, -0x1p-104, -0x1p-104, -0x1p-104, -0x1p-104);
        dueFused(DOUBLE, 0x1p-27, 0x1p-26, 1, 1, 1, NEXT, 1);
        dueFused(DOUBLE, 0x1p-27, 0x1p-26, NEXT, SECOND, NEXT, SECOND, NEXT);
        dueFused(DOUBLE, LITTLE, LITTLE, 1, 1, 1, NEXT, 1);
        dueFused(DOUBLE, LITTLE, -LITTLE, 1, 1, 0x1.fffffffffffffp-1, 1, 0x1.fffffffffffffp-1);
        dueFused(DOUBLE, LITTLE, LITTLE, 0.0, 0, 0, LITTLE, 0);
        dueFused(DOUBLE, LITTLE, -LITTLE, 0.0, -0.0, -0.0, -0.0, -LITTLE);
        dueFused(DOUBLE, LITTLE, 0.5, LITTLE, 2 * LITTLE, LITTLE, 2 * LITTLE, LITTLE);
        dueFused(DOUBLE, LITTLE, 0.5, -LITTLE, -0.0, -0.0, -0.0, -LITTLE);
        dueFused(FLOAT, NEXT, NEXT, 0x1p-24, 0x1.000002p0, 1, 0x1.000002p0, 1);
        dueFused(FLOAT, 0x1p-75, 0x1p-75, 0.0, 0, 0, FLOAT_LITTLE, 0);
        dueFused(FLOAT, 0x1p-75, 0x1p-75, FLOAT_LITTLE, 2 * FLOAT_LITTLE, FLOAT_LITTLE, 2 * FLOAT_LITTLE, FLOAT_LITTLE);
    }

    private static void fusedBeyond() {
        sentence(SENTENCES[4]);
        dueFused(DOUBLE, MOST, MOST, -MOST, INF, MOST, INF, MOST);
        dueFused(DOUBLE, MOST, -MOST, MOST, -INF, -MOST, -MOST, -INF);
        dueFused(DOUBLE, MOST, 2, -MOST, MOST, MOST, MOST, MOST);
        dueFused(DOUBLE, 0x1p512, 0x1p512, -0x1p971, MOST, MOST, MOST, MOST);
        dueFused(DOUBLE, 0x1p512, 0x1p512, -0x1p970, INF, MOST, INF, MOST);
        dueFused(DOUBLE, 0x1p512, 0x1p512, -0x1.0000000000001p970, MOST, MOST, INF, MOST);
        dueFused(DOUBLE, LITTLE, LITTLE, MOST, MOST, MOST, INF, MOST);
        dueFused(DOUBLE, LITTLE, -LITTLE, -MOST, -MOST, -MOST, -MOST, -INF);
        dueFused(DOUBLE, MOST, MOST, LITTLE, INF, MOST, INF, MOST);
        dueFused(FLOAT, MOST, MOST, -FLOAT_MOST, INF, FLOAT_MOST, INF, FLOAT_MOST);
        dueFused(FLOAT, 0x1p64, 0x1p64, -0x1p103, INF, FLOAT_MOST, INF, FLOAT_MOST);
        dueFused(FLOAT, 0x1p64, -0x1p64, 0x1.000002p103, -FLOAT_MOST, -FLOAT_MOST, -FLOAT_MOST, -INF);
    }

    private static void fusedNoughts() {
        sentence("fused: the product exactly and the third one, as add tells of them");
        for (int format = 0; format < 2; format++) {
            dueFused(format, 0.0, 3, 0.0, 0.0, 0.0, 0.0, 0.0);
            dueFused(format, -0.0, -3, 0.0, 0.0, 0.0, 0.0, 0.0);
            dueFused(format, 0.0, -3, -0.0, -0.0, -0.0, -0.0, -0.0);
            dueFused(format, -0.0, 0.0, -0.0, -0.0, -0.0, -0.0, -0.0);
            dueFused(format, 0.0, 3, -0.0, 0.0, 0.0, 0.0, -0.0);
            dueFused(format, 3, -0.0, 0.0, 0.0, 0.0, 0.0, -0.0);
            dueFused(format, 2, 3, -6, 0.0, 0.0, 0.0, -0.0);
            dueFused(format, -2, 3, 6, 0.0, 0.0, 0.0, -0.0);
            dueFused(format, 0.0, 3, FLOAT_LITTLE, FLOAT_LITTLE, FLOAT_LITTLE, FLOAT_LITTLE, FLOAT_LITTLE);
            dueFused(format, -0.0, 3, -FLOAT_MOST, -FLOAT_MOST, -FLOAT_MOST, -FLOAT_MOST, -FLOAT_MOST);
        }
    }

    private static void fusedEndless() {
        sentence("(a product that is ENDLESS is that; nought times ENDLESS: NONE).");
        for (int format = 0; format < 2; format++) {
            for (double third : new double[] {0.0, -1, -FLOAT_MOST, INF}) {
                dueFused(format, INF, 2, third, INF, INF, INF, INF);
                dueFused(format, -LITTLE, -INF, third, INF, INF, INF, INF);
                dueFused(format, INF, -INF, -third, -INF, -INF, -INF, -INF);
            }
            dueFused(format, INF, 2, -INF, NAN, NAN, NAN, NAN);
            dueFused(format, -1, INF, INF, NAN, NAN, NAN, NAN);
            for (double third : new double[] {0.0, 1, INF, -INF, NAN}) {
                dueFused(format, 0.0, INF, third, NAN, NAN, NAN, NAN);
                dueFused(format, -INF, -0.0, third, NAN, NAN, NAN, NAN);
            }
            // a product of numbers is none that is ENDLESS, however great
            dueFused(format, MOST, MOST, -INF, -INF, -INF, -INF, -INF);
            dueFused(format, MOST, -MOST, INF, INF, INF, INF, INF);
        }
    }

    // ---- root

    private static void rootsOfNought() {
        sentence("root: of nought itself; of what is below 0 NONE; of ENDLESS itself.");
        for (int format = 0; format < 2; format++) {
            dueRoot(format, 0.0, 0.0, 0.0, 0.0, 0.0);
            dueRoot(format, -0.0, -0.0, -0.0, -0.0, -0.0);
            dueRoot(format, INF, INF, INF, INF, INF);
            for (double below : new double[] {-LITTLE, -1, -4, -MOST, -INF}) {
                dueRoot(format, below, NAN, NAN, NAN, NAN);
            }
        }
    }

    private static void roots() {
        sentence("Place r becomes the square root of p's, rounded.");
        dueRoot(DOUBLE, 1, 1, 1, 1, 1);
        dueRoot(DOUBLE, 4, 2, 2, 2, 2);
        dueRoot(DOUBLE, 2, 0x1.6a09e667f3bcdp0, 0x1.6a09e667f3bccp0, 0x1.6a09e667f3bcdp0, 0x1.6a09e667f3bccp0);
        dueRoot(DOUBLE, NEXT, 1, 1, NEXT, 1);
        dueRoot(DOUBLE, 0x1.fffffffffffffp-1, 0x1.fffffffffffffp-1, 0x1.fffffffffffffp-1, 1, 0x1.fffffffffffffp-1);
        dueRoot(DOUBLE, LITTLE, 0x1p-537, 0x1p-537, 0x1p-537, 0x1p-537);
        dueRoot(DOUBLE, 2 * LITTLE, 0x1.6a09e667f3bcdp-537, 0x1.6a09e667f3bccp-537, 0x1.6a09e667f3bcdp-537,
            0x1.6a09e667f3bccp-537);
        dueRoot(DOUBLE, 0x1p-1022, 0x1p-511, 0x1p-511, 0x1p-511, 0x1p-511);
        dueRoot(DOUBLE, MOST, 0x1.fffffffffffffp511, 0x1.fffffffffffffp511, 0x1p512, 0x1.fffffffffffffp511);
        FigurePress x = with(FLOAT, LEAST);
        x.root(0, 1, UP);
        due("of the least FLOAT", x.pattern(1), bits(FLOAT, 0x1.6a09e8p-75));
        x.set(0, FLOAT, GREATEST[FLOAT]);
        x.root(0, 1, UP);
        due("of the greatest FLOAT", x.pattern(1), bits(FLOAT, 0x1p64));
    }

    private static void rootsInFloat() {
        sentence("Place r becomes the square root of p's, rounded.");
        dueRoot(FLOAT, 0x1.000001p0 * 0x1.000001p0, 1, 1, 0x1.000002p0, 1);
        dueRoot(FLOAT, 0x1.000003p0 * 0x1.000003p0, 0x1.000004p0, 0x1.000002p0, 0x1.000004p0, 0x1.000002p0);
        dueRoot(FLOAT, 0x1p-300, 0, 0, FLOAT_LITTLE, 0);
        dueRoot(FLOAT, 0x1.0000000000001p-300, FLOAT_LITTLE, 0, FLOAT_LITTLE, 0);
        dueRoot(FLOAT, LITTLE, 0, 0, FLOAT_LITTLE, 0);
        dueRoot(FLOAT, 0x1p-298, FLOAT_LITTLE, FLOAT_LITTLE, FLOAT_LITTLE, FLOAT_LITTLE);
        dueRoot(FLOAT, MOST, INF, FLOAT_MOST, INF, FLOAT_MOST);
        dueRoot(FLOAT, 0x1p256, INF, FLOAT_MOST, INF, FLOAT_MOST);
        dueRoot(FLOAT, 0x1.fffffep127 * 0x1.fffffep127, FLOAT_MOST, FLOAT_MOST, FLOAT_MOST, FLOAT_MOST);
        dueRoot(FLOAT, 0x1.ffffffp127 * 0x1.ffffffp127, INF, FLOAT_MOST, INF, FLOAT_MOST);
        dueRoot(FLOAT, Math.nextDown(0x1.ffffffp127 * 0x1.ffffffp127), FLOAT_MOST, FLOAT_MOST, INF, FLOAT_MOST);
    }

    // ---- the same place told more than once

    private static void samePlaces() {
        double[] wants = {6, 0, 9, 1, 12};
        for (int i = 0; i < ACTS.length; i++) {
            sentence(SENTENCES[i]);
            for (int place = 0; place < 16; place += 15) {
                FigurePress x = new FigurePress();
                x.set(place, DOUBLE, bits(DOUBLE, 3));
                act(x, ACTS[i], place, place, place, NEAREST);
                due(ACTS[i] + " of a place to itself", x.pattern(place), bits(DOUBLE, wants[i]));
            }
        }
        sentence("Place r becomes the square root of p's, rounded.");
        FigurePress x = with(9);
        x.root(0, 0, NEAREST);
        due("root of a place to itself", x.pattern(0), bits(DOUBLE, 3));
    }

    // ---- helpers

    private static void act(FigurePress x, String name, int p, int q, int r, int way) {
        switch (name) {
            case "add":
                x.add(p, q, r, way);
                break;
            case "less":
                x.less(p, q, r, way);
                break;
            case "times":
                x.times(p, q, r, way);
                break;
            case "over":
                x.over(p, q, r, way);
                break;
            default:
                x.fused(p, q, r, way);
                break;
        }
    }

    /** What two DOUBLEs make at a place of a format, that has nought. */
    private static long acted(String name, int format, double p, double q, int way) {
        FigurePress x = with(p);
        x.set(1, DOUBLE, bits(DOUBLE, q));
        x.set(2, format, 0);
        act(x, name, 0, 1, 2, way);
        due("format of " + name, x.told(2, 0), format);
        due("first of " + name, x.pattern(0), bits(DOUBLE, p));
        due("second of " + name, x.pattern(1), bits(DOUBLE, q));
        return x.pattern(2);
    }

    private static void dueFour(String name, int format, double p, double q, double... wants) {
        for (int way = 0; way < 4; way++) {
            due(name + " " + p + " " + q + " format " + format + " way " + way, acted(name, format, p, q, way),
                bits(format, wants[way]));
        }
    }

    private static long fused(int format, double p, double q, double r, int way) {
        FigurePress x = with(p);
        x.set(1, DOUBLE, bits(DOUBLE, q));
        x.set(2, format, bits(format, r));
        x.fused(0, 1, 2, way);
        due("format of fused", x.told(2, 0), format);
        return x.pattern(2);
    }

    private static void dueFused(int format, double p, double q, double r, double... wants) {
        for (int way = 0; way < 4; way++) {
            due("fused " + p + " " + q + " " + r + " format " + format + " way " + way, fused(format, p, q, r, way),
                bits(format, wants[way]));
        }
    }

    private static long root(int format, double p, int way) {
        FigurePress x = with(p);
        x.set(1, format, 77);
        x.root(0, 1, way);
        due("format of root", x.told(1, 0), format);
        return x.pattern(1);
    }

    private static void dueRoot(int format, double p, double... wants) {
        for (int way = 0; way < 4; way++) {
            due("root " + p + " format " + format + " way " + way, root(format, p, way), bits(format, wants[way]));
        }
    }
}
