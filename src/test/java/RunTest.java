import java.util.Random;

/** Runs of 512 calls with any arguments: each throws just what the document says, and then changes nothing. */
public final class RunTest {
    private static final int RUNS = 1500;
    private static final int CALLS = 512;
    private static final int[] ODD = {-1, 2, 4, 6, 9, 15, 16, 60, 61, 1200, Integer.MIN_VALUE, Integer.MAX_VALUE};
    private static final String TEXT = "0123456789012345678901234567890.+-ex";

    private final Random random;
    private final FigurePress x = new FigurePress();
    private final long[] patterns = new long[16];
    private final int[] formats = new int[16];
    private int tape = 0;
    private int tapeBefore = 0;
    private int written = 0;
    private static int wrong = 0;

    private RunTest(long seed) {
        random = new Random(seed);
    }

    public static void main(String[] args) {
        for (int run = 0; run < RUNS; run++) {
            RunTest test = new RunTest(run);
            for (int i = 0; i < CALLS && wrong < 20; i++) {
                test.call(run);
            }
        }
        System.out.println(wrong == 0 ? "all runs are as due" : wrong + " calls are not as due");
        if (wrong != 0) {
            System.exit(1);
        }
    }

    private int argument(int below) {
        return random.nextInt(40) == 0 ? ODD[random.nextInt(ODD.length)] : random.nextInt(below);
    }

    private void call(int run) {
        int kind = random.nextInt(22);
        int p = argument(16);
        int q = argument(16);
        int r = argument(16);
        int format = argument(2);
        int way = argument(4);
        int what = argument(4);
        int form = argument(6);
        int n = kind >= 20 ? 1 + argument(8) : argument(61);
        String got = "nothing";
        try {
            make(kind, new int[] {p, q, r, format, way, what, form, n});
        } catch (RuntimeException e) {
            got = e.getClass().getSimpleName();
        }
        String want = due(kind, new int[] {p, q, r, format, way, what, form, n});
        boolean noLong = kind == 6 && want.equals("nothing") && got.equals("ArithmeticException");
        if (!got.equals(want) && !noLong) {
            wrong++;
            System.out.println("run " + run + ": call " + kind + " throws " + got + ", due is " + want);
        }
        if (!got.equals("nothing")) {
            dueUnchanged(run, kind);
        }
        keep(kind, got.equals("nothing"), n);
    }

    private void make(int kind, int[] a) {
        int p = a[0];
        int q = a[1];
        int r = a[2];
        int format = a[3];
        int way = a[4];
        switch (kind) {
            case 0: x.set(r, format, random.nextLong() >> random.nextInt(64)); break;
            case 1: x.pattern(p); break;
            case 2: x.told(p, a[5]); break;
            case 3: x.whole(p); break;
            case 4: x.convert(p, r, format, way); break;
            case 5: x.from(r, format, random.nextLong() >> random.nextInt(64), way); break;
            case 6: x.to(p, way); break;
            case 7: x.order(p, q); break;
            case 8: x.step(r, random.nextBoolean()); break;
            case 9: x.add(p, q, r, way); break;
            case 10: x.less(p, q, r, way); break;
            case 11: x.times(p, q, r, way); break;
            case 12: x.over(p, q, r, way); break;
            case 13: x.fused(p, q, r, way); break;
            case 14: x.root(p, r, way); break;
            case 15: x.read(r, format, way); break;
            case 16:
            case 17: written = x.write(p, a[6], a[7], way); break;
            case 18: x.letter(p); break;
            default: tape = x.feed(someText(), a[7]); break;
        }
    }

    private long someText() {
        long eight = 0;
        for (int i = 0; i < 8; i++) {
            eight = eight << 8 | (random.nextInt(60) == 0 ? random.nextInt(256) : TEXT.charAt(random.nextInt(TEXT.length())));
        }
        return eight;
    }

    private String due(int kind, int[] a) {
        boolean usesP = kind >= 1 && kind <= 4 || kind == 6 || kind == 7 || kind >= 9 && kind <= 14 || kind == 16 || kind == 17;
        boolean usesQ = kind == 7 || kind >= 9 && kind <= 13;
        boolean usesR = kind == 0 || kind == 4 || kind == 5 || kind >= 8 && kind <= 15;
        boolean usesFormat = kind == 0 || kind == 4 || kind == 5 || kind == 15;
        boolean usesWay = kind == 4 || kind == 5 || kind == 6 || kind >= 9 && kind <= 17;
        if (usesP && outside(a[0], 0, 15) || usesQ && outside(a[1], 0, 15) || usesR && outside(a[2], 0, 15)) {
            return "IndexOutOfBoundsException";
        }
        boolean bad = usesFormat && outside(a[3], 0, 1) || usesWay && outside(a[4], 0, 3) || kind == 2 && outside(a[5], 0, 3);
        if (kind == 16 || kind == 17) {
            bad |= outside(a[6], 0, 5) || a[6] == 2 && outside(a[7], 0, 60) || a[6] == 3 && outside(a[7], 1, 60);
        }
        if (kind >= 19) {
            bad |= outside(a[7], 1, 8) || tapeBefore + a[7] > 1200;
        }
        return bad ? "IllegalArgumentException" : "nothing";
    }

    private static boolean outside(int v, int least, int most) {
        return v < least || v > most;
    }

    private void dueUnchanged(int run, int kind) {
        boolean same = true;
        for (int p = 0; p < 16; p++) {
            same &= x.pattern(p) == patterns[p] && x.told(p, 0) == formats[p];
        }
        same &= x.letter(written) == -1 && (written == 0 || x.letter(written - 1) != -1);
        if (!same) {
            wrong++;
            System.out.println("run " + run + ": call " + kind + " throws, but changes something");
        }
    }

    private void keep(int kind, boolean worked, int n) {
        if (worked && kind == 15) {
            tape = 0;
        }
        if (worked && kind >= 19 && tape != tapeBefore + n) {
            wrong++;
            System.out.println("feed answers " + tape + " after " + tapeBefore + " and " + n);
        }
        tapeBefore = tape;
        for (int p = 0; p < 16; p++) {
            patterns[p] = x.pattern(p);
            formats[p] = x.told(p, 0);
        }
    }
}
