/**
 * The sentences on what is refused: each refusal of each call by itself, the order in which two are told,
 * that a refused call changes nothing, and that what stands just beside is not refused.
 */
public final class RefusalEdgesTest extends Edges {
    private static final String PLACES = "IndexOutOfBoundsException: a place that is none (of all that are told, ahead of all else);";
    private static final String ARGUMENTS = "IllegalArgumentException: a format other than 0, 1, a way other than 0 .. 3, or as told.";
    private static final String NOTHING = "A call that throws changes nothing.";
    private static final String NO_WHAT = "IllegalArgumentException: another what.";
    private static final String NO_LONG = "ArithmeticException: it is no number, or that is no long.";
    private static final String NO_BYTES = "IllegalArgumentException: n isn't 1 .. 8, or there would be more than 1200.";
    private static final String NO_FORM = "IllegalArgumentException: another form, or (of 2 and 3) n isn't 0 .. 60, or 1 .. 60.";

    private static final Class<?> INDEX = IndexOutOfBoundsException.class;
    private static final Class<?> ARGUMENT = IllegalArgumentException.class;
    private static final Class<?> ARITHMETIC = ArithmeticException.class;

    private static final String TAPE = "-12.5e1";
    private static final String SHEET = "-0x1.2p1";
    private static final int[] NO_WHATS = {-1, 4, Integer.MIN_VALUE, Integer.MAX_VALUE};
    private static final int[] NO_FORMS = {-1, 6, Integer.MIN_VALUE, Integer.MAX_VALUE};
    /** Places of the full object that hold a FLOAT, ENDLESS, NONE and a number that is no long. */
    private static final int[] NO_LONGS = {2, 3, 5, 7, 8};

    private interface Refusal {
        void of(FigurePress x);
    }

    public static void main(String[] args) {
        noPlaceOfOne();
        noPlaceOfTwo();
        noPlaceOfThree();
        placesAheadOfAllElse();
        noFormats();
        noWays();
        noWaysOfForms();
        noWhats();
        noLongs();
        noBytes();
        noForms();
        justInside();
        end();
    }

    // ---- places

    private static void noPlaceOfOne() {
        sentence(PLACES);
        for (int p : NO_PLACES) {
            dueRefused("set " + p, INDEX, x -> x.set(p, DOUBLE, 5));
            dueRefused("pattern " + p, INDEX, x -> x.pattern(p));
            dueRefused("whole " + p, INDEX, x -> x.whole(p));
            dueRefused("step up " + p, INDEX, x -> x.step(p, true));
            dueRefused("step down " + p, INDEX, x -> x.step(p, false));
            for (int i = 0; i < 4; i++) {
                int told = i;
                dueRefused("told " + p + " " + i, INDEX, x -> x.told(p, told));
                dueRefused("from " + p + " way " + i, INDEX, x -> x.from(p, FLOAT, 5, told));
                dueRefused("to " + p + " way " + i, INDEX, x -> x.to(p, told));
                dueRefused("read " + p + " way " + i, INDEX, x -> x.read(p, FLOAT, told));
            }
            for (int form = 0; form < 6; form++) {
                int told = form;
                dueRefused("write " + p + " form " + form, INDEX, x -> x.write(p, told, 3, NEAREST));
            }
        }
    }

    private static void noPlaceOfTwo() {
        sentence(PLACES);
        for (int p : NO_PLACES) {
            dueRefused("convert from " + p, INDEX, x -> x.convert(p, 1, FLOAT, NEAREST));
            dueRefused("convert to " + p, INDEX, x -> x.convert(0, p, FLOAT, NEAREST));
            dueRefused("convert " + p, INDEX, x -> x.convert(p, p, FLOAT, NEAREST));
            dueRefused("order of " + p, INDEX, x -> x.order(p, 1));
            dueRefused("order and " + p, INDEX, x -> x.order(1, p));
            dueRefused("order of NONE and " + p, INDEX, x -> x.order(3, p));
            dueRefused("root of " + p, INDEX, x -> x.root(p, 1, NEAREST));
            dueRefused("root to " + p, INDEX, x -> x.root(0, p, NEAREST));
        }
    }

    private static void noPlaceOfThree() {
        sentence(PLACES);
        for (int p : NO_PLACES) {
            for (int act = 0; act < 5; act++) {
                int told = act;
                dueRefused("act " + act + " of " + p, INDEX, x -> act(x, told, p, 1, 0, NEAREST));
                dueRefused("act " + act + " and " + p, INDEX, x -> act(x, told, 0, p, 1, NEAREST));
                dueRefused("act " + act + " to " + p, INDEX, x -> act(x, told, 0, 1, p, NEAREST));
                dueRefused("act " + act + " of NONE to " + p, INDEX, x -> act(x, told, 3, 3, p, NEAREST));
            }
        }
    }

    private static void placesAheadOfAllElse() {
        sentence("(of all that are told, ahead of all else)");
        for (int p : NO_PLACES) {
            dueRefused("set, format", INDEX, x -> x.set(p, 2, 5));
            dueRefused("told, what", INDEX, x -> x.told(p, 4));
            dueRefused("from, format", INDEX, x -> x.from(p, 2, 5, NEAREST));
            dueRefused("from, way", INDEX, x -> x.from(p, FLOAT, 5, 4));
            dueRefused("from, both", INDEX, x -> x.from(p, -1, 5, -1));
            dueRefused("to, way", INDEX, x -> x.to(p, 4));
            dueRefused("read, format", INDEX, x -> x.read(p, 2, NEAREST));
            dueRefused("read, way", INDEX, x -> x.read(p, FLOAT, 4));
            dueRefused("write, form", INDEX, x -> x.write(p, 6, 3, NEAREST));
            dueRefused("write, n", INDEX, x -> x.write(p, FIXED, 61, NEAREST));
            dueRefused("write, n", INDEX, x -> x.write(p, ROUNDED, 0, NEAREST));
            dueRefused("write, way", INDEX, x -> x.write(p, PLAIN, 3, 4));
            dueRefused("write, all", INDEX, x -> x.write(p, -1, -1, -1));
            // the last place that is told, too
            dueRefused("convert, format", INDEX, x -> x.convert(0, p, 2, NEAREST));
            dueRefused("convert, format", INDEX, x -> x.convert(p, 0, 2, NEAREST));
            dueRefused("convert, way", INDEX, x -> x.convert(0, p, FLOAT, 4));
            dueRefused("convert, way", INDEX, x -> x.convert(p, 0, FLOAT, 4));
            dueRefused("root, way", INDEX, x -> x.root(0, p, 4));
            dueRefused("root, way", INDEX, x -> x.root(p, 0, 4));
            for (int act = 0; act < 5; act++) {
                int told = act;
                dueRefused("act " + act + ", way", INDEX, x -> act(x, told, p, 1, 2, 4));
                dueRefused("act " + act + ", way", INDEX, x -> act(x, told, 0, p, 2, -1));
                dueRefused("act " + act + ", way", INDEX, x -> act(x, told, 0, 1, p, 4));
            }
        }
    }

    // ---- formats and ways

    private static void noFormats() {
        sentence(ARGUMENTS);
        for (int format : NO_FORMATS) {
            dueRefused("set, format " + format, ARGUMENT, x -> x.set(0, format, 5));
            dueRefused("convert, format " + format, ARGUMENT, x -> x.convert(0, 1, format, NEAREST));
            dueRefused("convert of NONE, format " + format, ARGUMENT, x -> x.convert(3, 1, format, NEAREST));
            dueRefused("from, format " + format, ARGUMENT, x -> x.from(0, format, 5, NEAREST));
            dueRefused("read, format " + format, ARGUMENT, x -> x.read(0, format, NEAREST));
            dueRefused("convert, format and way", ARGUMENT, x -> x.convert(0, 1, format, 4));
            dueRefused("from, format and way", ARGUMENT, x -> x.from(0, format, 5, 4));
            dueRefused("read, format and way", ARGUMENT, x -> x.read(0, format, 4));
        }
    }

    private static void noWays() {
        sentence(ARGUMENTS);
        for (int way : NO_WAYS) {
            dueRefused("from, way " + way, ARGUMENT, x -> x.from(0, FLOAT, 5, way));
            dueRefused("from, way " + way, ARGUMENT, x -> x.from(0, DOUBLE, 0, way));
            dueRefused("read, way " + way, ARGUMENT, x -> x.read(0, FLOAT, way));
            for (int p = 0; p < 16; p++) {
                int place = p;
                dueRefused("to of " + p + ", way " + way, ARGUMENT, x -> x.to(place, way));
                dueRefused("convert of " + p + ", way " + way, ARGUMENT, x -> x.convert(place, 1, DOUBLE, way));
                dueRefused("root of " + p + ", way " + way, ARGUMENT, x -> x.root(place, 1, way));
                for (int act = 0; act < 5; act++) {
                    int told = act;
                    dueRefused("act " + act + " of " + p + ", way " + way, ARGUMENT, x -> act(x, told, place, 0, 1, way));
                }
            }
        }
    }

    private static void noWaysOfForms() {
        sentence("way the way of these (of others it must be one, too)");
        for (int way : NO_WAYS) {
            for (int form = 0; form < 6; form++) {
                for (int p = 0; p < 16; p++) {
                    int told = form;
                    int place = p;
                    dueRefused("write of " + p + ", form " + form + ", way " + way, ARGUMENT, x -> x.write(place, told, 3, way));
                }
            }
            dueRefused("write, n and way", ARGUMENT, x -> x.write(0, FIXED, 61, way));
            dueRefused("write, form and way", ARGUMENT, x -> x.write(0, 6, 3, way));
        }
        // an empty tape, or one that would be WRONG, is looked at no sooner
        FigurePress x = new FigurePress();
        dueArgument("read of no bytes", () -> x.read(0, FLOAT, 4));
        x.feed('?', 1);
        dueArgument("read of a wrong byte", () -> x.read(0, 2, NEAREST));
        dueIndex("read of a wrong byte", () -> x.read(16, FLOAT, NEAREST));
        due("the byte is there", x.feed('?', 1), 2);
    }

    // ---- what is told of one call

    private static void noWhats() {
        sentence(NO_WHAT);
        for (int what : NO_WHATS) {
            for (int p = 0; p < 16; p++) {
                int place = p;
                dueRefused("told of " + p + ", what " + what, ARGUMENT, x -> x.told(place, what));
            }
        }
    }

    private static void noLongs() {
        sentence(NO_LONG);
        for (int p : NO_LONGS) {
            for (int way = 0; way < 4; way++) {
                int told = way;
                dueRefused("to of " + p + ", way " + way, ARITHMETIC, x -> x.to(p, told));
            }
            // in the order of the face
            for (int way : NO_WAYS) {
                dueRefused("to of " + p + ", way " + way, ARGUMENT, x -> x.to(p, way));
            }
        }
    }

    private static void noBytes() {
        sentence(NO_BYTES);
        for (int n : new int[] {0, 9, -1, -8, 10, Integer.MIN_VALUE, Integer.MAX_VALUE}) {
            dueRefused("feed of " + n, ARGUMENT, x -> x.feed(0x3131313131313131L, n));
        }
        for (int n = 1; n <= 8; n++) {
            int told = n;
            FigurePress x = full();
            feed(x, "0".repeat(1201 - n - TAPE.length()));
            dueArgument("feed of " + n + " to " + (1201 - n), () -> x.feed(0x3131313131313131L, told));
            sentence(NOTHING);
            duePlaces(x, "feed to a full tape");
            if (n > 1) {
                due("bytes with one more", x.feed('0', 1), 1202 - n);
            }
            due("the seventh figure of the power is WRONG", x.read(0, DOUBLE, NEAREST), -13);
            sentence(NO_BYTES);
        }
    }

    private static void noForms() {
        sentence(NO_FORM);
        for (int p = 0; p < 16; p++) {
            int place = p;
            for (int form : NO_FORMS) {
                dueRefused("write of " + p + ", form " + form, ARGUMENT, x -> x.write(place, form, 3, NEAREST));
            }
            for (int n : new int[] {-1, 61, Integer.MIN_VALUE, Integer.MAX_VALUE}) {
                dueRefused("write of " + p + ", fixed " + n, ARGUMENT, x -> x.write(place, FIXED, n, NEAREST));
                dueRefused("write of " + p + ", rounded " + n, ARGUMENT, x -> x.write(place, ROUNDED, n, NEAREST));
            }
            dueRefused("write of " + p + ", rounded 0", ARGUMENT, x -> x.write(place, ROUNDED, 0, NEAREST));
        }
    }

    // ---- what is not refused

    private static void justInside() {
        sentence(PLACES);
        for (int p = 0; p < 16; p += 15) {
            for (int format = 0; format < 2; format++) {
                for (int way = 0; way < 4; way++) {
                    dueNoThrow(p, format, way);
                }
            }
        }
    }

    private static void dueNoThrow(int p, int format, int way) {
        FigurePress x = full();
        String got = "nothing";
        try {
            x.set(p, format, ONE[format]);
            x.pattern(p);
            x.told(p, way);
            x.whole(p);
            x.convert(p, p, format, way);
            x.from(p, format, 1, way);
            x.to(p, way);
            x.order(p, p);
            x.step(p, way > 1);
            for (int act = 0; act < 5; act++) {
                act(x, act, p, p, p, way);
            }
            x.root(p, p, way);
            x.feed('0', 1);
            x.read(p, format, way);
            for (int form = 0; form < 6; form++) {
                x.write(p, form, 60, way);
            }
        } catch (RuntimeException e) {
            got = e.toString();
        }
        dueText("place " + p + ", format " + format + ", way " + way + " throws", got, "nothing");
    }

    // ---- helpers

    private static void act(FigurePress x, int act, int p, int q, int r, int way) {
        switch (act) {
            case 0:
                x.add(p, q, r, way);
                break;
            case 1:
                x.less(p, q, r, way);
                break;
            case 2:
                x.times(p, q, r, way);
                break;
            case 3:
                x.over(p, q, r, way);
                break;
            default:
                x.fused(p, q, r, way);
                break;
        }
    }

    private static long fullPattern(int p) {
        int format = p & 1;
        switch (p) {
            case 1:
                return bits(DOUBLE, -2.25);
            case 2:
                return ENDLESS[FLOAT];
            case 3:
                return minus(DOUBLE, ENDLESS[DOUBLE] + 5);
            case 5:
                return GREATEST[DOUBLE];
            case 6:
                return SIGN[FLOAT];
            case 7:
                return minus(DOUBLE, ENDLESS[DOUBLE]);
            case 8:
                return ENDLESS[FLOAT] + 9;
            default:
                return bits(format, p + 0.5);
        }
    }

    /** An object with something at every place, on the tape and on the sheet. */
    private static FigurePress full() {
        FigurePress x = new FigurePress();
        for (int p = 0; p < 16; p++) {
            x.set(p, p & 1, fullPattern(p));
        }
        x.write(1, SIXTEENS, 0, NEAREST);
        feed(x, TAPE);
        return x;
    }

    private static void dueRefused(String what, Class<?> want, Refusal refusal) {
        FigurePress x = full();
        dueThrown(what, want, () -> refusal.of(x));
        String before = named();
        sentence(NOTHING);
        duePlaces(x, what);
        due("bytes after " + what, x.feed('0', 1), TAPE.length() + 1);
        due("read after " + what, x.read(1, DOUBLE, NEAREST), 0);
        due("what is read after " + what, x.pattern(1), bits(DOUBLE, -12.5e10));
        sentence(before);
    }

    private static void duePlaces(FigurePress x, String what) {
        for (int p = 0; p < 16; p++) {
            due("pattern at " + p + " after " + what, x.pattern(p), fullPattern(p));
            due("format at " + p + " after " + what, x.told(p, 0), p & 1);
        }
        for (int i = 0; i < SHEET.length(); i++) {
            due("letter " + i + " after " + what, x.letter(i), SHEET.charAt(i));
        }
        due("letters after " + what, x.letter(SHEET.length()), -1);
    }
}
