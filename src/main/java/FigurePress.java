/**
 * A press for floating numbers of 32 and 64 bits, by whole numbers alone: it reads, writes and
 * reckons with them, and rounds every result once.
 *
 * <p>All rows are made in the constructor and used again, so that no call makes an array or object.
 */
public final class FigurePress {
    private static final int PLACES = 16;

    private static final int FLOAT = 0;
    private static final int DOUBLE = 1;

    private static final int NEAREST = 0;
    private static final int TO_NOUGHT = 1;
    private static final int UP = 2;
    private static final int DOWN = 3;

    private static final int NOUGHT = 0;
    private static final int SMALL = 1;
    private static final int FULL = 2;
    private static final int ENDLESS = 3;
    private static final int NONE = 4;

    private static final int PLAIN = 0;
    private static final int POWERED = 1;
    private static final int FIXED = 2;
    private static final int ROUNDED = 3;
    private static final int SIXTEENS = 4;
    private static final int EXACT = 5;
    private static final int MOST_FIGURES = 60;

    private final int[] formats = new int[PLACES];
    private final long[] patterns = new long[PLACES];
    private final Value first = new Value();
    private final Value second = new Value();
    private final Value third = new Value();
    private final Text tape = new Text();
    private final Acts acts;
    private final Forms forms;

    public FigurePress() {
        // only one call is open at a time, so reckoning and writing may share these
        Natural one = new Natural();
        Natural two = new Natural();
        acts = new Acts(one, two);
        forms = new Forms(new Shortest(one, two), one);
    }

    public void set(int r, int format, long pattern) throws IndexOutOfBoundsException, IllegalArgumentException {
        needPlace(r);
        needFormat(format);
        put(r, format, format == FLOAT ? pattern & 0xFFFFFFFFL : pattern);
    }

    public long pattern(int p) throws IndexOutOfBoundsException {
        needPlace(p);
        return patterns[p];
    }

    public int told(int p, int what) throws IndexOutOfBoundsException, IllegalArgumentException {
        needPlace(p);
        look(p, first);
        switch (what) {
            case 0:
                return formats[p];
            case 1:
                return first.kind;
            case 2:
                return first.minus ? 1 : 0;
            case 3:
                return first.e;
            default:
                throw new IllegalArgumentException("what is told is 0 to 3");
        }
    }

    public long whole(int p) throws IndexOutOfBoundsException {
        needPlace(p);
        look(p, first);
        return first.m;
    }

    public void convert(int p, int r, int format, int way) throws IndexOutOfBoundsException, IllegalArgumentException {
        needPlace(p);
        needPlace(r);
        needFormat(format);
        needWay(way);
        look(p, first);
        put(r, format, acts.converted(first, format, way));
    }

    public void from(int r, int format, long v, int way) throws IndexOutOfBoundsException, IllegalArgumentException {
        needPlace(r);
        needFormat(format);
        needWay(way);
        put(r, format, acts.ofLong(v, format, way));
    }

    public long to(int p, int way) throws IndexOutOfBoundsException, IllegalArgumentException, ArithmeticException {
        needPlace(p);
        needWay(way);
        look(p, first);
        if (!first.fitsLong()) {
            throw new ArithmeticException("no long");
        }
        return first.asLong(way);
    }

    public int order(int p, int q) throws IndexOutOfBoundsException {
        needPlace(p);
        needPlace(q);
        look(p, first);
        look(q, second);
        return Value.compared(first, second);
    }

    public void step(int r, boolean up) throws IndexOutOfBoundsException {
        needPlace(r);
        patterns[r] = Formats.beside(formats[r], patterns[r], up);
    }

    public void add(int p, int q, int r, int way) throws IndexOutOfBoundsException, IllegalArgumentException {
        lookAtTwo(p, q, r, way);
        patterns[r] = acts.sum(first, second, formats[r], way);
    }

    public void less(int p, int q, int r, int way) throws IndexOutOfBoundsException, IllegalArgumentException {
        lookAtTwo(p, q, r, way);
        second.minus = !second.minus;
        patterns[r] = acts.sum(first, second, formats[r], way);
    }

    public void times(int p, int q, int r, int way) throws IndexOutOfBoundsException, IllegalArgumentException {
        lookAtTwo(p, q, r, way);
        patterns[r] = acts.product(first, second, formats[r], way);
    }

    public void over(int p, int q, int r, int way) throws IndexOutOfBoundsException, IllegalArgumentException {
        lookAtTwo(p, q, r, way);
        patterns[r] = acts.quotient(first, second, formats[r], way);
    }

    public void fused(int p, int q, int r, int way) throws IndexOutOfBoundsException, IllegalArgumentException {
        lookAtTwo(p, q, r, way);
        look(r, third);
        patterns[r] = acts.productAndSum(first, second, third, formats[r], way);
    }

    public void root(int p, int r, int way) throws IndexOutOfBoundsException, IllegalArgumentException {
        needPlace(p);
        needPlace(r);
        needWay(way);
        look(p, first);
        patterns[r] = acts.squareRoot(first, formats[r], way);
    }

    public int feed(long eight, int n) throws IllegalArgumentException {
        if (n < 1 || n > 8 || !tape.hasRoomFor(n)) {
            throw new IllegalArgumentException("1 to 8 bytes, and 1200 in all");
        }
        for (int i = 0; i < n; i++) {
            tape.append((int) (eight >>> (8 * i)) & 0xFF);
        }
        return tape.length;
    }

    public int read(int r, int format, int way) throws IndexOutOfBoundsException, IllegalArgumentException {
        needPlace(r);
        needFormat(format);
        needWay(way);
        int wrong = tape.parse();
        if (wrong == Text.NOTHING_WRONG) {
            put(r, format, acts.valueOf(tape, format, way));
        }
        tape.clear();
        return wrong == Text.NOTHING_WRONG ? 0 : -1 - wrong;
    }

    public int write(int p, int form, int n, int way) throws IndexOutOfBoundsException, IllegalArgumentException {
        needPlace(p);
        needForm(form, n);
        needWay(way);
        look(p, first);
        forms.print(first, form, n, way);
        return forms.sheet.length;
    }

    public int letter(int i) {
        return forms.sheet.at(i);
    }

    private static void needPlace(int p) {
        if (p < 0 || p >= PLACES) {
            throw new IndexOutOfBoundsException("places are 0 to 15");
        }
    }

    private static void needFormat(int format) {
        if (format != FLOAT && format != DOUBLE) {
            throw new IllegalArgumentException("formats are 0 and 1");
        }
    }

    private static void needWay(int way) {
        if (way < NEAREST || way > DOWN) {
            throw new IllegalArgumentException("ways are 0 to 3");
        }
    }

    private static void needForm(int form, int n) {
        if (form < PLAIN || form > EXACT) {
            throw new IllegalArgumentException("forms are 0 to 5");
        }
        int fewest = form == ROUNDED ? 1 : 0;
        if ((form == FIXED || form == ROUNDED) && (n < fewest || n > MOST_FIGURES)) {
            throw new IllegalArgumentException("too few or too many figures");
        }
    }

    private void put(int r, int format, long pattern) {
        formats[r] = format;
        patterns[r] = pattern;
    }

    private void look(int p, Value into) {
        into.unpack(formats[p], patterns[p]);
    }

    private void lookAtTwo(int p, int q, int r, int way) {
        needPlace(p);
        needPlace(q);
        needPlace(r);
        needWay(way);
        look(p, first);
        look(q, second);
    }

    /** What the two formats are, and how their patterns are put together. */
    private static final class Formats {
        static int precision(int format) {
            return format == FLOAT ? 24 : 53;
        }

        static int lowest(int format) {
            return format == FLOAT ? -149 : -1074;
        }

        static int highest(int format) {
            return format == FLOAT ? 104 : 971;
        }

        static long signBit(int format) {
            return format == FLOAT ? 0x80000000L : Long.MIN_VALUE;
        }

        /** ENDLESS without its sign: numbers have lesser patterns, and NONE greater ones. */
        static long endlessSize(int format) {
            return format == FLOAT ? 0x7F800000L : 0x7FF0000000000000L;
        }

        static long signed(int format, boolean minus, long size) {
            return minus ? size | signBit(format) : size;
        }

        static long nought(int format, boolean minus) {
            return signed(format, minus, 0);
        }

        static long endless(int format, boolean minus) {
            return signed(format, minus, endlessSize(format));
        }

        static long none(int format) {
            return endlessSize(format) | 1L << (precision(format) - 2);
        }

        /** What becomes of a number that is too great for the format. */
        static long tooGreat(int format, boolean minus, int way) {
            boolean outward = way == NEAREST || way == (minus ? DOWN : UP);
            return signed(format, minus, endlessSize(format) - (outward ? 0 : 1));
        }

        /**
         * Patterns without their sign stand in the order of their values, so the value beside one
         * is one pattern away.
         */
        static long beside(int format, long pattern, boolean up) {
            long size = pattern & ~signBit(format);
            boolean minus = size != pattern;
            long endless = endlessSize(format);
            if (size > endless) {
                return pattern;
            }
            if (size == 0) {
                return signed(format, !up, 1);
            }
            if (up == minus) {
                return signed(format, minus, size - 1);
            }
            return size == endless ? pattern : signed(format, minus, size + 1);
        }

        /** Whether a cut-off number goes one further from nought; half and rest tell of what was cut off. */
        static boolean goesOn(int way, boolean minus, boolean odd, boolean half, boolean rest) {
            switch (way) {
                case NEAREST:
                    return half && (rest || odd);
                case UP:
                    return !minus && (half || rest);
                case DOWN:
                    return minus && (half || rest);
                case TO_NOUGHT:
                default:
                    return false;
            }
        }
    }

    /** A value taken apart; m and e are 0 if it is no number. */
    private static final class Value {
        int kind;
        boolean minus;
        long m;
        int e;
        /** Whether the number beneath is nearer than the one above. */
        boolean narrowBelow;

        void unpack(int format, long pattern) {
            int places = Formats.precision(format) - 1;
            long size = pattern & ~Formats.signBit(format);
            long fraction = size & ((1L << places) - 1);
            int power = (int) (size >>> places);
            minus = size != pattern;
            m = 0;
            e = 0;
            narrowBelow = false;
            if (size >= Formats.endlessSize(format)) {
                kind = fraction == 0 ? ENDLESS : NONE;
            } else if (power == 0) {
                kind = fraction == 0 ? NOUGHT : SMALL;
                m = fraction;
                e = Formats.lowest(format);
            } else {
                kind = FULL;
                m = fraction | 1L << places;
                e = Formats.lowest(format) - 1 + power;
                narrowBelow = fraction == 0 && power > 1;
            }
        }

        boolean isNumber() {
            return kind < ENDLESS;
        }

        int bits() {
            return 64 - Long.numberOfLeadingZeros(m);
        }

        boolean fitsLong() {
            if (!isNumber()) {
                return false;
            }
            boolean leastLong = minus && bits() + e == 64 && Long.bitCount(m) == 1;
            return m == 0 || bits() + e < 64 || leastLong;
        }

        /** Only for what fits: with e above 0 nothing is cut off, and else m has room for one more. */
        long asLong(int way) {
            long size;
            if (e >= 0) {
                size = m << e;
            } else {
                int cut = Math.min(-e, 62);
                long off = m & ((1L << cut) - 1);
                long middle = 1L << (cut - 1);
                boolean half = off >= middle;
                boolean rest = off != 0 && off != middle;
                size = m >>> cut;
                size += Formats.goesOn(way, minus, (size & 1) != 0, half, rest) ? 1 : 0;
            }
            return minus ? -size : size;
        }

        int side() {
            if (kind == NOUGHT) {
                return 0;
            }
            return minus ? -1 : 1;
        }

        static int compared(Value a, Value b) {
            if (a.kind == NONE || b.kind == NONE) {
                return 2;
            }
            if (a.side() != b.side()) {
                return a.side() < b.side() ? -1 : 1;
            }
            return a.side() * comparedSizes(a, b);
        }

        private static int comparedSizes(Value a, Value b) {
            if (a.kind == ENDLESS || b.kind == ENDLESS) {
                return Integer.compare(a.kind == ENDLESS ? 1 : 0, b.kind == ENDLESS ? 1 : 0);
            }
            int aTop = a.bits() + a.e;
            int bTop = b.bits() + b.e;
            if (aTop != bTop) {
                return aTop < bTop ? -1 : 1;
            }
            return Long.compare(a.m << (63 - a.bits()), b.m << (63 - b.bits()));
        }
    }

    /** A whole number of up to 5120 bits, which is more than any call needs. */
    private static final class Natural {
        private static final int ROOM = 160;
        private static final long MASK = 0xFFFFFFFFL;
        private static final long BILLION = 1000000000L;
        private static final long FIVE_TO_13 = 1220703125L;

        /** 32 bits each, the lowest first. */
        private final long[] limbs = new long[ROOM];
        /** How many limbs are used; never above ROOM, and the highest used one isn't 0. */
        private int size;

        void take(long v) {
            limbs[0] = v & MASK;
            limbs[1] = v >>> 32;
            size = 2;
            trim();
        }

        void copy(Natural other) {
            for (int i = 0; i < other.size; i++) {
                limbs[i] = other.limbs[i];
            }
            size = other.size;
        }

        boolean isNought() {
            return size == 0;
        }

        /** This times factor and extra, both below 2 to the 32. */
        void scale(long factor, long extra) {
            long carry = extra;
            if (factor == 0) {
                size = 0;
            }
            for (int i = 0; i < size; i++) {
                carry += limbs[i] * factor;
                limbs[i] = carry & MASK;
                carry >>>= 32;
            }
            if (carry != 0 && size < ROOM) {
                limbs[size] = carry;
                size++;
            }
        }

        void scaleByFives(int n) {
            int more = n;
            for (; more >= 13; more -= 13) {
                scale(FIVE_TO_13, 0);
            }
            long last = 1;
            for (; more > 0; more--) {
                last *= 5;
            }
            scale(last, 0);
        }

        void shiftUp(int n) {
            int words = n >> 5;
            int part = n & 31;
            if (n <= 0 || size == 0 || words >= ROOM - size) {
                return;
            }
            for (int i = size; i >= 0; i--) {
                limbs[i + words] = (limb(i) << part & MASK) | limb(i - 1) >>> (32 - part);
            }
            for (int i = 0; i < words; i++) {
                limbs[i] = 0;
            }
            size += words + 1;
            trim();
        }

        void plus(Natural other) {
            int top = Math.max(size, other.size);
            long carry = 0;
            for (int i = 0; i < top; i++) {
                carry += limb(i) + other.limb(i);
                limbs[i] = carry & MASK;
                carry >>>= 32;
            }
            size = top;
            if (carry != 0 && size < ROOM) {
                limbs[size] = carry;
                size++;
            }
        }

        /** Only for another one that isn't greater. */
        void minus(Natural other) {
            long borrow = 0;
            for (int i = 0; i < size; i++) {
                borrow += limbs[i] - other.limb(i);
                limbs[i] = borrow & MASK;
                borrow >>= 32;
            }
            trim();
        }

        int comparedWith(Natural other) {
            if (size != other.size) {
                return size < other.size ? -1 : 1;
            }
            for (int i = size - 1; i >= 0; i--) {
                if (limbs[i] != other.limbs[i]) {
                    return limbs[i] < other.limbs[i] ? -1 : 1;
                }
            }
            return 0;
        }

        int bits() {
            return 32 * size - (size == 0 ? 0 : Long.numberOfLeadingZeros(limb(size - 1)) - 32);
        }

        /** The bits from the i-th on, if they are no more than a long has. */
        long bitsFrom(int i) {
            int word = i >> 5;
            int part = i & 31;
            long found = limb(word) >>> part | limb(word + 1) << (32 - part);
            return part == 0 ? found : found | limb(word + 2) << (64 - part);
        }

        boolean bit(int i) {
            return (limb(i >> 5) >>> (i & 31) & 1) != 0;
        }

        boolean anyBelow(int i) {
            int word = i >> 5;
            for (int j = 0; j < word && j < size; j++) {
                if (limbs[j] != 0) {
                    return true;
                }
            }
            return (limb(word) & ((1L << (i & 31)) - 1)) != 0;
        }

        /** Divides this by a billion; what is left over. */
        int cutBillion() {
            long over = 0;
            for (int i = size - 1; i >= 0; i--) {
                over = over << 32 | limbs[i];
                limbs[i] = over / BILLION;
                over %= BILLION;
            }
            trim();
            return (int) over;
        }

        private long limb(int i) {
            return i >= 0 && i < size ? limbs[i] : 0;
        }

        private void trim() {
            while (size > 0 && limbs[size - 1] == 0) {
                size--;
            }
        }
    }

    /**
     * Works results out exactly, or to so many bits that of the rest it only matters whether there
     * is one, and rounds them once.
     */
    private static final class Acts {
        /** The bits of the longer format, the half behind them, and some to spare. */
        private static final int QUOTIENT_BITS = 58;
        private static final int ROOT_BITS = 57;
        /** Beyond 10 to this power, and beneath 10 to its negative, the figures don't matter. */
        private static final int FAR_TEN = 400;
        private static final int FAR_TWO = 5000;

        private final Natural left;
        private final Natural right;

        Acts(Natural left, Natural right) {
            this.left = left;
            this.right = right;
        }

        long converted(Value a, int format, int way) {
            if (a.kind == NONE) {
                return Formats.none(format);
            }
            if (a.kind == ENDLESS) {
                return Formats.endless(format, a.minus);
            }
            left.take(a.m);
            return rounded(a.minus, left, a.e, false, format, way);
        }

        long ofLong(long v, int format, int way) {
            left.take(v < 0 ? -v : v);
            return rounded(v < 0, left, 0, false, format, way);
        }

        long sum(Value a, Value b, int format, int way) {
            if (a.kind == NONE || b.kind == NONE) {
                return Formats.none(format);
            }
            left.take(a.m);
            return leftAnd(a.kind == ENDLESS, a.minus, a.e, b, format, way);
        }

        long product(Value a, Value b, int format, int way) {
            boolean minus = a.minus != b.minus;
            if (hasNoProduct(a, b)) {
                return Formats.none(format);
            }
            if (a.kind == ENDLESS || b.kind == ENDLESS) {
                return Formats.endless(format, minus);
            }
            multiply(a.m, b.m);
            return rounded(minus, left, a.e + b.e, false, format, way);
        }

        long productAndSum(Value a, Value b, Value c, int format, int way) {
            if (hasNoProduct(a, b) || c.kind == NONE) {
                return Formats.none(format);
            }
            multiply(a.m, b.m);
            boolean endless = a.kind == ENDLESS || b.kind == ENDLESS;
            return leftAnd(endless, a.minus != b.minus, a.e + b.e, c, format, way);
        }

        long quotient(Value a, Value b, int format, int way) {
            boolean minus = a.minus != b.minus;
            boolean bothNought = a.kind == NOUGHT && b.kind == NOUGHT;
            boolean bothEndless = a.kind == ENDLESS && b.kind == ENDLESS;
            if (a.kind == NONE || b.kind == NONE || bothNought || bothEndless) {
                return Formats.none(format);
            }
            if (a.kind == ENDLESS || b.kind == NOUGHT) {
                return Formats.endless(format, minus);
            }
            if (a.kind == NOUGHT || b.kind == ENDLESS) {
                return Formats.nought(format, minus);
            }
            left.take(a.m);
            right.take(b.m);
            return divided(minus, a.e - b.e, format, way);
        }

        long squareRoot(Value a, int format, int way) {
            if (a.kind == NOUGHT) {
                return Formats.nought(format, a.minus);
            }
            if (a.kind == NONE || a.minus) {
                return Formats.none(format);
            }
            if (a.kind == ENDLESS) {
                return Formats.endless(format, false);
            }
            int free = Long.numberOfLeadingZeros(a.m);
            // the power of two must be even to be halved
            int shift = (a.e - free) % 2 == 0 ? free : free - 1;
            return rootOf(a.m << shift, a.e - shift, format, way);
        }

        /** The value of a text in which nothing is wrong. */
        long valueOf(Text text, int format, int way) {
            if (text.kind == NONE) {
                return Formats.none(format);
            }
            if (text.kind == ENDLESS) {
                return Formats.endless(format, text.minus);
            }
            text.gather(left);
            if (left.isNought() || text.sixteens) {
                return rounded(text.minus, left, text.power - 4 * text.behindPoint, false, format, way);
            }
            int ten = text.power - text.behindPoint;
            int top = ten + text.counting - 1;
            if (top > FAR_TEN || top < -FAR_TEN) {
                left.take(1);
                return rounded(text.minus, left, top < 0 ? -FAR_TWO : FAR_TWO, false, format, way);
            }
            if (ten >= 0) {
                left.scaleByFives(ten);
                return rounded(text.minus, left, ten, false, format, way);
            }
            right.take(1);
            right.scaleByFives(-ten);
            return divided(text.minus, ten, format, way);
        }

        private static boolean hasNoProduct(Value a, Value b) {
            boolean noughtEndless = a.kind == NOUGHT && b.kind == ENDLESS;
            boolean endlessNought = a.kind == ENDLESS && b.kind == NOUGHT;
            return a.kind == NONE || b.kind == NONE || noughtEndless || endlessNought;
        }

        /** Left becomes a times b. */
        private void multiply(long a, long b) {
            left.take(a);
            left.scale(b >>> 32, 0);
            left.shiftUp(32);
            right.take(a);
            right.scale(b & 0xFFFFFFFFL, 0);
            left.plus(right);
        }

        /** Left times 2 to the x, or ENDLESS, with a sign, and c, which isn't NONE. */
        private long leftAnd(boolean endless, boolean minus, int x, Value c, int format, int way) {
            if (endless || c.kind == ENDLESS) {
                boolean unlike = endless && c.kind == ENDLESS && minus != c.minus;
                return unlike ? Formats.none(format) : Formats.endless(format, endless ? minus : c.minus);
            }
            right.take(c.m);
            int low = Math.min(x, c.e);
            left.shiftUp(x - low);
            right.shiftUp(c.e - low);
            if (minus == c.minus) {
                left.plus(right);
                return rounded(minus, left, low, false, format, way);
            }
            int order = left.comparedWith(right);
            if (order == 0) {
                return Formats.nought(format, way == DOWN);
            }
            if (order > 0) {
                left.minus(right);
                return rounded(minus, left, low, false, format, way);
            }
            right.minus(left);
            return rounded(c.minus, right, low, false, format, way);
        }

        /** Left by right times 2 to the x, neither of them nought. */
        private long divided(boolean minus, int x, int format, int way) {
            int gap = left.bits() - right.bits();
            left.shiftUp(-gap);
            right.shiftUp(gap);
            long quotient = 0;
            for (int i = 0; i < QUOTIENT_BITS; i++) {
                quotient <<= 1;
                if (left.comparedWith(right) >= 0) {
                    left.minus(right);
                    quotient |= 1;
                }
                left.shiftUp(1);
            }
            boolean rest = !left.isNought();
            left.take(quotient);
            return rounded(minus, left, x + gap - (QUOTIENT_BITS - 1), rest, format, way);
        }

        /** The root of square times 2 to the x; one of square's two highest bits is set, and x is even. */
        private long rootOf(long square, int x, int format, int way) {
            long pairs = square;
            long rest = 0;
            long root = 0;
            for (int i = 0; i < ROOT_BITS; i++) {
                rest = rest << 2 | pairs >>> 62;
                pairs <<= 2;
                long trial = root << 2 | 1;
                root <<= 1;
                if (rest >= trial) {
                    rest -= trial;
                    root |= 1;
                }
            }
            left.take(root);
            return rounded(false, left, x / 2 - (ROOT_BITS - 32), rest != 0, format, way);
        }

        /**
         * The pattern of n times 2 to the x, and a bit more, less than 2 to the x, if there is a
         * rest; then n has more bits than the format, and one behind these.
         */
        private static long rounded(boolean minus, Natural n, int x, boolean rest, int format, int way) {
            if (n.isNought()) {
                return Formats.nought(format, minus);
            }
            int precision = Formats.precision(format);
            int lowest = Formats.lowest(format);
            int e = Math.max(x + n.bits() - precision, lowest);
            if (e > Formats.highest(format)) {
                return Formats.tooGreat(format, minus, way);
            }
            int cut = e - x;
            long m = cut > 0 ? n.bitsFrom(cut) : n.bitsFrom(0) << -cut;
            boolean half = cut > 0 && n.bit(cut - 1);
            boolean more = rest || cut > 0 && n.anyBelow(cut - 1);
            // as a pattern m goes over into the next power by itself if it gets one bit too long
            long size = ((long) (e - lowest) << (precision - 1)) + m;
            if (Formats.goesOn(way, minus, (m & 1) != 0, half, more)) {
                size++;
            }
            if (size >= Formats.endlessSize(format)) {
                return Formats.tooGreat(format, minus, way);
            }
            return Formats.signed(format, minus, size);
        }
    }

    /** The tape, and what is told on it. */
    private static final class Text {
        static final int NOTHING_WRONG = -1;
        private static final int ROOM = 1200;
        private static final int MOST_POWER_FIGURES = 6;
        /** Figures are gathered in parts that stay below 2 to the 32: nine of ten, or seven of sixteen. */
        private static final long FULL_PART = 1L << 28;

        private final int[] bytes = new int[ROOM];
        int length;
        boolean minus;
        /** ENDLESS, NONE, or FULL for what has figures. */
        int kind;
        boolean sixteens;
        int behindPoint;
        /** How many figures there are from the first one on that isn't 0. */
        int counting;
        int power;
        private int begin;
        private int end;

        boolean hasRoomFor(int n) {
            return n <= ROOM - length;
        }

        void append(int b) {
            if (length < ROOM) {
                bytes[length] = b;
                length++;
            }
        }

        void clear() {
            length = 0;
        }

        /** The place that is wrong, or NOTHING_WRONG. */
        int parse() {
            minus = at(0) == '-';
            int i = signLength(0);
            if (at(i) == 'i') {
                kind = ENDLESS;
                return parseWord("inf", i);
            }
            if (at(i) == 'n') {
                kind = NONE;
                return parseWord("nan", i);
            }
            kind = FULL;
            sixteens = at(i) == '0' && at(i + 1) == 'x';
            begin = sixteens ? i + 2 : i;
            if (!parseFigures()) {
                return end;
            }
            power = 0;
            if (end == length) {
                return NOTHING_WRONG;
            }
            return at(end) == (sixteens ? 'p' : 'e') ? parsePower(end + 1) : end;
        }

        /** The whole number that all figures make, without a point. */
        void gather(Natural into) {
            int base = sixteens ? 16 : 10;
            long part = 0;
            long factor = 1;
            into.take(0);
            for (int i = begin; i < end; i++) {
                int figure = figureAt(i);
                if (figure >= 0) {
                    part = part * base + figure;
                    factor *= base;
                }
                if (factor >= FULL_PART) {
                    into.scale(factor, part);
                    part = 0;
                    factor = 1;
                }
            }
            into.scale(factor, part);
        }

        private int at(int i) {
            return i >= 0 && i < length && i < ROOM ? bytes[i] : -1;
        }

        private int signLength(int i) {
            return at(i) == '-' || at(i) == '+' ? 1 : 0;
        }

        private int parseWord(String word, int from) {
            for (int j = 0; j < word.length(); j++) {
                if (at(from + j) != word.charAt(j)) {
                    return from + j;
                }
            }
            int behind = from + word.length();
            return behind == length ? NOTHING_WRONG : behind;
        }

        /** Goes from begin to the end of the figures; whether there is one. */
        private boolean parseFigures() {
            boolean found = false;
            boolean pointed = false;
            behindPoint = 0;
            counting = 0;
            for (end = begin; end < length; end++) {
                int figure = figureAt(end);
                if (figure >= 0) {
                    found = true;
                    behindPoint += pointed ? 1 : 0;
                    counting += counting > 0 || figure > 0 ? 1 : 0;
                } else if (at(end) == '.' && !pointed) {
                    pointed = true;
                } else {
                    return found;
                }
            }
            return found;
        }

        private int parsePower(int from) {
            int start = from + signLength(from);
            int i = start;
            for (; i < start + MOST_POWER_FIGURES && isTenFigure(at(i)); i++) {
                power = 10 * power + at(i) - '0';
            }
            if (at(from) == '-') {
                power = -power;
            }
            return i > start && i == length ? NOTHING_WRONG : i;
        }

        private int figureAt(int i) {
            int c = at(i);
            if (isTenFigure(c)) {
                return c - '0';
            }
            return sixteens && c >= 'a' && c <= 'f' ? c - 'a' + 10 : -1;
        }

        private static boolean isTenFigure(int c) {
            return c >= '0' && c <= '9';
        }
    }

    /** Figures of ten, the first one not 0; all behind the last one are 0. */
    private static final class Figures {
        /** Parts of nine: the most that a number has are 767 figures. */
        private static final int ROOM = 88 * 9;

        private final int[] row = new int[ROOM];
        int count;
        /** The power of ten of the first figure. */
        int top;

        void clear() {
            count = 0;
            top = 0;
        }

        int at(int i) {
            return i >= 0 && i < count && i < ROOM ? row[i] : 0;
        }

        void append(int figure) {
            if (count < ROOM) {
                row[count] = figure;
                count++;
            }
        }

        /** All figures of a number that isn't nought. */
        void takeExactly(Value v, Natural work) {
            // without its factors 2 the number needs fewer steps
            int twos = Long.numberOfTrailingZeros(v.m);
            int e = v.e + twos;
            work.take(v.m >>> twos);
            if (e >= 0) {
                work.shiftUp(e);
            } else {
                work.scaleByFives(-e);
            }
            takeBackwards(work);
            trim();
            turn();
            top = count - 1 + Math.min(e, 0);
            trim();
        }

        /** Keeps so many figures from the first one on, which may be none, or fewer than none. */
        void cut(int keep, boolean minus, int way) {
            if (keep >= count) {
                return;
            }
            int off = keep < 0 ? 0 : at(keep);
            boolean half = off >= 5;
            boolean rest = off % 5 != 0 || keep + 1 < count;
            boolean odd = (at(keep - 1) & 1) != 0;
            boolean on = Formats.goesOn(way, minus, odd, half, rest);
            int unit = top - keep + 1;
            count = Math.max(keep, 0);
            trim();
            if (on) {
                addOneAt(unit, keep);
            }
        }

        /** One more in the figure that is the keep-th; its power of ten is unit. */
        void addOneAt(int unit, int keep) {
            if (keep <= 0) {
                count = 0;
                top = unit;
                append(1);
                return;
            }
            for (; count < keep && count < ROOM; count++) {
                row[count] = 0;
            }
            while (count > 0 && row[count - 1] == 9) {
                count--;
            }
            if (count > 0) {
                row[count - 1]++;
            } else {
                top++;
                append(1);
            }
        }

        /** Takes all figures of work, the last one first. */
        private void takeBackwards(Natural work) {
            count = 0;
            for (int i = 0; i < ROOM && !work.isNought(); i += 9) {
                int part = work.cutBillion();
                for (int j = 0; j < 9; j++) {
                    append(part % 10);
                    part /= 10;
                }
            }
        }

        private void turn() {
            for (int i = 0, j = count - 1; i < j; i++, j--) {
                int figure = row[i];
                row[i] = row[j];
                row[j] = figure;
            }
        }

        private void trim() {
            while (count > 0 && row[count - 1] == 0) {
                count--;
            }
        }
    }

    /**
     * Finds the SHORT decimal of a number. The figures come one by one from the number itself; after
     * each of them what is left over tells whether the figures so far, or one more in the last of
     * them, are near enough to lead back.
     */
    private static final class Shortest {
        /** More than the 17 that any number needs. */
        private static final int MOST_FIGURES = 20;

        /** The number is left by unit, in the power of ten of the figure that comes next. */
        private final Natural left;
        private final Natural unit;
        /** Half the way to the number beneath, in the same measure. */
        private final Natural reach = new Natural();
        private final Natural work = new Natural();
        private boolean even;
        private boolean narrow;

        Shortest(Natural left, Natural unit) {
            this.left = left;
            this.unit = unit;
        }

        void find(Value v, Figures into) {
            begin(v);
            into.clear();
            into.top = scaleToFirstFigure(v);
            for (int i = 0; i < MOST_FIGURES; i++) {
                into.append(takeFigure());
                boolean low = leadsBackBelow();
                boolean high = leadsBackAbove();
                if (low || high) {
                    if (high && (!low || isAboveMiddle())) {
                        into.addOneAt(into.top - i, i + 1);
                    }
                    return;
                }
                left.scale(10, 0);
                reach.scale(10, 0);
            }
        }

        private void begin(Value v) {
            even = (v.m & 1) == 0;
            narrow = v.narrowBelow;
            int halvings = narrow ? 2 : 1;
            int e = v.e - halvings;
            left.take(v.m << halvings);
            reach.take(1);
            unit.take(1);
            left.shiftUp(e);
            reach.shiftUp(e);
            unit.shiftUp(-e);
        }

        /** Makes the number 1 to 10 units; the power of ten of these. */
        private int scaleToFirstFigure(Value v) {
            // for each power of two that a format has this is the power of ten at or next below it
            int ten = (int) Math.floorDiv((v.bits() + v.e - 1) * 30103L, 100000L);
            if (ten >= 0) {
                unit.scaleByFives(ten);
                unit.shiftUp(ten);
            } else {
                left.scaleByFives(-ten);
                left.shiftUp(-ten);
                reach.scaleByFives(-ten);
                reach.shiftUp(-ten);
            }
            work.copy(unit);
            work.scale(10, 0);
            if (left.comparedWith(work) >= 0) {
                unit.copy(work);
                return ten + 1;
            }
            return ten;
        }

        private int takeFigure() {
            int figure = 0;
            while (figure < 9 && left.comparedWith(unit) >= 0) {
                left.minus(unit);
                figure++;
            }
            return figure;
        }

        private boolean leadsBackBelow() {
            int order = left.comparedWith(reach);
            return order < 0 || order == 0 && even;
        }

        private boolean leadsBackAbove() {
            work.copy(left);
            work.plus(reach);
            if (narrow) {
                work.plus(reach);
            }
            int order = work.comparedWith(unit);
            return order > 0 || order == 0 && even;
        }

        private boolean isAboveMiddle() {
            work.copy(left);
            work.shiftUp(1);
            return work.comparedWith(unit) > 0;
        }
    }

    /** The bytes that were written last. */
    private static final class Sheet {
        /** The longest text is a sign, 0, a point and 1074 figures. */
        private static final int ROOM = 1077;

        private final int[] bytes = new int[ROOM];
        int length;

        void clear() {
            length = 0;
        }

        int at(int i) {
            return i >= 0 && i < length && i < ROOM ? bytes[i] : -1;
        }

        void put(int b) {
            if (length < ROOM) {
                bytes[length] = b;
                length++;
            }
        }

        void putText(String text) {
            for (int i = 0; i < text.length(); i++) {
                put(text.charAt(i));
            }
        }

        /** A number of up to four figures. */
        void putNumber(int n) {
            if (n < 0) {
                put('-');
            }
            int size = Math.abs(n);
            if (size >= 1000) {
                put('0' + size / 1000 % 10);
            }
            if (size >= 100) {
                put('0' + size / 100 % 10);
            }
            if (size >= 10) {
                put('0' + size / 10 % 10);
            }
            put('0' + size % 10);
        }
    }

    /** Writes values onto the sheet. */
    private static final class Forms {
        final Sheet sheet = new Sheet();
        private final Shortest shortest;
        private final Natural work;
        private final Figures figures = new Figures();

        Forms(Shortest shortest, Natural work) {
            this.shortest = shortest;
            this.work = work;
        }

        void print(Value v, int form, int n, int way) {
            sheet.clear();
            if (v.kind == NONE) {
                sheet.putText("nan");
                return;
            }
            if (v.minus) {
                sheet.put('-');
            }
            if (v.kind == ENDLESS) {
                sheet.putText("inf");
            } else if (form == SIXTEENS) {
                printSixteens(v);
            } else {
                findFigures(v, form, n, way);
                printFigures(form, n);
            }
        }

        private void findFigures(Value v, int form, int n, int way) {
            figures.clear();
            if (v.kind == NOUGHT) {
                return;
            }
            if (form == PLAIN || form == POWERED) {
                shortest.find(v, figures);
                return;
            }
            figures.takeExactly(v, work);
            if (form == FIXED) {
                figures.cut(figures.top + 1 + n, v.minus, way);
            } else if (form == ROUNDED) {
                figures.cut(n, v.minus, way);
            }
        }

        private void printFigures(int form, int n) {
            switch (form) {
                case POWERED:
                    printPowered(Math.max(figures.count, 1));
                    break;
                case FIXED:
                    printInPlace(n);
                    break;
                case ROUNDED:
                    printPowered(n);
                    break;
                default:
                    printInPlace(Math.max(figures.count - 1 - figures.top, 0));
                    break;
            }
        }

        /** With so many figures behind the point. */
        private void printInPlace(int behind) {
            for (int power = Math.max(figures.top, 0); power >= -behind; power--) {
                if (power == -1) {
                    sheet.put('.');
                }
                sheet.put('0' + figures.at(figures.top - power));
            }
        }

        private void printPowered(int count) {
            sheet.put('0' + figures.at(0));
            if (count > 1) {
                sheet.put('.');
            }
            for (int i = 1; i < count; i++) {
                sheet.put('0' + figures.at(i));
            }
            sheet.put('e');
            sheet.putNumber(figures.top);
        }

        private void printSixteens(Value v) {
            if (v.kind == NOUGHT) {
                sheet.putText("0x0p0");
                return;
            }
            sheet.putText("0x1");
            // two shifts, as one of 64 would be none
            long behind = v.m << (64 - v.bits()) << 1;
            if (behind != 0) {
                sheet.put('.');
            }
            for (int i = 0; i < 16 && behind != 0; i++) {
                int figure = (int) (behind >>> 60);
                sheet.put(figure < 10 ? '0' + figure : 'a' + figure - 10);
                behind <<= 4;
            }
            sheet.put('p');
            sheet.putNumber(v.e + v.bits() - 1);
        }
    }
}
