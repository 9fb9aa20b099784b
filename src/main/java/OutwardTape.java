/**
 * A tape of decorated intervals whose bounds are doubles, told by their 64 bits.
 *
 * No arithmetic on doubles is done here: it could neither be directed outward nor be started from bits.
 * All bounds are held as ranks (see Rank) and rounded by integer arithmetic (see Exact).
 */
public final class OutwardTape {
    private static final int MOST_CELLS = 40;
    private static final int MOST_CHARACTERS = 60;
    private static final int FUNCTIONS_OF_ONE = 9;
    private static final int FUNCTIONS_OF_TWO = 8;
    private static final long NO_NUMBER = 0x7FF8000000000000L;

    private final char[] text;
    private int characters;
    private final Cell[] cells;
    private int count;
    private final LiteralReader reader;

    public OutwardTape() {
        text = new char[MOST_CHARACTERS];
        characters = 0;
        cells = new Cell[MOST_CELLS];
        count = 0;
        reader = new LiteralReader();
    }

    public boolean type(int w) {
        int more = 0;
        for (int shift = 24; shift >= 0; shift -= 8) {
            int c = (w >>> shift) & 255;
            if (c != 0 && (c < 32 || c > 126)) {
                return false;
            }
            more += c == 0 ? 0 : 1;
        }
        if (characters + more > MOST_CHARACTERS) {
            return false;
        }
        for (int shift = 24; shift >= 0; shift -= 8) {
            int c = (w >>> shift) & 255;
            if (c != 0) {
                text[characters] = (char) c;
                characters++;
            }
        }
        return true;
    }

    public void wipe() {
        characters = 0;
    }

    public int length() {
        return characters;
    }

    public int literal() throws IllegalStateException {
        if (count >= MOST_CELLS) {
            throw new IllegalStateException("the tape is full");
        }
        return append(reader.read(text, characters));
    }

    public int bounds(long lower, long upper, int decoration) throws IllegalArgumentException, IllegalStateException {
        if (decoration < Cell.TRV || decoration > Cell.COM) {
            throw new IllegalArgumentException("no such decoration");
        }
        if (count >= MOST_CELLS) {
            throw new IllegalStateException("the tape is full");
        }
        if (!Rank.isNumber(lower) || !Rank.isNumber(upper)) {
            return append(Cell.ill());
        }
        return append(Cell.between(Rank.ofBits(lower), Rank.ofBits(upper), decoration));
    }

    public int unary(int function, int x)
            throws IllegalArgumentException, IndexOutOfBoundsException, IllegalStateException {
        if (function < 0 || function >= FUNCTIONS_OF_ONE) {
            throw new IllegalArgumentException("no such function");
        }
        if (!isThere(x)) {
            throw new IndexOutOfBoundsException("no such cell");
        }
        if (count >= MOST_CELLS) {
            throw new IllegalStateException("the tape is full");
        }
        return append(OneOperand.value(function, cells[x]));
    }

    public int binary(int function, int x, int y)
            throws IllegalArgumentException, IndexOutOfBoundsException, IllegalStateException {
        if (function < 0 || function >= FUNCTIONS_OF_TWO) {
            throw new IllegalArgumentException("no such function");
        }
        if (!isThere(x) || !isThere(y)) {
            throw new IndexOutOfBoundsException("no such cell");
        }
        if (count >= MOST_CELLS) {
            throw new IllegalStateException("the tape is full");
        }
        return append(TwoOperands.value(function, cells[x], cells[y]));
    }

    public int filled() {
        return count;
    }

    public int decoration(int x) throws IndexOutOfBoundsException {
        if (!isThere(x)) {
            throw new IndexOutOfBoundsException("no such cell");
        }
        return cells[x].mark;
    }

    public boolean isEmpty(int x) {
        return hasInterval(x) && cells[x].hasNoPoint();
    }

    public long lower(int x) {
        if (!hasInterval(x)) {
            return NO_NUMBER;
        }
        long rank = cells[x].low;
        return rank == 0 ? Rank.SIGN : Rank.toBits(rank);
    }

    public long upper(int x) {
        return hasInterval(x) ? Rank.toBits(cells[x].high) : NO_NUMBER;
    }

    public boolean relation(int which, int x, int y) {
        return hasInterval(x) && hasInterval(y) && Relations.holds(which, cells[x], cells[y]);
    }

    public long number(int which, int x) {
        if (!hasInterval(x) || cells[x].hasNoPoint()) {
            return NO_NUMBER;
        }
        switch (which) {
            case 0: return Rank.toBits(cells[x].width());
            case 1: return Rank.toBits(cells[x].magnitude());
            case 2: return Rank.toBits(cells[x].mignitude());
            case 3: return Rank.toBits(cells[x].middle());
            default: return NO_NUMBER;
        }
    }

    public long clamp(int x, long d) {
        if (!hasInterval(x) || cells[x].hasNoPoint() || !Rank.isNumber(d)) {
            return NO_NUMBER;
        }
        long notBelow = Math.max(cells[x].low, Rank.ofBits(d));
        return Rank.toBits(Math.min(cells[x].high, notBelow));
    }

    public void clear() {
        count = 0;
    }

    private boolean isThere(int x) {
        return x >= 0 && x < count;
    }

    private boolean hasInterval(int x) {
        return isThere(x) && cells[x].mark != Cell.ILL;
    }

    private int append(Cell cell) {
        cells[count] = cell;
        count++;
        return count - 1;
    }

    /**
     * Doubles as ranks: the 63 bits of the absolute value, negated for a negative double.
     * Ranks are ordered as the doubles are and have one zero only, so that <, minus and Math.min serve them.
     */
    private static final class Rank {
        static final long SIGN = 0x8000000000000000L;
        static final long INFINITE = 0x7FF0000000000000L;
        static final long GREATEST = 0x7FEFFFFFFFFFFFFFL;
        static final long ONE = 0x3FF0000000000000L;
        static final int FRACTION_BITS = 52;
        static final long HIDDEN_BIT = 1L << FRACTION_BITS;
        static final int LEAST_EXPONENT = -1074;
        static final int GREATEST_EXPONENT = 971;

        static boolean isNumber(long bits) {
            return (bits & ~SIGN) <= INFINITE;
        }

        static long ofBits(long bits) {
            long size = bits & ~SIGN;
            return bits < 0 ? -size : size;
        }

        static long toBits(long rank) {
            return rank < 0 ? -rank | SIGN : rank;
        }

        static boolean isFinite(long rank) {
            return rank > -INFINITE && rank < INFINITE;
        }

        /** A finite double is, but for its sign, its significand times 2 to its exponent. */
        static long significand(long rank) {
            long size = Math.abs(rank);
            return size < HIDDEN_BIT ? size : (size & (HIDDEN_BIT - 1)) | HIDDEN_BIT;
        }

        static int exponent(long rank) {
            int field = (int) (Math.abs(rank) >>> FRACTION_BITS);
            return Math.max(field, 1) - 1 + LEAST_EXPONENT;
        }

        static long sign(long rank) {
            return rank < 0 ? -ONE : rank > 0 ? ONE : 0;
        }

        static long towardsZero(long rank) {
            long size = Math.abs(rank);
            int behindPoint = -exponent(rank);
            if (behindPoint <= 0) {
                return rank;
            }
            // Below one all is behind the point, and the exponent's own bits must not be cut.
            long whole = behindPoint > FRACTION_BITS ? 0 : (size >>> behindPoint) << behindPoint;
            return rank < 0 ? -whole : whole;
        }

        static long floor(long rank) {
            long whole = towardsZero(rank);
            return whole <= rank ? whole : Exact.sum(whole, -ONE, Exact.DOWN);
        }
    }

    /**
     * Sums, products, quotients and roots of ranks, computed exactly and then rounded once.
     *
     * Before rounding, a value is a significand below 2^63 times a power of two. Digits that find no room in
     * it leave a trace: its last bit is set. That bit is always among those that rounding drops, so it tells
     * inexact from exact, and never looks like a tie.
     */
    private static final class Exact {
        static final int DOWN = -1;
        static final int NEAREST = 0;
        static final int UP = 1;
        private static final long TOP_BIT = 1L << 62;
        private static final int SPARE_BITS = 10;
        private static final int GUARD_BITS = 9;
        private static final int HALF_BITS = 26;
        private static final long HALF_MASK = (1L << HALF_BITS) - 1;
        private static final int QUOTIENT_BITS = 60;
        private static final int ROOT_STEPS = 57;
        private static final int ROOT_STEPS_WITH_DIGITS = 27;

        static long rounded(boolean negative, long significand, int exponent, int way) {
            if (significand == 0) {
                return 0;
            }
            long full = significand;
            int unit = exponent;
            for (int i = 0; i < 63 && full < TOP_BIT; i++) {
                full <<= 1;
                unit--;
            }
            int dropped = Math.max(SPARE_BITS, Rank.LEAST_EXPONENT - unit);
            unit += dropped;
            boolean away = negative ? way == DOWN : way == UP;
            long kept = dropped < 64 ? full >>> dropped : 0;
            if (way == NEAREST ? isNearerAbove(full, dropped) : away && isCut(full, dropped)) {
                kept++;
            }
            long size = Rank.INFINITE;
            if (unit <= Rank.GREATEST_EXPONENT) {
                // The hidden bit of what is kept adds the one that an exponent field has over a subnormal's.
                size = ((long) (unit - Rank.LEAST_EXPONENT) << Rank.FRACTION_BITS) + kept;
            }
            if (size >= Rank.INFINITE) {
                size = away ? Rank.INFINITE : Rank.GREATEST;
            }
            return negative ? -size : size;
        }

        private static boolean isCut(long full, int dropped) {
            return dropped >= 64 || (full & ((1L << dropped) - 1)) != 0;
        }

        /** Whether what is dropped is more than half a unit, or half of it behind an odd number of units. */
        private static boolean isNearerAbove(long full, int dropped) {
            if (dropped >= 64) {
                return false;
            }
            long half = 1L << (dropped - 1);
            long rest = full & ((1L << dropped) - 1);
            boolean keptIsOdd = ((full >>> dropped) & 1) != 0;
            return rest > half || (rest == half && keptIsOdd);
        }

        /** An interval's lower bounds are never plus, its upper ones never minus infinity: these do not meet. */
        static long sum(long a, long b, int way) {
            if (!Rank.isFinite(a)) {
                return a;
            }
            return Rank.isFinite(b) ? scaledSum(a, b, 0, way) : b;
        }

        static long halfSum(long a, long b) {
            return scaledSum(a, b, -1, NEAREST);
        }

        private static long scaledSum(long a, long b, int scale, int way) {
            boolean firstIsGreater = Math.abs(a) >= Math.abs(b);
            long great = firstIsGreater ? a : b;
            long small = firstIsGreater ? b : a;
            int exponent = Rank.exponent(great);
            long much = Rank.significand(great) << GUARD_BITS;
            long little = shifted(Rank.significand(small) << GUARD_BITS, exponent - Rank.exponent(small));
            long total = (great < 0) == (small < 0) ? much + little : much - little;
            return rounded(great < 0, total, exponent - GUARD_BITS + scale, way);
        }

        private static long shifted(long significand, int places) {
            if (places >= 63) {
                return significand == 0 ? 0 : 1;
            }
            long kept = significand >>> places;
            return traced(kept, kept << places != significand);
        }

        static long traced(long significand, boolean inexact) {
            return inexact ? significand | 1 : significand;
        }

        /** Zero times infinity is zero: the bound stands for the finite numbers below it. */
        static long product(long a, long b, int way) {
            if (a == 0 || b == 0) {
                return 0;
            }
            boolean negative = (a < 0) != (b < 0);
            if (!Rank.isFinite(a) || !Rank.isFinite(b)) {
                return negative ? -Rank.INFINITE : Rank.INFINITE;
            }
            int liftA = lift(a);
            int liftB = lift(b);
            long m = Rank.significand(a) << liftA;
            long n = Rank.significand(b) << liftB;
            int exponent = Rank.exponent(a) - liftA + Rank.exponent(b) - liftB;
            // A product of 106 bits does not fit: it is made of halves, as a head and a rest of 52 bits.
            long middle = (m >>> HALF_BITS) * (n & HALF_MASK) + (m & HALF_MASK) * (n >>> HALF_BITS);
            long tail = ((middle & HALF_MASK) << HALF_BITS) + (m & HALF_MASK) * (n & HALF_MASK);
            long head = (m >>> HALF_BITS) * (n >>> HALF_BITS) + (middle >>> HALF_BITS) + (tail >>> 2 * HALF_BITS);
            long rest = tail & (Rank.HIDDEN_BIT - 1);
            int lost = 2 * HALF_BITS - GUARD_BITS;
            long full = traced((head << GUARD_BITS) | (rest >>> lost), (rest & ((1L << lost) - 1)) != 0);
            return rounded(negative, full, exponent + lost, way);
        }

        /** How far the significand of a subnormal lies below the hidden bit's place. */
        private static int lift(long rank) {
            long significand = Rank.significand(rank);
            int places = 0;
            for (int i = 0; i < Rank.FRACTION_BITS && significand < Rank.HIDDEN_BIT; i++) {
                significand <<= 1;
                places++;
            }
            return places;
        }

        /** A zero divisor stands for the positive numbers above it; two infinities or two zeros do not meet. */
        static long quotient(long a, long b, int way) {
            if (a == 0 || !Rank.isFinite(b)) {
                return 0;
            }
            boolean negative = (a < 0) != (b < 0);
            if (b == 0 || !Rank.isFinite(a)) {
                return negative ? -Rank.INFINITE : Rank.INFINITE;
            }
            int liftA = lift(a);
            int liftB = lift(b);
            long rest = Rank.significand(a) << liftA;
            long divisor = Rank.significand(b) << liftB;
            int exponent = Rank.exponent(a) - liftA - Rank.exponent(b) + liftB;
            long digits = 0;
            for (int i = 0; i <= QUOTIENT_BITS; i++) {
                digits <<= 1;
                if (rest >= divisor) {
                    rest -= divisor;
                    digits |= 1;
                }
                rest <<= 1;
            }
            return rounded(negative, traced(digits, rest != 0), exponent - QUOTIENT_BITS, way);
        }

        /** The school's way, two binary digits at a step; a is not negative. */
        static long root(long a, int way) {
            if (a == 0 || !Rank.isFinite(a)) {
                return a;
            }
            int liftA = lift(a);
            int exponent = Rank.exponent(a) - liftA;
            int odd = exponent & 1;
            long radicand = Rank.significand(a) << (liftA + odd);
            long rest = 0;
            long digits = 0;
            for (int i = 0; i < ROOT_STEPS; i++) {
                int place = 2 * (ROOT_STEPS_WITH_DIGITS - 1 - i);
                rest = (rest << 2) | (place >= 0 ? (radicand >>> place) & 3 : 0);
                long trial = (digits << 2) | 1;
                digits <<= 1;
                if (rest >= trial) {
                    rest -= trial;
                    digits |= 1;
                }
            }
            int halfExponent = (exponent - odd) / 2 - (ROOT_STEPS - ROOT_STEPS_WITH_DIGITS);
            return rounded(false, traced(digits, rest != 0), halfExponent, way);
        }
    }

    /** A decorated interval, its bounds being ranks; the empty one is from plus to minus infinity. */
    private static final class Cell {
        static final int ILL = 0;
        static final int TRV = 1;
        static final int DEF = 2;
        static final int DAC = 3;
        static final int COM = 4;

        final long low;
        final long high;
        final int mark;

        private Cell(long low, long high, int mark) {
            this.low = low;
            this.high = high;
            this.mark = mark;
        }

        static Cell ill() {
            return new Cell(0, 0, ILL);
        }

        static Cell empty() {
            return new Cell(Rank.INFINITE, -Rank.INFINITE, TRV);
        }

        /** What is asked for with these bounds and this decoration: ILL if there is no such thing. */
        static Cell between(long low, long high, int mark) {
            Cell cell = new Cell(low, high, mark);
            boolean isInterval = low <= high && low < Rank.INFINITE && high > -Rank.INFINITE;
            return isInterval && (mark != COM || cell.isBounded()) ? cell : ill();
        }

        /**
         * The value of a function. A local decoration COM says that the function is continuous; whether the
         * operands are bounded need not be asked, as theirs is not COM otherwise.
         */
        static Cell value(long low, long high, int local, int operands) {
            Cell cell = new Cell(low, high, Math.min(local, operands));
            return cell.mark == COM && !cell.isBounded() ? new Cell(low, high, DAC) : cell;
        }

        boolean hasNoPoint() {
            return low > high;
        }

        boolean isBounded() {
            return low <= high && Rank.isFinite(low) && Rank.isFinite(high);
        }

        boolean isZero() {
            return low == 0 && high == 0;
        }

        long width() {
            return isBounded() ? Exact.sum(high, -low, Exact.UP) : Rank.INFINITE;
        }

        long magnitude() {
            return Math.max(Math.abs(low), Math.abs(high));
        }

        long mignitude() {
            return low <= 0 && high >= 0 ? 0 : Math.min(Math.abs(low), Math.abs(high));
        }

        long middle() {
            if (isBounded()) {
                return Exact.halfSum(low, high);
            }
            if (Rank.isFinite(low)) {
                return Rank.GREATEST;
            }
            return Rank.isFinite(high) ? -Rank.GREATEST : 0;
        }
    }

    private static final class OneOperand {
        static Cell value(int function, Cell x) {
            if (x.mark == Cell.ILL) {
                return Cell.ill();
            }
            if (x.hasNoPoint()) {
                return Cell.empty();
            }
            switch (function) {
                case 0: return Cell.value(-x.high, -x.low, Cell.COM, x.mark);
                case 1: return Cell.value(x.mignitude(), x.magnitude(), Cell.COM, x.mark);
                case 2: return square(x);
                case 3: return root(x);
                case 4: return Division.value(Rank.ONE, Rank.ONE, x, x.mark);
                case 5: return stepwise(Rank.floor(x.low), Rank.floor(x.high), x.mark);
                case 6: return stepwise(-Rank.floor(-x.low), -Rank.floor(-x.high), x.mark);
                case 7: return stepwise(Rank.towardsZero(x.low), Rank.towardsZero(x.high), x.mark);
                case 8: return stepwise(Rank.sign(x.low), Rank.sign(x.high), x.mark);
                default: return Cell.ill();
            }
        }

        private static Cell square(Cell x) {
            long least = x.mignitude();
            long most = x.magnitude();
            long low = Exact.product(least, least, Exact.DOWN);
            return Cell.value(low, Exact.product(most, most, Exact.UP), Cell.COM, x.mark);
        }

        private static Cell root(Cell x) {
            if (x.high < 0) {
                return Cell.empty();
            }
            long low = Exact.root(Math.max(x.low, 0), Exact.DOWN);
            return Cell.value(low, Exact.root(x.high, Exact.UP), x.low < 0 ? Cell.TRV : Cell.COM, x.mark);
        }

        /** A function that grows by steps is continuous on an interval only if it stays on one step there. */
        private static Cell stepwise(long low, long high, int mark) {
            return Cell.value(low, high, low == high ? Cell.COM : Cell.DEF, mark);
        }
    }

    private static final class TwoOperands {
        static Cell value(int function, Cell x, Cell y) {
            if (x.mark == Cell.ILL || y.mark == Cell.ILL) {
                return Cell.ill();
            }
            if (function == 7) {
                return hull(x, y);
            }
            if (x.hasNoPoint() || y.hasNoPoint()) {
                return Cell.empty();
            }
            int mark = Math.min(x.mark, y.mark);
            switch (function) {
                case 0: return sum(x, y.low, y.high, mark);
                case 1: return sum(x, -y.high, -y.low, mark);
                case 2: return product(x, y, mark);
                case 3: return Division.value(x.low, x.high, y, mark);
                case 4: return Cell.value(Math.min(x.low, y.low), Math.min(x.high, y.high), Cell.COM, mark);
                case 5: return Cell.value(Math.max(x.low, y.low), Math.max(x.high, y.high), Cell.COM, mark);
                case 6: return intersection(x, y);
                default: return Cell.ill();
            }
        }

        private static Cell sum(Cell x, long low, long high, int mark) {
            long least = Exact.sum(x.low, low, Exact.DOWN);
            return Cell.value(least, Exact.sum(x.high, high, Exact.UP), Cell.COM, mark);
        }

        private static Cell product(Cell x, Cell y, int mark) {
            long low = Math.min(leastProduct(x.low, y), leastProduct(x.high, y));
            long high = Math.max(greatestProduct(x.low, y), greatestProduct(x.high, y));
            return Cell.value(low, high, Cell.COM, mark);
        }

        private static long leastProduct(long a, Cell y) {
            return Math.min(Exact.product(a, y.low, Exact.DOWN), Exact.product(a, y.high, Exact.DOWN));
        }

        private static long greatestProduct(long a, Cell y) {
            return Math.max(Exact.product(a, y.low, Exact.UP), Exact.product(a, y.high, Exact.UP));
        }

        private static Cell intersection(Cell x, Cell y) {
            long low = Math.max(x.low, y.low);
            long high = Math.min(x.high, y.high);
            return low > high ? Cell.empty() : Cell.between(low, high, Cell.TRV);
        }

        /** The empty interval's bounds, plus and minus infinity, never win here. */
        private static Cell hull(Cell x, Cell y) {
            if (x.hasNoPoint() && y.hasNoPoint()) {
                return Cell.empty();
            }
            return Cell.between(Math.min(x.low, y.low), Math.max(x.high, y.high), Cell.TRV);
        }
    }

    /** The quotient of the interval from low to high by y, neither being empty. */
    private static final class Division {
        static Cell value(long low, long high, Cell y, int mark) {
            if (y.isZero()) {
                return Cell.empty();
            }
            if (y.low < 0 && y.high > 0) {
                long far = low == 0 && high == 0 ? 0 : Rank.INFINITE;
                return Cell.value(-far, far, Cell.TRV, mark);
            }
            if (y.low < 0) {
                return byPositive(-high, -low, -y.high, -y.low, mark);
            }
            return byPositive(low, high, y.low, y.high, mark);
        }

        private static Cell byPositive(long low, long high, long least, long greatest, int mark) {
            long from = Exact.quotient(low, low < 0 ? least : greatest, Exact.DOWN);
            long to = Exact.quotient(high, high > 0 ? least : greatest, Exact.UP);
            return Cell.value(from, to, least == 0 ? Cell.TRV : Cell.COM, mark);
        }
    }

    private static final class Relations {
        static boolean holds(int which, Cell x, Cell y) {
            boolean oneIsEmpty = x.hasNoPoint() || y.hasNoPoint();
            boolean bothAreEmpty = x.hasNoPoint() && y.hasNoPoint();
            switch (which) {
                case 0: return x.low == y.low && x.high == y.high;
                case 1: return x.hasNoPoint() || (!oneIsEmpty && y.low <= x.low && x.high <= y.high);
                case 2: return x.hasNoPoint() || (!oneIsEmpty && isBelow(y.low, x.low) && isBelow(x.high, y.high));
                case 3: return bothAreEmpty || (!oneIsEmpty && x.low <= y.low && x.high <= y.high);
                case 4: return oneIsEmpty || x.high <= y.low;
                case 5: return bothAreEmpty || (!oneIsEmpty && isBelow(x.low, y.low) && isBelow(x.high, y.high));
                case 6: return oneIsEmpty || x.high < y.low;
                case 7: return oneIsEmpty || x.high < y.low || y.high < x.low;
                default: return false;
            }
        }

        private static boolean isBelow(long a, long b) {
            return a < b || (a == b && !Rank.isFinite(a));
        }
    }

    /** A decimal number: its digits as one whole number times 10 to its scale. */
    private static final class Numeral {
        private static final int MOST_DIGITS = 18;
        private static final int MOST_SCALE = 40;
        private static final long NEARLY_FULL = 100_000_000_000_000_000L;
        private static final int ROW = 28;
        private static final int FRACTION_BYTES = 20;

        private final int[] row;
        private boolean negative;
        private long digits;
        private int digitCount;
        private int scale;

        Numeral() {
            row = new int[ROW];
        }

        void begin(boolean isNegative) {
            negative = isNegative;
            digits = 0;
            digitCount = 0;
            scale = 0;
        }

        boolean addDigit(int digit) {
            if (digits == 0 && digit == 0) {
                return true;
            }
            if (digitCount >= MOST_DIGITS) {
                return false;
            }
            digits = digits * 10 + digit;
            digitCount++;
            return true;
        }

        boolean setScale(int s) {
            scale = s;
            return s >= -MOST_SCALE && s <= MOST_SCALE;
        }

        boolean isGreaterThan(Numeral other) {
            int sign = signum();
            int otherSign = other.signum();
            if (sign != otherSign) {
                return sign > otherSign;
            }
            return sign < 0 ? other.isLargerThan(this) : sign > 0 && isLargerThan(other);
        }

        private int signum() {
            return digits == 0 ? 0 : negative ? -1 : 1;
        }

        /** Zeros are put behind the digits of the greater scale until the scales meet or it has won for sure. */
        private boolean isLargerThan(Numeral other) {
            long mine = digits;
            long others = other.digits;
            int gap = scale - other.scale;
            for (int i = 0; i < MOST_DIGITS && gap > 0 && mine < NEARLY_FULL; i++) {
                mine *= 10;
                gap--;
            }
            for (int i = 0; i < MOST_DIGITS && gap < 0 && others < NEARLY_FULL; i++) {
                others *= 10;
                gap++;
            }
            return gap == 0 ? mine > others : gap > 0;
        }

        long rounded(int way) {
            int fraction = scale < 0 ? FRACTION_BYTES : 0;
            for (int i = 0; i < ROW; i++) {
                int place = i - fraction;
                row[i] = place >= 0 && place < 8 ? (int) (digits >>> (8 * place)) & 255 : 0;
            }
            // 10 to the scale is 5 to the scale, done in the row, times 2 to the scale, left to the exponent.
            boolean inexact = false;
            for (int i = 0; i < MOST_SCALE && i < scale; i++) {
                timesFive();
            }
            for (int i = 0; i < MOST_SCALE && i < -scale; i++) {
                inexact |= !byFive();
            }
            return gathered(scale - 8 * fraction, inexact, way);
        }

        private void timesFive() {
            int carry = 0;
            for (int i = 0; i < ROW; i++) {
                carry += row[i] * 5;
                row[i] = carry & 255;
                carry >>>= 8;
            }
        }

        private boolean byFive() {
            int rest = 0;
            for (int i = ROW - 1; i >= 0; i--) {
                rest = (rest << 8) | row[i];
                row[i] = rest / 5;
                rest %= 5;
            }
            return rest == 0;
        }

        private long gathered(int exponent, boolean inexact, int way) {
            long significand = 0;
            int unit = exponent;
            boolean more = inexact;
            for (int i = ROW - 1; i >= 0; i--) {
                if (significand < 2 * Rank.HIDDEN_BIT) {
                    significand = (significand << 8) | row[i];
                } else {
                    more |= row[i] != 0;
                    unit += 8;
                }
            }
            return Exact.rounded(negative, Exact.traced(significand, more), unit, way);
        }
    }

    /** Reads a text as a literal; [ nai ] needs no rule here, being ILL as all is that is no literal. */
    private static final class LiteralReader {
        private static final int WRONG = 0;
        private static final int NOTHING = 1;
        private static final int NUMBER = 2;
        private static final int MINUS_INFINITY = 3;
        private static final int PLUS_INFINITY = 4;

        private final Numeral left;
        private final Numeral right;
        private final char[] small;
        private int end;
        private int at;

        LiteralReader() {
            left = new Numeral();
            right = new Numeral();
            small = new char[MOST_CHARACTERS];
            end = 0;
            at = 0;
        }

        Cell read(char[] text, int size) {
            begin(text, size);
            if (!take('[')) {
                return Cell.ill();
            }
            takeSpaces();
            boolean isNamed = next() == ']' || next() == 'e';
            Cell bare = isNamed ? readNamed() : readEnds();
            if (bare.mark == Cell.ILL || at == end) {
                return bare;
            }
            int mark = take('_') ? readMark() : Cell.ILL;
            return at == end ? marked(bare, mark) : Cell.ill();
        }

        /** Great letters become small ones here, so that nothing else need think of them. */
        private void begin(char[] text, int size) {
            end = Math.min(Math.min(size, text.length), small.length);
            at = 0;
            for (int i = 0; i < end; i++) {
                char c = text[i];
                small[i] = c >= 'A' && c <= 'Z' ? (char) (c - 'A' + 'a') : c;
            }
        }

        private static Cell marked(Cell bare, int mark) {
            if (mark == Cell.ILL) {
                return Cell.ill();
            }
            if (bare.hasNoPoint()) {
                return mark == Cell.TRV ? bare : Cell.ill();
            }
            return Cell.between(bare.low, bare.high, mark);
        }

        private int readMark() {
            if (takeWord("com")) {
                return Cell.COM;
            }
            if (takeWord("dac")) {
                return Cell.DAC;
            }
            if (takeWord("def")) {
                return Cell.DEF;
            }
            return takeWord("trv") ? Cell.TRV : Cell.ILL;
        }

        private Cell readNamed() {
            if (take(']')) {
                return Cell.empty();
            }
            if (takeWord("empty")) {
                return takeClosing() ? Cell.empty() : Cell.ill();
            }
            if (takeWord("entire")) {
                return takeClosing() ? strongest(-Rank.INFINITE, Rank.INFINITE) : Cell.ill();
            }
            return Cell.ill();
        }

        private Cell readEnds() {
            int from = readEnd(left);
            if (from == NUMBER && takeClosing()) {
                return strongest(left.rounded(Exact.DOWN), left.rounded(Exact.UP));
            }
            takeSpaces();
            if (from == WRONG || from == PLUS_INFINITY || !take(',')) {
                return Cell.ill();
            }
            takeSpaces();
            int to = readEnd(right);
            if (to == WRONG || to == MINUS_INFINITY || !takeClosing()) {
                return Cell.ill();
            }
            if (from == NUMBER && to == NUMBER && left.isGreaterThan(right)) {
                return Cell.ill();
            }
            long low = from == NUMBER ? left.rounded(Exact.DOWN) : -Rank.INFINITE;
            return strongest(low, to == NUMBER ? right.rounded(Exact.UP) : Rank.INFINITE);
        }

        private static Cell strongest(long low, long high) {
            return Cell.value(low, high, Cell.COM, Cell.COM);
        }

        private int readEnd(Numeral numeral) {
            boolean negative = take('-');
            boolean hasSign = negative || take('+');
            if (takeWord("infinity") || takeWord("inf")) {
                return negative ? MINUS_INFINITY : PLUS_INFINITY;
            }
            if (!hasSign && next() != '.' && !isDigit(next())) {
                return NOTHING;
            }
            numeral.begin(negative);
            return readNumber(numeral) ? NUMBER : WRONG;
        }

        private boolean readNumber(Numeral numeral) {
            int start = at;
            if (!readDigits(numeral)) {
                return false;
            }
            int before = at - start;
            boolean hasPoint = take('.');
            start = at;
            if (hasPoint && !readDigits(numeral)) {
                return false;
            }
            int behind = at - start;
            if (before + behind == 0) {
                return false;
            }
            return take('e') ? readExponent(numeral, behind) : numeral.setScale(-behind);
        }

        private boolean readDigits(Numeral numeral) {
            for (; at < end && isDigit(small[at]); at++) {
                if (!numeral.addDigit(small[at] - '0')) {
                    return false;
                }
            }
            return true;
        }

        private boolean readExponent(Numeral numeral, int behind) {
            boolean negative = take('-');
            if (!negative) {
                take('+');
            }
            int exponent = 0;
            int start = at;
            for (; at < start + 2 && isDigit(next()); at++) {
                exponent = exponent * 10 + (next() - '0');
            }
            return at > start && numeral.setScale((negative ? -exponent : exponent) - behind);
        }

        private static boolean isDigit(char c) {
            return c >= '0' && c <= '9';
        }

        /** The character 0, which no text has, stands for the end. */
        private char next() {
            return at < end ? small[at] : 0;
        }

        private boolean take(char c) {
            if (next() != c) {
                return false;
            }
            at++;
            return true;
        }

        private boolean takeWord(String word) {
            if (at + word.length() > end) {
                return false;
            }
            for (int i = 0; i < word.length(); i++) {
                if (small[at + i] != word.charAt(i)) {
                    return false;
                }
            }
            at += word.length();
            return true;
        }

        private void takeSpaces() {
            while (at < end && small[at] == ' ') {
                at++;
            }
        }

        private boolean takeClosing() {
            takeSpaces();
            return take(']');
        }
    }
}
