/** A decorated interval as a test tells it: what is put on a tape, or what is due there. */
record Told(double lower, double upper, int mark) {
    static final Told EMPTY = new Told(Double.POSITIVE_INFINITY, Double.NEGATIVE_INFINITY, Check.TRV);
    static final Told ILL = new Told(Double.NaN, Double.NaN, Check.ILL);

    int putOn(OutwardTape tape) {
        return this == ILL ? Check.putIll(tape) : this == EMPTY ? Check.putEmpty(tape)
            : Check.put(tape, lower, upper, mark);
    }

    void due(String what, OutwardTape tape, int x) {
        if (this == ILL) {
            Check.ill(what, tape, x);
        } else {
            Check.interval(what, tape, x, lower, upper, mark);
        }
    }

    boolean isBounded() {
        return Math.abs(lower) <= Double.MAX_VALUE && Math.abs(upper) <= Double.MAX_VALUE;
    }

    @Override
    public String toString() {
        return this == ILL ? "ILL" : this == EMPTY ? "[]" : "[" + lower + ", " + upper + "]_" + mark;
    }
}
