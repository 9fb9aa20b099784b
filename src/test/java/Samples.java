import java.util.Random;

/** Doubles and intervals for the tests: the edges often, all others sometimes; the same ones at every run. */
final class Samples {
    private static final double[] EDGES = {
        0, Double.MIN_VALUE, 2 * Double.MIN_VALUE, 3 * Double.MIN_VALUE, Math.nextDown(Double.MIN_NORMAL),
        Double.MIN_NORMAL, Math.nextUp(Double.MIN_NORMAL), 0x1p-1021, 0x1p-538, 0x1p-537, 0x1p-512, 0x1p-53, 0x1p-52,
        0.1, 1.0 / 3, 0.5, Math.nextDown(0.5), Math.nextDown(1.0), 1, Math.nextUp(1.0), 1.5, 2, 2.5, 3, 4, 5, 7, 9, 10,
        0x1p51 + 0.5, 0x1p52 - 0.5, 0x1p52, 0x1p52 + 1, 0x1p53 - 1, 0x1p53, 0x1p53 + 2, 0x1p54, 0x1p511, 0x1p512,
        0x1.fffffffffffffp511, 0x1p1022, 0x1p1023, 0x1p970, 0x1p971, Math.nextDown(Double.MAX_VALUE), Double.MAX_VALUE
    };

    private final Random random;

    Samples(long seed) {
        random = new Random(seed);
    }

    int below(int bound) {
        return random.nextInt(bound);
    }

    double finite() {
        double size;
        switch (random.nextInt(6)) {
            case 0:
            case 1: size = EDGES[random.nextInt(EDGES.length)]; break;
            case 2: size = random.nextInt(20) / 4.0; break;
            case 3: size = Math.scalb(1 + random.nextDouble(), random.nextInt(120) - 60); break;
            case 4: size = Math.scalb((double) (random.nextLong() >>> 12), -1074); break;
            default: size = Double.longBitsToDouble(Math.floorMod(random.nextLong(), Check.INF));
        }
        return random.nextBoolean() ? size : -size;
    }

    Reference interval() {
        double a = finite();
        double b = random.nextInt(4) == 0 ? a : random.nextInt(4) == 0 ? neighbour(a) : finite();
        double lower = random.nextInt(8) == 0 ? Double.NEGATIVE_INFINITY : Math.min(a, b);
        double upper = random.nextInt(8) == 0 ? Double.POSITIVE_INFINITY : Math.max(a, b);
        return random.nextInt(40) == 0 ? Reference.EMPTY : new Reference(lower, upper);
    }

    private double neighbour(double a) {
        double b = a;
        int steps = 1 + random.nextInt(3);
        for (int i = 0; i < steps && Math.abs(b) < Double.MAX_VALUE; i++) {
            b = random.nextBoolean() ? Math.nextUp(b) : Math.nextDown(b);
        }
        return Math.abs(b) > Double.MAX_VALUE ? a : b;
    }

    /** A decoration that such an interval may have. */
    int mark(Reference x) {
        if (x.isEmpty()) {
            return Check.TRV;
        }
        int strongest = x.isBounded() ? Check.COM : Check.DAC;
        return random.nextInt(3) == 0 ? 1 + random.nextInt(strongest) : strongest;
    }

    static int put(OutwardTape tape, Reference x, int mark) {
        return x.isEmpty() ? Check.putEmpty(tape) : Check.put(tape, x.lower, x.upper, mark);
    }
}
