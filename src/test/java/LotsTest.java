/** Promises 26 to 28. */
final class LotsTest {
    public static void main(String[] args) {
        seeds();
        lots();
        times();
        Due.end();
    }

    private static int next(int z) {
        return z * 1103515245 + 12345;
    }

    private static void seeds() {
        TwoSidedTables x = new TwoSidedTables();
        Due.is("seed", x.seed(Integer.MIN_VALUE), 1);
        Due.is("seed", x.seed(-1), Integer.MIN_VALUE);
        Due.is("seed", x.seed(0), -1);
        Due.is("seed", x.seed(9), 0);
    }

    private static void lots() {
        int[] seeds = {1, 7, -5, Integer.MIN_VALUE, 123456789};
        for (int seed : seeds) {
            for (int side = 0; side < 9; side++) {
                int m = 1 + side / 3;
                int n = 1 + side % 3;
                TwoSidedTables x = new TwoSidedTables();
                x.size(m, n);
                x.seed(seed);
                int first = x.lot();
                int z = lotOf(x, 0, m, m, seed);
                z = lotOf(x, 1, n, n, z);
                z = lotOf(x, 2, m, n, z);
                Due.is("lot", first, x.at(2, 0, 0));
                Due.is("z goes on", x.seed(0), z);
            }
        }
        TwoSidedTables x = new TwoSidedTables();
        // z is 1: A 0, 0 takes (1103527590 >>> 16) % 11 - 5
        x.lot();
        Due.is("the first of A", x.at(0, 0, 0), 100 + 16838 % 11 - 5);
    }

    /** Looks at a table's entries, from z on: z after it. */
    private static int lotOf(TwoSidedTables x, int table, int rows, int columns, int from) {
        int z = from;
        for (int place = 0; place < rows * columns; place++) {
            z = next(z);
            int due = table == 2 ? (z >>> 16) % 101 - 50 : (z >>> 16) % 11 - 5;
            Due.is("lot's entry", x.at(table, place / columns, place % columns), 100 + due);
        }
        return z;
    }

    private static void times() {
        for (int kind = 0; kind < 7; kind++) {
            TwoSidedTables x = Due.told(2, 2, "a 1 2,3 4;b 5 4,3 2;c 1 -2,3 -4;");
            TwoSidedTables other = new TwoSidedTables();
            x.equation(kind, 1);
            other.equation(kind, 1);
            x.seed(77 + kind);
            other.seed(77 + kind);
            int solvable = 0;
            for (int i = 0; i < 30; i++) {
                other.lot();
                solvable += other.of(0, 6);
            }
            Due.is("times, kind " + kind, x.times(0, 30), solvable);
            Due.is("A is as it was", x.at(0, 1, 0), 103);
            Due.is("B is as it was", x.at(1, 0, 1), 104);
            Due.is("C is as it was", x.at(2, 1, 1), 96);
            Due.is("z goes on", x.seed(0), other.seed(0));
        }
        TwoSidedTables x = new TwoSidedTables();
        x.equation(2, 0);
        Due.is("times, e", x.times(1, 1), -1);
        Due.is("times, n", x.times(0, 0), -1);
        Due.is("times, n", x.times(0, 31), -1);
        Due.is("times, n", x.times(0, -1), -1);
        x.size(3, 3);
        Due.is("times, no fit", x.times(0, 5), -4);
        Due.is("times, BAD first", x.times(0, 31), -1);
        Due.is("refusals leave z", x.seed(1), 1);
    }
}
