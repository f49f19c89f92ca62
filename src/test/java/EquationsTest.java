/** Promises 10 to 21. */
final class EquationsTest {
    public static void main(String[] args) {
        equations();
        whatEquationsAre();
        fitting();
        rights();
        solutions();
        bases();
        witnesses();
        similar();
        whole();
        lower();
        swapped();
        stable();
        Due.end();
    }

    private static void equations() {
        TwoSidedTables x = new TwoSidedTables();
        Due.is("of no equation", x.of(0, 0), -1);
        for (int i = 0; i < 6; i++) {
            Due.is("equation", x.equation(6 - i, i % 5 - 2), i);
            Due.is("many(2)", x.many(2), i + 1);
        }
        Due.is("a seventh", x.equation(0, 0), -2);
        int[][] bad = {{-1, 0}, {7, 0}, {0, 3}, {0, -3}, {Integer.MAX_VALUE, Integer.MIN_VALUE}};
        for (int[] b : bad) {
            Due.is("equation, BAD ahead of FULL", x.equation(b[0], b[1]), -1);
            Due.is("change", x.change(0, b[0], b[1]), -1);
        }
        Due.is("change", x.change(6, 0, 0), -1);
        Due.is("change", x.change(-1, 0, 0), -1);
        Due.is("change", x.change(1, 1, 2), 5);
        Due.is("change", x.change(1, 3, -2), 1);
        Due.is("of", x.of(1, 0), 3);
        Due.is("of", x.of(1, 1), 8);
        Due.is("of", x.of(0, 0), 6);
        Due.is("of", x.of(2, 0), 4);
        Due.is("many(2)", x.many(2), 6);
    }

    private static void whatEquationsAre() {
        TwoSidedTables x = new TwoSidedTables();
        x.equation(5, 2);
        Due.is("of, e", x.of(1, 0), -1);
        Due.is("of, e", x.of(-1, 0), -1);
        Due.is("of, what", x.of(0, 7), -1);
        Due.is("of, what", x.of(0, -1), -1);
        Due.is("of, 1", x.of(0, 1), 12);
        // A is the shift away from no inverse: A X + X A' + 2 X
        x = Due.told(2, 2, "a -1 1, 0 -1; c 1 2, 2 0;");
        x.equation(5, 2);
        // x00: 2 x01 ; x01: x11 ; x11: 0: x00 is free, then 2 x01 = 1, x11 = 2, and 0 is 0
        Due.is("of, 3", x.of(0, 3), 3);
        Due.is("of, 4", x.of(0, 4), 2);
        Due.is("of, 5", x.of(0, 5), 1);
        Due.is("of, 6", x.of(0, 6), 1);
        Due.is("solution", x.solution(0, 0, 1, 0), 1);
        Due.is("solution", x.solution(0, 1, 0, 1), 2);
        Due.is("solution", x.solution(0, 1, 1, 0), 2);
        Due.is("solution", x.solution(0, 0, 0, 0), 0);
        Due.is("solution", x.solution(0, 0, 0, 1), 1);
        x.set(2, 1, 1, 1);
        Due.is("of, 6", x.of(0, 6), 0);
        Due.is("of, 4", x.of(0, 4), 2);
    }

    private static void fitting() {
        int[][] unknowns = {
            {1, 1, 1, 1, 1, 1, 0}, {4, 4, 4, 4, 2, 3, 1}, {9, 9, 9, 9, 3, 6, 3}};
        for (int m = 1; m <= 3; m++) {
            for (int n = 1; n <= 3; n++) {
                for (int kind = 0; kind < 7; kind++) {
                    TwoSidedTables x = new TwoSidedTables();
                    x.size(m, n);
                    x.equation(kind, 0);
                    boolean has = m == n || kind < 2;
                    int count = m == n ? unknowns[m - 1][kind] : m * n;
                    boolean fits = has && count <= 6;
                    String call = " of kind " + kind + ", " + m + " by " + n;
                    Due.is("of 2" + call, x.of(0, 2), fits ? 1 : 0);
                    Due.is("of 3" + call, x.of(0, 3), has ? count : -4);
                    Due.is("of 4" + call, x.of(0, 4), fits ? 0 : -4);
                    Due.is("of 5" + call, x.of(0, 5), fits ? (1 << count) - 1 : -4);
                    Due.is("of 6" + call, x.of(0, 6), fits ? 1 : -4);
                    Due.is("many 5" + call, x.many(5), fits ? 1 : 0);
                    Due.is("solution" + call, x.solution(0, 0, 0, 0), fits ? 0 : Due.FAR_STATE);
                    Due.is("witness" + call, x.witness(0, 0, 0, 0), fits ? Due.FAR_NONE : Due.FAR_STATE);
                    Due.is("base" + call, x.base(0, 8, 0, 0, 0), fits ? Due.FAR_NONE : Due.FAR_STATE);
                    Due.is("lay" + call, x.lay(0, 0), fits ? 1 : -4);
                    Due.is("times" + call, x.times(0, 1) >= 0 ? 1 : -4, fits ? 1 : -4);
                    Due.is("right" + call, x.right(0, 0, 0) == Due.FAR_STATE ? 0 : 1, has ? 1 : 0);
                }
            }
        }
    }

    private static void rights() {
        TwoSidedTables x = Due.told(2, 2, "a 1 2,3 4; b -1 -2,-3 5;");
        long[][] due = {{-1, -2, -3, 5}, {0, 0, 0, 0}, {-1, -2, -3, -4}, {1, 3, 2, 4},
            {-1, -2, -3, -4}, {1, 3, 2, 4}, {1, 3, 2, 4}};
        for (int kind = 0; kind < 7; kind++) {
            if (x.many(2) == 0) {
                x.equation(0, 0);
            }
            x.change(0, kind, 1);
            for (int place = 0; place < 4; place++) {
                Due.is("right of kind " + kind, x.right(0, place / 2, place % 2), due[kind][place]);
            }
        }
        Due.is("right, i", x.right(0, 2, 0), Due.FAR_BAD);
        Due.is("right, i", x.right(0, -1, 0), Due.FAR_BAD);
        Due.is("right, j", x.right(0, 0, 2), Due.FAR_BAD);
        Due.is("right, e", x.right(1, 0, 0), Due.FAR_BAD);
        x.size(2, 3);
        Due.is("right", x.right(0, 2, 2), Due.FAR_STATE);
        Due.is("right, BAD first", x.right(0, 3, 0), Due.FAR_BAD);
        x.change(0, 0, 0);
        Due.is("right is n by n", x.right(0, 2, 2), 0);
    }

    private static void solutions() {
        // x * 3 + x * -2 + x * 1 = 7
        TwoSidedTables x = Due.told(1, 1, "a3;b-2;c7;");
        x.equation(0, 1);
        Due.is("solution", x.solution(0, 0, 0, 0), 7);
        Due.is("solution", x.solution(0, 0, 0, 1), 2);
        x.change(0, 0, -2);
        Due.is("below above 0", x.solution(0, 0, 0, 0), -7);
        Due.is("below above 0", x.solution(0, 0, 0, 1), 1);
        x.change(0, 0, -1);
        Due.is("none", x.solution(0, 0, 0, 0), Due.FAR_NONE);
        Due.is("solution, part", x.solution(0, 0, 0, 2), Due.FAR_BAD);
        Due.is("solution, part", x.solution(0, 0, 0, -1), Due.FAR_BAD);
        Due.is("solution, i", x.solution(0, 1, 0, 0), Due.FAR_BAD);
        Due.is("solution, j", x.solution(0, 0, -1, 0), Due.FAR_BAD);
        Due.is("solution, e", x.solution(1, 0, 0, 0), Due.FAR_BAD);
        // odd: A X + X A', X = x (0 1, -1 0): x (a00 + a11) off the diagonal
        x = Due.told(2, 2, "a 1 2,3 4;c 0 3,-3 0;");
        x.equation(6, 0);
        Due.is("odd", x.solution(0, 0, 1, 0), 3);
        Due.is("odd", x.solution(0, 0, 1, 1), 5);
        Due.is("odd", x.solution(0, 1, 0, 0), -3);
        Due.is("odd", x.solution(0, 1, 0, 1), 5);
        Due.is("odd", x.solution(0, 1, 1, 0), 0);
        // level: A X - X A is (0, a01 (x1 - x0), a10 (x0 - x1), 0), and s X
        x = Due.told(2, 2, "a 1 2,3 4;c 6 -14,21 -8;");
        x.equation(4, 2);
        Due.is("level", x.solution(0, 0, 0, 0), 3);
        Due.is("level", x.solution(0, 1, 1, 0), -4);
        Due.is("level", x.solution(0, 0, 1, 0), 0);
        x.change(0, 4, 1);
        Due.is("level", x.solution(0, 0, 0, 0), Due.FAR_NONE);
    }

    private static void bases() {
        // alike: A X - X A is 0 just for X that A goes with; A = (0 1, 0 0): X = x, y, 0, x
        TwoSidedTables x = Due.told(2, 2, "a 0 1,0 0;");
        x.equation(2, 0);
        Due.is("free", x.of(0, 5), 1 << 1 | 1 << 3);
        long[] one = {0, 1, 0, 0};
        long[] three = {1, 0, 0, 1};
        for (int place = 0; place < 4; place++) {
            Due.is("base 1", x.base(0, 1, place / 2, place % 2, 0), one[place]);
            Due.is("base 1, below", x.base(0, 1, place / 2, place % 2, 1), 1);
            Due.is("base 3", x.base(0, 3, place / 2, place % 2, 0), three[place]);
        }
        Due.is("base 0", x.base(0, 0, 0, 0, 0), Due.FAR_NONE);
        Due.is("base 2", x.base(0, 2, 0, 0, 0), Due.FAR_NONE);
        for (int u = 4; u < 9; u++) {
            Due.is("base of no unknown", x.base(0, u, 0, 0, 0), Due.FAR_NONE);
        }
        Due.is("base, u", x.base(0, 9, 0, 0, 0), Due.FAR_BAD);
        Due.is("base, u", x.base(0, -1, 0, 0, 0), Due.FAR_BAD);
        Due.is("base, i", x.base(0, 1, 2, 0, 0), Due.FAR_BAD);
        Due.is("base, j", x.base(0, 1, 0, 2, 0), Due.FAR_BAD);
        Due.is("base, part", x.base(0, 1, 0, 0, 2), Due.FAR_BAD);
        Due.is("base, e", x.base(1, 1, 0, 0, 0), Due.FAR_BAD);
        // a base with parts: 2 x0 + 3 x1 for left
        x = Due.told(2, 1, "a 2 3,0 0;");
        x.equation(1, 0);
        Due.is("base", x.base(0, 1, 0, 0, 0), -3);
        Due.is("base", x.base(0, 1, 0, 0, 1), 2);
        Due.is("base", x.base(0, 1, 1, 0, 0), 1);
        // of a level one: A X - X A is 0 if A has nothing off the diagonal
        x = Due.told(3, 3, "a 1 0 0,0 2 0,0 0 3;");
        x.equation(4, 0);
        for (int u = 0; u < 3; u++) {
            for (int place = 0; place < 9; place++) {
                Due.is("base of level", x.base(0, u, place / 3, place % 3, 0), place == 4 * u ? 1 : 0);
                Due.is("base of level", x.base(0, u, place / 3, place % 3, 1), 1);
            }
        }
        // of an even one both entries
        x = Due.told(2, 2, "a 0 1,-1 0;");
        x.equation(5, 0);
        Due.is("free of even", x.of(0, 5), 4);
        Due.is("base of even", x.base(0, 2, 0, 0, 0), 1);
        Due.is("base of even", x.base(0, 2, 1, 0, 0), 0);
        x = Due.told(2, 2, "a -2 0,0 2;");
        x.equation(5, 0);
        Due.is("free of even", x.of(0, 5), 2);
        Due.is("base of even", x.base(0, 1, 0, 1, 0), 1);
        Due.is("base of even", x.base(0, 1, 1, 0, 0), 1);
        Due.is("base of even", x.base(0, 1, 1, 1, 0), 0);
        // of an odd one both entries
        x = Due.told(2, 2, "a 1 2,3 -1;");
        x.equation(6, 0);
        Due.is("base of odd", x.base(0, 0, 0, 1, 0), 1);
        Due.is("base of odd", x.base(0, 0, 1, 0, 0), -1);
        Due.is("base of odd", x.base(0, 0, 1, 1, 0), 0);
        Due.is("base of odd", x.base(0, 0, 1, 1, 1), 1);
    }

    private static void witnesses() {
        // left with A = (2 4, 1 2): y goes with A if 2 y0 + y1 = 0; C = (3, 1): 3 y0 + y1 = 1
        TwoSidedTables x = Due.told(2, 1, "a 2 4,1 2;c 3,1;");
        x.equation(1, 0);
        Due.is("witness", x.witness(0, 0, 0, 0), 1);
        Due.is("witness", x.witness(0, 1, 0, 0), -2);
        Due.is("witness", x.witness(0, 1, 0, 1), 1);
        // C = (5, 1): 5 y0 + y1 = 1: y0 = 1/3, y1 = -2/3
        x.set(2, 0, 0, 5);
        Due.is("witness", x.witness(0, 0, 0, 1), 3);
        Due.is("witness", x.witness(0, 1, 0, 0), -2);
        Due.is("witness", x.witness(0, 1, 0, 1), 3);
        x.set(2, 0, 0, 2);
        Due.is("solvable", x.witness(0, 0, 0, 0), Due.FAR_NONE);
        Due.is("witness, i", x.witness(0, 2, 0, 0), Due.FAR_BAD);
        Due.is("witness, j", x.witness(0, 0, 1, 0), Due.FAR_BAD);
        Due.is("witness, part", x.witness(0, 0, 0, 2), Due.FAR_BAD);
        Due.is("witness, e", x.witness(1, 0, 0, 0), Due.FAR_BAD);
        // no unknown at all: Y is 1 by C
        x = Due.told(1, 1, "a 2;c -7;");
        x.equation(6, 0);
        Due.is("unknowns", x.of(0, 3), 0);
        Due.is("solvable", x.of(0, 6), 0);
        Due.is("witness", x.witness(0, 0, 0, 0), -1);
        Due.is("witness", x.witness(0, 0, 0, 1), 7);
        // a free place of Y is 0: all of A is 0, C = (0 4, 2 0)
        x = Due.told(2, 2, "c 0 4,2 0;");
        x.equation(0, 0);
        Due.is("witness", x.witness(0, 0, 1, 1), 4);
        Due.is("witness", x.witness(0, 1, 0, 0), 0);
        Due.is("witness", x.witness(0, 0, 0, 0), 0);
    }

    private static void similar() {
        TwoSidedTables x = Due.told(1, 1, "a2;b-2;c1;");
        x.equation(0, 0);
        Due.is("similar", x.similar(0), 0);
        x.change(0, 0, 1);
        Due.is("similar", x.similar(0), 1);
        x.change(0, 0, 0);
        x.set(2, 0, 0, 0);
        Due.is("similar", x.similar(0), 1);
        Due.is("similar, e", x.similar(1), -1);
        Due.is("similar, e", x.similar(-1), -1);
        // any shape: level can't have it, a whole X can
        x = Due.told(2, 2, "a 1 0,0 2;c 0 1,0 0;");
        x.equation(4, 0);
        Due.is("not level", x.of(0, 6), 0);
        Due.is("similar", x.similar(0), 1);
        x.set(2, 0, 0, 1);
        Due.is("similar", x.similar(0), 0);
        x.size(3, 3);
        x.change(0, 0, 0);
        Due.is("similar, 9 entries", x.similar(0), -4);
        x.change(0, 5, 0);
        Due.is("similar, 9 entries", x.similar(0), -4);
        x.size(3, 2);
        Due.is("similar, n is not m", x.similar(0), -4);
        x.change(0, 1, 0);
        Due.is("similar", x.similar(0), 1);
    }

    private static void whole() {
        TwoSidedTables x = Due.told(1, 1, "a2;b3;");
        x.equation(0, -1);
        Due.is("whole", x.whole(0), 4);
        x = Due.told(2, 1, "a 0 1,1 0;b 2;");
        x.equation(0, 0);
        // (2 1, 1 2)
        Due.is("whole", x.whole(0), 3);
        x.change(0, 1, 0);
        // left: the determinant of A, which has its rows the other way
        Due.is("whole", x.whole(0), -1);
        x.change(0, 3, 0);
        Due.is("whole, n is not m", x.whole(0), Due.FAR_STATE);
        Due.is("whole, e", x.whole(1), Due.FAR_BAD);
        x.size(3, 3);
        x.change(0, 0, 0);
        Due.is("whole, 9 entries", x.whole(0), Due.FAR_STATE);
        // left of 2 by 2: det(A + s) squared, of any shape too
        x = Due.told(2, 2, "a 5 -3,2 1;");
        x.equation(1, 1);
        Due.is("whole", x.whole(0), 18 * 18);
        x.change(0, 2, 0);
        Due.is("whole of alike", x.whole(0), 0);
        x.change(0, 6, 2);
        // product of all a + b + 2, of the roots of x x - 6 x + 11: (6+2)^2 * (roots: 2a+2, 2b+2 : 4 (11 + 6 + 1))
        Due.is("whole of odd", x.whole(0), 64 * 72);
    }

    private static void lower() {
        TwoSidedTables x = Due.told(2, 1, "a 1 2,0 2;b-2;c 1,1;");
        x.equation(0, 0);
        Due.is("lower: 0 x is 1", x.lower(0, 1), 0);
        x.change(0, 0, 1);
        Due.is("lower", x.lower(0, 1), 1);
        x.change(0, 0, 0);
        x.set(2, 1, 0, 0);
        Due.is("lower: 0 x is 0", x.lower(0, 1), 1);
        Due.is("all of it too", x.of(0, 6), 1);
        Due.is("lower, s", x.lower(0, 0), -1);
        Due.is("lower, s", x.lower(0, 3), -1);
        Due.is("lower, e", x.lower(1, 1), -1);
        Due.is("lower, s beyond", x.lower(0, 2), -4);
        x.set(0, 1, 0, 1);
        Due.is("lower, no split", x.lower(0, 1), -4);
        x.size(1, 1);
        Due.is("lower of 1 by 1", x.lower(0, 1), -4);
        // 3 by 3, RIGHT by all of A, though the rows are fewer, and any shape
        x = Due.told(3, 3, "a 1 2 3,0 1 0,0 0 2;c 0 0 0,0 0 0,0 0 5;");
        x.equation(2, 0);
        Due.is("lower(0, 1)", x.lower(0, 1), 0);
        Due.is("lower(0, 2)", x.lower(0, 2), 0);
        x.change(0, 4, 1);
        Due.is("lower(0, 1) of level", x.lower(0, 1), 1);
        Due.is("lower(0, 2) of level", x.lower(0, 2), 1);
        x.change(0, 0, -2);
        Due.is("lower(0, 2)", x.lower(0, 2), 0);
        x.change(0, 0, -1);
        Due.is("lower(0, 2)", x.lower(0, 2), 1);
        Due.is("many(6)", x.many(6), 6);
        x.set(0, 1, 0, 1);
        Due.is("many(6)", x.many(6), 4);
        x.set(0, 2, 0, 1);
        Due.is("many(6)", x.many(6), 0);
        x.set(0, 1, 0, 0);
        Due.is("many(6)", x.many(6), 0);
        x.set(0, 2, 0, 0);
        x.set(0, 2, 1, 1);
        Due.is("many(6)", x.many(6), 2);
        Due.is("lower, no split", x.lower(0, 2), -4);
        x = Due.told(3, 2, "a 1 2 3,0 1 0,0 0 2;");
        x.equation(3, 0);
        Due.is("lower, n is not m", x.lower(0, 1), -4);
        x.change(0, 1, 0);
        Due.is("lower", x.lower(0, 1), 1);
    }

    private static void swapped() {
        TwoSidedTables x = Due.told(1, 1, "c 0;");
        Due.is("swapped", x.swapped(), 1);
        x.set(2, 0, 0, 1);
        Due.is("swapped", x.swapped(), 0);
        x = Due.told(3, 3, "c 1 2 3,4 -50 6,7 8 49;");
        Due.is("swapped", x.swapped(), 1);
        x.set(2, 1, 1, 50);
        Due.is("swapped", x.swapped(), 0);
        x.size(3, 2);
        Due.is("swapped, n is not m", x.swapped(), -4);
        x.size(1, 2);
        Due.is("swapped, n is not m", x.swapped(), -4);
    }

    private static void stable() {
        stable(1, "a -1;", 1);
        stable(1, "a 0;", 0);
        stable(1, "a 1;", 0);
        stable(2, "a -1 0,0 -1;", 1);
        stable(2, "a -1 0,0 0;", 0);
        stable(2, "a 0 1,-1 0;", 0);
        stable(2, "a 0 1,-1 -1;", 1);
        stable(2, "a 1 5,-1 -2;", 1);
        stable(2, "a -1 2,2 -1;", 0);
        stable(2, "a 1 0,0 1;", 0);
        stable(3, "a -1 0 0,0 -1 0,0 0 -1;", 1);
        stable(3, "a -1 0 0,0 -1 0,0 0 0;", 0);
        stable(3, "a -1 0 0,0 -1 0,0 0 1;", 0);
        // x x x + x x + c x + d by its companion: stable just if c is above d above 0
        stable(3, "a 0 1 0,0 0 1,-1 -2 -1;", 1);
        stable(3, "a 0 1 0,0 0 1,-2 -2 -1;", 0);
        stable(3, "a 0 1 0,0 0 1,-3 -2 -1;", 0);
        stable(3, "a 0 1 0,0 0 1,-3 -4 -1;", 1);
        stable(3, "a 0 1 0,0 0 1,0 -4 -1;", 0);
        stable(3, "a 0 1 0,0 0 1,-1 -4 1;", 0);
    }

    private static void stable(int m, String text, int due) {
        for (int n = 1; n <= 3; n++) {
            Due.is("stable of " + text, Due.told(m, n, text).stable(), due);
        }
    }
}
