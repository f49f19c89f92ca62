/** Boundaries of promises 10 to 21, and of what the Terms say of EQUATIONS. */
final class EquationBounds {
    private static final int LOWEST = Integer.MIN_VALUE;
    private static final int HIGHEST = Integer.MAX_VALUE;

    private EquationBounds() {
    }

    static void all() {
        equation();
        rightOfKinds();
        unknowns();
        fitting();
        free();
        of();
        change();
        right();
        solution();
        base();
        witness();
        similar();
        whole();
        lower();
        swapped();
        stable();
    }

    private static void equation() {
        Sentences.of(Sentences.TERMS, "EQUATIONS, 6 at most, numbered as they come: a KIND, a SHIFT s (-2 to 2).");
        TwoSidedTables x = new TwoSidedTables();
        int[] kinds = {6, 0, 5, 1, 4, 2};
        int[] shifts = {-2, 2, -1, 1, 0, 2};
        for (int e = 0; e < 6; e++) {
            Sentences.is("equation " + e, x.equation(kinds[e], shifts[e]), e);
        }
        Sentences.is("a seventh", x.equation(0, 0), -2);
        for (int e = 0; e < 6; e++) {
            Sentences.is("KIND of " + e, x.of(e, 0), kinds[e]);
            Sentences.is("SHIFT of " + e, x.of(e, 1), 10 + shifts[e]);
        }
        Sentences.is("of a seventh", x.of(6, 0), -1);
        Sentences.of(10, "An EQUATION: its number. BAD; FULL.");
        int[][] bad = {{-1, 0}, {7, 0}, {0, -3}, {0, 3}, {LOWEST, 0}, {0, HIGHEST}};
        for (int[] b : bad) {
            Sentences.is("BAD ahead of FULL", x.equation(b[0], b[1]), -1);
        }
        Sentences.is("FULL", x.equation(6, -2), -2);
        x = new TwoSidedTables();
        for (int[] b : bad) {
            Sentences.is("BAD", x.equation(b[0], b[1]), -1);
        }
        Sentences.is("none has come", x.many(2), 0);
        Sentences.is("the first", x.equation(6, -2), 0);
    }

    private static void rightOfKinds() {
        Sentences.of(Sentences.TERMS, "RIGHT, a table R of n by n: plain: B. left: all 0. alike: entries 0 less those of "
            + "A. turned: entry i, j is that of A at j, i. (Others as the KIND above.)");
        int[] places = {-4, 0, -2, 5, -2, 5, 5};
        for (int kind = 0; kind < 7; kind++) {
            TwoSidedTables x = Due.one(2, 2, "a 1 2,5 3;b 3 -4,2 1;", kind, 2);
            Sentences.is("right at 0, 1 of KIND " + kind, x.right(0, 0, 1), places[kind]);
        }
    }

    private static void unknowns() {
        Sentences.of(Sentences.TERMS, "UNKNOWNS: entries of X, by PLACES, numbered from 0: all; level: those where i is j; "
            + "even: those where j is not below i; odd: those where j is above i.");
        // A is 0, 1, -1 where i is j, else 0: the UNKNOWN at i, j is FREE just if A(i, i) + A(j, j) + s is 0
        TwoSidedTables x = Due.one(3, 3, "a 0 0 0,0 1 0,0 0 -1;", 5, 0);
        int[] even = {1 << 3, 1 << 1, 1 << 0 | 1 << 4, 1 << 2, 1 << 5};
        int[] odd = {0, 1 << 0, 1 << 2, 1 << 1, 0};
        for (int s = -2; s <= 2; s++) {
            x.change(0, 5, s);
            Sentences.is("FREE of even, s " + s, x.of(0, 5), even[s + 2]);
            x.change(0, 6, s);
            Sentences.is("FREE of odd, s " + s, x.of(0, 5), odd[s + 2]);
        }
        x.change(0, 4, 0);
        Sentences.is("FREE of level", x.of(0, 5), 7);
        x.change(0, 6, 1);
        Sentences.is("odd, UNKNOWN 1 is at 0, 2", x.base(0, 1, 0, 2, 0), 1);
        Sentences.is("odd, at 2, 0", x.base(0, 1, 2, 0, 0), -1);
        Sentences.is("odd, at 1, 2", x.base(0, 1, 1, 2, 0), 0);
        x.change(0, 5, 2);
        Sentences.is("even, UNKNOWN 5 is at 2, 2", x.base(0, 5, 2, 2, 0), 1);
        x.change(0, 5, 0);
        Sentences.is("even, UNKNOWN 4 is at 1, 2", x.base(0, 4, 1, 2, 0), 1);
        Sentences.is("even, at 2, 1", x.base(0, 4, 2, 1, 0), 1);
        Sentences.is("even, at 1, 1", x.base(0, 4, 1, 1, 0), 0);
        x = Due.one(2, 3, "", 0, 0);
        Sentences.is("all: UNKNOWN 5 is at 1, 2", x.base(0, 5, 1, 2, 0), 1);
        Sentences.is("all: UNKNOWN 3 is at 1, 0", x.base(0, 3, 1, 0, 0), 1);
    }

    private static void fitting() {
        Sentences.of(Sentences.TERMS, "An EQUATION FITS, if it is plain or left, or n is m; and it has 6 UNKNOWNS at most.");
        // of 3 by 3: 9, 9, 9, 9, 3, 6, 3; of 2 by 3 and 3 by 2 plain and left have 6
        for (int kind = 0; kind < 7; kind++) {
            Sentences.is("3 by 3, KIND " + kind, Due.one(3, 3, "", kind, 1).of(0, 2), kind < 4 ? 0 : 1);
            Sentences.is("2 by 3, KIND " + kind, Due.one(2, 3, "", kind, 1).of(0, 2), kind < 2 ? 1 : 0);
            Sentences.is("3 by 2, KIND " + kind, Due.one(3, 2, "", kind, 1).of(0, 2), kind < 2 ? 1 : 0);
            Sentences.is("1 by 1, KIND " + kind, Due.one(1, 1, "", kind, 1).of(0, 2), 1);
        }
    }

    private static void free() {
        Sentences.of(Sentences.TERMS, "An UNKNOWN is FREE, if there is an X of the SHAPE, THE SUM of which is all 0, and in "
            + "which that UNKNOWN is 1, all after it are 0.");
        // x0 + 2 x1 + 3 x2 is all there is: x0 isn't FREE, for after it all are 0
        TwoSidedTables x = Due.one(3, 1, "a 1 2 3,0 0 0,0 0 0;", 1, 0);
        Sentences.is("FREE", x.of(0, 5), 6);
        // x2 alone: it isn't FREE, x0 and x1 are
        x = Due.one(3, 1, "a 0 0 3,0 0 0,0 0 0;", 1, 0);
        Sentences.is("FREE", x.of(0, 5), 3);
        Sentences.of(Sentences.TERMS, "BASE of a FREE one: that such X in which all other FREE ones are 0.");
        x = Due.one(3, 1, "a 1 2 3,0 0 0,0 0 0;", 1, 0);
        int[][] due = {{-2, 1, 0}, {-3, 0, 1}};
        for (int i = 0; i < 3; i++) {
            Sentences.is("BASE of 1 at " + i, x.base(0, 1, i, 0, 0), due[0][i]);
            Sentences.is("BASE of 2 at " + i, x.base(0, 2, i, 0, 0), due[1][i]);
        }
        Sentences.of(Sentences.TERMS, "THE SOLUTION: that in which all FREE ones are 0.");
        x = Due.one(3, 1, "a 2 2 3,0 0 0,0 0 0;c 5,0,0;", 1, 0);
        Sentences.is("at 0", x.solution(0, 0, 0, 0), 5);
        Sentences.is("at 0, below the line", x.solution(0, 0, 0, 1), 2);
        Sentences.is("at 1", x.solution(0, 1, 0, 0), 0);
        Sentences.is("at 2", x.solution(0, 2, 0, 0), 0);
    }

    private static void of() {
        Sentences.of(11, "4 how many of them are not FREE, 5 FREE ones, as a set, 6 1 if it is SOLVABLE, else 0.");
        TwoSidedTables x = Due.one(2, 3, "", 0, 0);
        Sentences.is("none is not FREE", x.of(0, 4), 0);
        Sentences.is("all six are FREE", x.of(0, 5), 63);
        Sentences.is("C is 0", x.of(0, 6), 1);
        x.set(2, 1, 2, 1);
        Sentences.is("C at its last place is not", x.of(0, 6), 0);
        x.change(0, 0, 1);
        Sentences.is("all six are not FREE", x.of(0, 4), 6);
        Sentences.is("none is FREE", x.of(0, 5), 0);
        x = Due.one(1, 1, "", 6, 0);
        Sentences.is("no UNKNOWNS", x.of(0, 3), 0);
        Sentences.is("none is not FREE", x.of(0, 4), 0);
        Sentences.is("none is FREE", x.of(0, 5), 0);
        Sentences.is("C is 0", x.of(0, 6), 1);
        x.set(2, 0, 0, 1);
        Sentences.is("C is not 0", x.of(0, 6), 0);
        // of nine places the last
        x = Due.one(3, 3, "c 1 0 0,0 1 0,0 0 1;", 4, 1);
        Sentences.is("nine places", x.of(0, 6), 1);
        x.set(2, 2, 1, 1);
        Sentences.is("the one ahead of the last", x.of(0, 6), 0);
        Sentences.of(11, "BAD; STATE: n is not m, though it must be (3); it does not FIT (4 to 6).");
        for (int what = 0; what <= 6; what++) {
            int[] due = {2, 10, 0, -4, -4, -4, -4};
            Sentences.is("alike of 2 by 3, what " + what, Due.one(2, 3, "", 2, 0).of(0, what), due[what]);
            due = new int[] {2, 10, 0, 9, -4, -4, -4};
            Sentences.is("alike of 3 by 3, what " + what, Due.one(3, 3, "", 2, 0).of(0, what), due[what]);
        }
        x = Due.one(2, 3, "", 2, 0);
        Sentences.is("what -1: BAD ahead of STATE", x.of(0, -1), -1);
        Sentences.is("what 7", x.of(0, 7), -1);
        Sentences.is("what far off", x.of(0, LOWEST), -1);
        Sentences.is("e -1", x.of(-1, 6), -1);
        Sentences.is("e 1", x.of(1, 6), -1);
        Sentences.is("e far off", x.of(HIGHEST, 0), -1);
        Sentences.is("no EQUATIONS", new TwoSidedTables().of(0, 0), -1);
    }

    private static void change() {
        Sentences.of(12, "An EQUATION becomes one of another KIND, with another SHIFT: the KIND that it was. BAD.");
        TwoSidedTables x = new TwoSidedTables();
        Sentences.is("no EQUATIONS", x.change(0, 0, 0), -1);
        for (int e = 0; e < 6; e++) {
            x.equation(0, 0);
        }
        Sentences.is("the sixth", x.change(5, 6, -2), 0);
        Sentences.is("the same again", x.change(5, 6, 2), 6);
        Sentences.is("its SHIFT", x.of(5, 1), 12);
        Sentences.is("a neighbour's", x.of(4, 1), 10);
        int[][] bad = {{6, 0, 0}, {-1, 0, 0}, {5, -1, 0}, {5, 7, 0}, {5, 0, -3}, {5, 0, 3}, {LOWEST, 0, 0}, {5, HIGHEST, 0},
            {5, 0, LOWEST}};
        for (int[] b : bad) {
            Sentences.is("change(" + b[0] + ", " + b[1] + ", " + b[2] + ")", x.change(b[0], b[1], b[2]), -1);
        }
        Sentences.is("its KIND stays", x.of(5, 0), 6);
        Sentences.is("its SHIFT stays", x.of(5, 1), 12);
        Sentences.is("no seventh", x.many(2), 6);
    }

    private static void right() {
        Sentences.of(13, "Refused as told: BAD; STATE: n is not m, though it must be.");
        TwoSidedTables x = Due.one(1, 3, "a 5;b 0 0 0,0 0 0,0 0 4;", 0, 0);
        Sentences.is("n by n, not m by n", x.right(0, 2, 2), 4);
        Sentences.is("i 3", x.right(0, 3, 0), Due.FAR_BAD);
        Sentences.is("j 3", x.right(0, 0, 3), Due.FAR_BAD);
        Sentences.is("i -1", x.right(0, -1, 0), Due.FAR_BAD);
        Sentences.is("j -1", x.right(0, 0, -1), Due.FAR_BAD);
        Sentences.is("far off", x.right(0, HIGHEST, LOWEST), Due.FAR_BAD);
        Sentences.is("e 1", x.right(1, 0, 0), Due.FAR_BAD);
        Sentences.is("e -1", x.right(-1, 0, 0), Due.FAR_BAD);
        x.change(0, 1, 0);
        Sentences.is("left need not have n m", x.right(0, 2, 2), 0);
        for (int kind = 2; kind < 7; kind++) {
            x.change(0, kind, 0);
            Sentences.is("KIND " + kind, x.right(0, 2, 2), Due.FAR_STATE);
            Sentences.is("KIND " + kind + ": BAD first", x.right(0, 3, 0), Due.FAR_BAD);
        }
        x = Due.one(3, 3, "a 0 0 1,0 0 2,0 0 3;", 3, 0);
        Sentences.is("asks for no FIT", x.right(0, 2, 1), 2);
    }

    /** How an entry of a call is refused: by e, i, j or part; the EQUATION is number 0, the tables 2 by 2. */
    private interface Entry {
        long at(int e, int i, int j, int part);
    }

    private static void badEntries(Entry entry) {
        int[][] bad = {{1, 0, 0, 0}, {-1, 0, 0, 0}, {0, 2, 0, 0}, {0, -1, 0, 0}, {0, 0, 2, 0}, {0, 0, -1, 0}, {0, 0, 0, 2},
            {0, 0, 0, -1}, {HIGHEST, LOWEST, 0, 0}, {0, HIGHEST, 0, 0}, {0, 0, LOWEST, 0}, {0, 0, 0, HIGHEST}};
        for (int[] b : bad) {
            Sentences.is("e " + b[0] + ", i " + b[1] + ", j " + b[2] + ", part " + b[3],
                entry.at(b[0], b[1], b[2], b[3]), Due.FAR_BAD);
        }
    }

    private static void solution() {
        Sentences.of(14, "Refused as told: BAD; STATE: it does not FIT; NONE: it is not SOLVABLE.");
        TwoSidedTables x = Due.one(2, 2, "c 0 0,0 1;", 0, 1);
        Sentences.is("SOLVABLE", x.solution(0, 1, 1, 0), 1);
        badEntries(x::solution);
        x.change(0, 0, 0);
        Sentences.is("not SOLVABLE", x.solution(0, 0, 0, 0), Due.FAR_NONE);
        badEntries(x::solution);
        x.size(2, 1);
        x.change(0, 6, 0);
        Sentences.is("n is not m", x.solution(0, 0, 0, 0), Due.FAR_STATE);
        Sentences.is("BAD first: j 1", x.solution(0, 0, 1, 0), Due.FAR_BAD);
        Sentences.is("BAD first: part", x.solution(0, 0, 0, 2), Due.FAR_BAD);
        x = Due.one(3, 3, "c 0 0 0,0 0 0,0 0 1;", 0, 0);
        Sentences.is("9 UNKNOWNS, and no X: STATE first", x.solution(0, 0, 0, 0), Due.FAR_STATE);
        Sentences.is("no such row", Due.one(2, 3, "", 0, 0).solution(0, 2, 0, 0), Due.FAR_BAD);
        Sentences.is("the last column", Due.one(2, 3, "", 0, 0).solution(0, 1, 2, 1), 1);
    }

    private static void base() {
        Sentences.of(15, "The entry at i, j of BASE of UNKNOWN u (0 to 8), a part of it. Refused as told: BAD");
        TwoSidedTables x = Due.one(2, 2, "", 0, 0);
        Sentences.is("u 0", x.base(0, 0, 0, 0, 0), 1);
        Sentences.is("u 3", x.base(0, 3, 1, 1, 0), 1);
        Sentences.is("u 4, no such one", x.base(0, 4, 0, 0, 0), Due.FAR_NONE);
        Sentences.is("u 8, no such one", x.base(0, 8, 0, 0, 0), Due.FAR_NONE);
        Sentences.is("u 9", x.base(0, 9, 0, 0, 0), Due.FAR_BAD);
        Sentences.is("u -1", x.base(0, -1, 0, 0, 0), Due.FAR_BAD);
        Sentences.is("u far off", x.base(0, LOWEST, 0, 0, 0), Due.FAR_BAD);
        TwoSidedTables y = x;
        badEntries((e, i, j, part) -> y.base(e, 0, i, j, part));
        Sentences.of(15, "STATE: it does not FIT; NONE: u is not FREE, or there is no such UNKNOWN.");
        x.change(0, 0, 1);
        Sentences.is("not FREE", x.base(0, 0, 0, 0, 0), Due.FAR_NONE);
        Sentences.is("u 9: BAD first", x.base(0, 9, 0, 0, 0), Due.FAR_BAD);
        x = Due.one(3, 3, "", 0, 1);
        Sentences.is("not FREE, and no FIT: STATE first", x.base(0, 0, 0, 0, 0), Due.FAR_STATE);
        Sentences.is("u 9: BAD first", x.base(0, 9, 0, 0, 0), Due.FAR_BAD);
        x.size(2, 3);
        x.change(0, 2, 0);
        Sentences.is("n is not m, and no such UNKNOWN", x.base(0, 8, 0, 0, 0), Due.FAR_STATE);
        // an UNKNOWN that was FREE ahead of another size is none after it
        x.change(0, 0, 0);
        Sentences.is("u 3 of six", x.base(0, 3, 1, 0, 0), 1);
        x.size(1, 3);
        Sentences.is("u 2 of three", x.base(0, 2, 0, 2, 0), 1);
        Sentences.is("u 3 of three", x.base(0, 3, 0, 0, 0), Due.FAR_NONE);
        x = Due.one(1, 1, "", 6, 0);
        Sentences.is("u 0 of none", x.base(0, 0, 0, 0, 0), Due.FAR_NONE);
    }

    private static void witness() {
        Sentences.of(Sentences.TERMS, "WITNESS: if it is not SOLVABLE: a table Y of m by n such that THE SUM of each X of "
            + "the SHAPE, entry by entry times that of Y, is 0 together, and C, entry by entry times that of Y, is 1 "
            + "together; of those that in which all PLACES are 0 that are FREE for Y (there is a table with which all "
            + "these products together are 0, that is 1 at that PLACE, and 0 at all after it).");
        // THE SUM of an even X is all 0: of Y just the first place at which C is not 0 isn't FREE
        TwoSidedTables x = Due.one(3, 3, "", 5, 0);
        for (int place = 8; place >= 0; place--) {
            x.set(2, place / 3, place % 3, place - 50);
            for (int at = 0; at < 9; at++) {
                boolean isIt = at == place;
                Sentences.is("C from " + place + " on, at " + at, x.witness(0, at / 3, at % 3, 0), isIt ? -1 : 0);
                Sentences.is("C from " + place + " on, below " + at, x.witness(0, at / 3, at % 3, 1), isIt ? 50 - place : 1);
            }
        }
        // even, s 1, A 0: THE SUM is X: Y is odd, C is 2, 4 at 1, 2 and 7, 0 across it: y (2 - 7) is 1 at 0, 1
        x = Due.one(3, 3, "c 1 2 4,7 1 0,4 0 1;", 5, 1);
        int[] due = {0, -1, 0, 1, 0, 0, 0, 0, 0};
        for (int at = 0; at < 9; at++) {
            Sentences.is("odd Y at " + at, x.witness(0, at / 3, at % 3, 0), due[at]);
            Sentences.is("odd Y below " + at, x.witness(0, at / 3, at % 3, 1), due[at] != 0 ? 5 : 1);
        }
        Sentences.of(16, "Refused as told: BAD; STATE: it does not FIT; NONE: it is SOLVABLE.");
        x = Due.one(2, 2, "c 0 0,0 1;", 0, 0);
        Sentences.is("not SOLVABLE", x.witness(0, 1, 1, 0), 1);
        badEntries(x::witness);
        x.change(0, 0, 1);
        Sentences.is("SOLVABLE", x.witness(0, 0, 0, 0), Due.FAR_NONE);
        badEntries(x::witness);
        x = Due.one(3, 3, "", 0, 0);
        Sentences.is("9 UNKNOWNS, and SOLVABLE: STATE first", x.witness(0, 0, 0, 0), Due.FAR_STATE);
        x = Due.one(2, 1, "c 1,0;", 3, 0);
        Sentences.is("n is not m", x.witness(0, 0, 0, 0), Due.FAR_STATE);
        Sentences.is("BAD first", x.witness(0, 0, 1, 0), Due.FAR_BAD);
    }

    private static void similar() {
        Sentences.of(Sentences.TERMS, "below them all 0, and 0 less R; the other one is the same with all 0 in place of C.");
        TwoSidedTables x = Due.one(2, 3, "c 0 0 0,0 0 1;", 0, 0);
        Sentences.is("all 0 but for C", x.similar(0), 0);
        Sentences.is("C in the first row alone", Due.one(2, 1, "c 1,0;", 0, 0).similar(0), 0);
        Sentences.is("C in the last row alone", Due.one(2, 1, "c 0,1;", 0, 0).similar(0), 0);
        x.change(0, 0, -1);
        Sentences.is("with a SHIFT", x.similar(0), 1);
        Sentences.of(17, "BAD; STATE: n is not m, though it must be, or m times n is above 6.");
        int[] sixes = {0, 1, 2, 3};
        for (int kind : sixes) {
            Sentences.is("2 by 3, KIND " + kind, Due.one(2, 3, "", kind, 0).similar(0), kind < 2 ? 1 : -4);
            Sentences.is("3 by 2, KIND " + kind, Due.one(3, 2, "", kind, 0).similar(0), kind < 2 ? 1 : -4);
        }
        for (int kind = 0; kind < 7; kind++) {
            Sentences.is("3 by 3, KIND " + kind, Due.one(3, 3, "", kind, 0).similar(0), -4);
            Sentences.is("2 by 2, KIND " + kind, Due.one(2, 2, "", kind, 0).similar(0), 1);
        }
        x = Due.one(3, 3, "", 0, 0);
        Sentences.is("e 1: BAD first", x.similar(1), -1);
        Sentences.is("e -1", x.similar(-1), -1);
        Sentences.is("e far off", x.similar(LOWEST), -1);
    }

    private static void whole() {
        Sentences.of(18, "Refused as told: BAD; STATE: n is not m, though it must be, or m times n is above 6.");
        Sentences.is("2 by 3", Due.one(2, 3, "", 0, 2).whole(0), 64);
        Sentences.is("3 by 2", Due.one(3, 2, "", 1, -2).whole(0), 64);
        Sentences.is("1 by 3", Due.one(1, 3, "", 1, -2).whole(0), -8);
        Sentences.is("3 by 2, turned", Due.one(3, 2, "", 3, 2).whole(0), Due.FAR_STATE);
        Sentences.is("2 by 2, of any shape", Due.one(2, 2, "", 6, 2).whole(0), 16);
        Sentences.is("below 0: A with its rows the other way", Due.one(2, 1, "a 0 1,1 0;", 1, 0).whole(0), -1);
        Sentences.is("0", Due.one(2, 1, "a 1 2,2 4;", 1, 0).whole(0), 0);
        for (int kind = 0; kind < 7; kind++) {
            Sentences.is("3 by 3, KIND " + kind, Due.one(3, 3, "", kind, 1).whole(0), Due.FAR_STATE);
        }
        TwoSidedTables x = Due.one(3, 3, "", 0, 0);
        Sentences.is("e 1: BAD first", x.whole(1), Due.FAR_BAD);
        Sentences.is("e -1", x.whole(-1), Due.FAR_BAD);
        Sentences.is("e far off", x.whole(HIGHEST), Due.FAR_BAD);
    }

    private static void lower() {
        Sentences.of(Sentences.TERMS, "A SPLITS at s (1 to m - 1, at no other), if its entries are 0 in the rows from s on "
            + "in all columns ahead of s.");
        int[] all = {0, 2, 6};
        for (int m = 1; m <= 3; m++) {
            Sentences.is("A all 0, m " + m, Due.one(m, 1, "", 0, 0).many(6), all[m - 1]);
        }
        TwoSidedTables x = Due.one(3, 1, "a 5 5 5,0 5 5,0 0 5;", 0, 0);
        Sentences.is("0 just where it must be", x.many(6), 6);
        x.set(0, 1, 0, 1);
        Sentences.is("1, 0 is ahead of s 1", x.many(6), 4);
        x.set(0, 1, 0, 0);
        x.set(0, 2, 1, 1);
        Sentences.is("2, 1 is ahead of s 2", x.many(6), 2);
        x.set(0, 2, 1, 0);
        x.set(0, 2, 0, 1);
        Sentences.is("2, 0 is ahead of both", x.many(6), 0);
        Sentences.of(19, "BAD: s is not 1, 2; STATE: A does not SPLIT there, n is not m, though it must be");
        int[] bad = {0, 3, -1, LOWEST, HIGHEST};
        for (int s : bad) {
            Sentences.is("s " + s + ": BAD ahead of STATE", x.lower(0, s), -1);
        }
        Sentences.is("e 1: BAD ahead of STATE", x.lower(1, 1), -1);
        Sentences.is("e -1", x.lower(-1, 1), -1);
        Sentences.is("no SPLIT at 1", x.lower(0, 1), -4);
        Sentences.is("no SPLIT at 2", x.lower(0, 2), -4);
        x.set(0, 2, 0, 0);
        Sentences.is("A SPLITS at 2", x.lower(0, 2), 1);
        x.change(0, 2, 0);
        Sentences.is("n is not m", x.lower(0, 2), -4);
        Sentences.is("m 2, s 2", Due.one(2, 2, "", 0, 0).lower(0, 2), -4);
        Sentences.is("m 1, s 1", Due.one(1, 1, "", 0, 0).lower(0, 1), -4);
        Sentences.of(19, "in the rows from s on alone, by some X, of any shape, in the rows from s on, else 0");
        // what stands ahead of the rows has no part in it
        x = Due.one(2, 1, "a 5 5,0 0;b 0;c 1,0;", 0, 0);
        Sentences.is("C 0 in them", x.lower(0, 1), 1);
        x.set(2, 1, 0, -1);
        Sentences.is("C not 0 in them", x.lower(0, 1), 0);
        x = Due.one(3, 3, "c 0 0 0,1 1 1,1 1 1;", 4, 1);
        Sentences.is("of any shape", x.lower(0, 1), 1);
        Sentences.of(19, "or there are more than 6 entries in these rows.");
        x = Due.one(3, 3, "", 0, 0);
        Sentences.is("6 entries: there can't be more", x.lower(0, 1), 1);
        x.set(2, 0, 2, 1);
        Sentences.is("C ahead of the rows", x.lower(0, 1), 1);
        x.set(2, 1, 0, 1);
        Sentences.is("C in the first of the rows", x.lower(0, 1), 0);
        Sentences.is("C ahead of the row", x.lower(0, 2), 1);
        x.set(2, 2, 2, 1);
        Sentences.is("C in its last place", x.lower(0, 2), 0);
    }

    private static void swapped() {
        Sentences.of(20, "STATE: n is not m.");
        Sentences.is("2 by 2, all 0", Due.told(2, 2, "").swapped(), 1);
        Sentences.is("1 by 1", Due.told(1, 1, "c 1;").swapped(), 0);
        Sentences.is("3 by 3", Due.told(3, 3, "c 50 0 0,0 -25 0,0 0 -25;").swapped(), 1);
        Sentences.is("2 by 3", Due.told(2, 3, "").swapped(), -4);
        Sentences.is("3 by 2", Due.told(3, 2, "").swapped(), -4);
    }

    private static void stable() {
        Sentences.of(Sentences.TERMS, "all determinants of the first 1, 2, .. m rows and columns of which are above 0");
        // 2 a x is -1
        Sentences.is("x is a half", Due.told(1, 1, "a -1;").stable(), 1);
        Sentences.is("there is no x", Due.told(1, 1, "a 0;").stable(), 0);
        Sentences.is("x is below 0", Due.told(1, 1, "a 1;").stable(), 0);
        Sentences.is("one determinant of two above 0", Due.told(2, 1, "a -1 0,0 1;").stable(), 0);
        Sentences.is("two of three above 0", Due.told(3, 1, "a -1 0 0,0 -1 0,0 0 1;").stable(), 0);
        Sentences.is("the last two of three", Due.told(3, 1, "a 1 0 0,0 1 0,0 0 -1;").stable(), 0);
        Sentences.is("all three", Due.told(3, 1, "a -1 5 5,0 -1 5,0 0 -1;").stable(), 1);
        // roots just on the line between stable and not, and roots just left of it
        Sentences.is("a root of 0", Due.told(2, 1, "a -1 0,0 0;").stable(), 0);
        Sentences.is("roots that turn", Due.told(2, 1, "a 0 1,-1 0;").stable(), 0);
        Sentences.is("roots that turn and fall", Due.told(2, 1, "a 0 1,-1 -1;").stable(), 1);
        Sentences.is("roots that turn and rise", Due.told(2, 1, "a 0 1,-1 1;").stable(), 0);
        Sentences.is("-1 and roots that turn", Due.told(3, 1, "a -1 0 0,0 0 1,0 -1 0;").stable(), 0);
        Sentences.is("-1 and a root of 0", Due.told(3, 1, "a -1 0 0,0 -1 0,0 0 0;").stable(), 0);
        Sentences.is("x x x + x x + 2 x + 1", Due.told(3, 1, "a 0 1 0,0 0 1,-1 -2 -1;").stable(), 1);
        Sentences.is("x x x + x x + 2 x + 2", Due.told(3, 1, "a 0 1 0,0 0 1,-2 -2 -1;").stable(), 0);
        Sentences.is("x x x + x x + 2 x + 3", Due.told(3, 1, "a 0 1 0,0 0 1,-3 -2 -1;").stable(), 0);
        Sentences.of(21, "1, if A is STABLE, else 0.");
        Sentences.is("n is not m", Due.told(2, 3, "a -1 0,0 -5;b 1 1 1,1 1 1,1 1 1;").stable(), 1);
        Sentences.is("A all 0", new TwoSidedTables().stable(), 0);
    }
}
