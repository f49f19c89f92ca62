/** Promises 22 to 25. */
final class ReadersTest {
    private static final long LOWEST = Long.MIN_VALUE;
    private static final long HIGHEST = Long.MAX_VALUE;

    public static void main(String[] args) {
        laying();
        judging();
        judgingShapes();
        kinds();
        ratios();
        Due.end();
    }

    private static void laying() {
        // 2 x0 = 3, 3 x1 = -4
        TwoSidedTables x = Due.told(2, 1, "a 2 0,0 3;c 3,-4;");
        x.equation(1, 0);
        x.sheet(1, 3, 40);
        Due.is("lay", x.lay(0, 1), 6);
        Due.is("item", x.item(1, 2, 0), 9);
        Due.is("item", x.item(1, 2, 1), -8);
        Due.is("as many as m times n", x.item(1, 2, 2), -12);
        Due.is("of ints", x.item(1, 3, 0), -13);
        Due.is("judge", x.judge(0, 1, 6), 0);
        x.set(0, 0, 0, -2);
        Due.is("the scale is above 0", x.lay(0, 1), 6);
        Due.is("item", x.item(1, 2, 0), -9);
        x.set(2, 0, 0, 4);
        x.set(2, 1, 0, 6);
        Due.is("the least scale", x.lay(0, 1), 1);
        Due.is("item", x.item(1, 2, 0), -2);
        Due.is("item", x.item(1, 2, 1), 2);
        x.set(0, 1, 1, 0);
        Due.is("lay, unsolvable", x.lay(0, 1), -3);
        Due.is("the sheet stays", x.item(1, 2, 0), -2);
        Due.is("lay, e", x.lay(1, 1), -1);
        Due.is("lay, sheet", x.lay(0, 4), -1);
        Due.is("lay, sheet", x.lay(0, -1), -1);
        x.change(0, 3, 0);
        Due.is("lay, no fit", x.lay(0, 1), -4);
        x.change(0, 1, 0);
        x.size(2, 1);
        Due.is("lay of 0", x.lay(0, 0), 1);
        Due.is("item", x.item(0, 2, 1), 0);
        x.put(0, 1, 7);
        Due.is("lay over", x.lay(0, 0), 1);
        Due.is("item", x.item(0, 2, 1), 0);
    }

    private static void judging() {
        TwoSidedTables x = Due.told(2, 2, "a 1 2,3 4;b 1 0,0 -1;c 5 1,16 0;");
        x.equation(0, 0);
        // X = (1 0, 2 1): A X = (5 2, 11 4), X B = (1 0, 2 -1)
        Due.row(x, 0, 1, 0, 2, 1);
        x.set(2, 0, 0, 6);
        Due.is("judge", x.judge(0, 0, 1), 2);
        x.set(2, 0, 1, 2);
        Due.is("judge", x.judge(0, 0, 1), 3);
        x.set(2, 1, 0, 13);
        Due.is("judge", x.judge(0, 0, 1), 4);
        x.set(2, 1, 1, 3);
        Due.is("judge", x.judge(0, 0, 1), 0);
        Due.is("judge by 2", x.judge(0, 0, 2), 1);
        Due.row(x, 0, 2, 0, 4, 2);
        Due.is("judge by 2", x.judge(0, 0, 2), 0);
        x.change(0, 0, 1);
        x.set(2, 0, 0, 7);
        x.set(2, 1, 0, 15);
        x.set(2, 1, 1, 4);
        Due.is("judge with a shift", x.judge(0, 0, 2), 0);
        Due.is("judge, e", x.judge(1, 0, 1), -1);
        Due.is("judge, sheet", x.judge(0, 4, 1), -1);
        Due.is("judge, sheet", x.judge(0, -1, 1), -1);
        Due.is("judge, d", x.judge(0, 0, 0), -1);
        Due.is("judge, d", x.judge(0, 0, Integer.MIN_VALUE), -1);
        Due.is("judge, missing", x.judge(0, 1, 1), -11);
        for (int sort = 0; sort < 4; sort++) {
            x.sheet(2, sort, 3);
            Due.is("judge, sort " + sort, x.judge(0, 2, 1), sort == 2 ? -12 : -13);
            x.sheet(2, sort, 5);
            Due.is("judge, sort " + sort, x.judge(0, 2, 1), sort == 2 ? -12 : -13);
        }
        x.size(2, 1);
        x.change(0, 2, 0);
        Due.is("judge, STATE ahead of the sheet", x.judge(0, 1, 1), -4);
        x.change(0, 1, 0);
        Due.row(x, 0, 0, 0);
        Due.is("judge of left", x.judge(0, 0, 5), 0);
        // numbers as far as ints go: 5 x is 50 d just if x is 10 d
        x = Due.told(1, 1, "a 5;c 50;");
        x.equation(1, 0);
        Due.row(x, 0, Integer.MAX_VALUE);
        Due.is("no wrap", x.judge(0, 0, Integer.MAX_VALUE), 1);
        Due.row(x, 0, 2147483640);
        Due.is("no wrap", x.judge(0, 0, 214748364), 0);
        x.set(2, 0, 0, 0);
        Due.row(x, 0, Integer.MIN_VALUE);
        x.set(0, 0, 0, 4);
        Due.is("no wrap", x.judge(0, 0, 1), 1);
    }

    private static void judgingShapes() {
        // nothing on the left but s X - ... : A is 0, so THE SUM is s X for each kind under plain
        TwoSidedTables x = Due.told(2, 2, "c 1 2,3 4;");
        x.equation(4, 1);
        Due.row(x, 0, 1, 2, 3, 4);
        Due.is("not level", x.judge(0, 0, 1), 5);
        x.change(0, 5, 1);
        Due.is("not even", x.judge(0, 0, 1), 5);
        x.change(0, 6, 1);
        Due.is("not odd", x.judge(0, 0, 1), 5);
        x.change(0, 2, 1);
        Due.is("alike is of any", x.judge(0, 0, 1), 0);
        x.change(0, 6, 1);
        Due.tell(x, "c 0 2,-2 0;");
        Due.row(x, 0, 0, 2, -2, 0);
        Due.is("odd", x.judge(0, 0, 1), 0);
        Due.tell(x, "c 1 2,-2 0;");
        Due.row(x, 0, 1, 2, -2, 0);
        Due.is("not odd in the diagonal", x.judge(0, 0, 1), 5);
        x.change(0, 5, 1);
        Due.tell(x, "c 1 2,2 0;");
        Due.row(x, 0, 1, 2, 2, 0);
        Due.is("even", x.judge(0, 0, 1), 0);
        x.change(0, 4, 1);
        Due.tell(x, "c 1 0,0 3;");
        Due.row(x, 0, 1, 0, 0, 3);
        Due.is("level", x.judge(0, 0, 1), 0);
        x.set(2, 1, 1, 4);
        Due.is("first the places", x.judge(0, 0, 1), 4);
        // of the lowest int 0 less it is no int, so it is no odd X
        x.change(0, 6, 0);
        Due.tell(x, "c 0 0,0 0;");
        Due.row(x, 0, 0, Integer.MIN_VALUE, Integer.MIN_VALUE, 0);
        Due.is("not odd", x.judge(0, 0, 1), 5);
    }

    private static void kinds() {
        TwoSidedTables x = Due.told(2, 2, "c 1 2,3 4;");
        Due.row(x, 0, 1, 2, 3, 4);
        Due.is("kinds", x.kinds(0, 1), 15);
        Due.is("kinds", x.kinds(0, 2), 0);
        Due.tell(x, "c 0 2,-2 0;");
        Due.row(x, 0, 0, 2, -2, 0);
        Due.is("kinds", x.kinds(0, 1), 79);
        Due.tell(x, "c 1 2,2 0;");
        Due.row(x, 0, 1, 2, 2, 0);
        Due.is("kinds", x.kinds(0, 1), 47);
        Due.tell(x, "c 1 0,0 3;");
        Due.row(x, 0, 1, 0, 0, 3);
        Due.is("kinds", x.kinds(0, 1), 63);
        x.set(1, 0, 1, 1);
        Due.is("kinds", x.kinds(0, 1), 62);
        x.set(0, 0, 1, 1);
        Due.is("kinds", x.kinds(0, 1), 0);
        Due.is("kinds, sheet", x.kinds(4, 0), -1);
        Due.is("kinds, sheet", x.kinds(-1, 0), -1);
        Due.is("kinds, shift", x.kinds(0, 3), -1);
        Due.is("kinds, shift", x.kinds(0, -3), -1);
        Due.is("kinds, missing", x.kinds(1, 0), -11);
        x.sheet(1, 3, 4);
        Due.is("kinds, sort", x.kinds(1, 0), -13);
        x.sheet(1, 2, 5);
        Due.is("kinds, more", x.kinds(1, 0), -12);
        x.sheet(1, 2, 3);
        Due.is("kinds, fewer", x.kinds(1, 0), -12);
        x.size(1, 3);
        Due.is("kinds, n is not m", x.kinds(1, -2), 3);
        x.size(3, 3);
        x.sheet(1, 2, 9);
        Due.is("kinds of 3 by 3: fit or not", x.kinds(1, 0), 127);
    }

    private static void ratio(long above, long below, long dueAbove, long dueBelow) {
        Due.is("ratio(" + above + ", " + below + ", 0)", new TwoSidedTables().ratio(above, below, 0), dueAbove);
        Due.is("ratio(" + above + ", " + below + ", 1)", new TwoSidedTables().ratio(above, below, 1), dueBelow);
        Due.is("ratio, part", new TwoSidedTables().ratio(above, below, 2), Due.FAR_BAD);
        Due.is("ratio, part", new TwoSidedTables().ratio(above, below, -1), Due.FAR_BAD);
    }

    private static void ratios() {
        ratio(6, 4, 3, 2);
        ratio(-6, -4, 3, 2);
        ratio(6, -4, -3, 2);
        ratio(0, 5, 0, 1);
        ratio(0, LOWEST, 0, 1);
        ratio(7, 0, Due.FAR_BY_0, Due.FAR_BY_0);
        ratio(LOWEST, 0, Due.FAR_BY_0, Due.FAR_BY_0);
        ratio(LOWEST, LOWEST, 1, 1);
        ratio(LOWEST, -1, Due.FAR_NO_LONG, Due.FAR_NO_LONG);
        ratio(LOWEST, -3, Due.FAR_NO_LONG, Due.FAR_NO_LONG);
        ratio(LOWEST, -2, 1L << 62, 1);
        ratio(LOWEST, 3, LOWEST, 3);
        ratio(1, LOWEST, Due.FAR_NO_LONG, Due.FAR_NO_LONG);
        ratio(-3, LOWEST, Due.FAR_NO_LONG, Due.FAR_NO_LONG);
        ratio(-6, LOWEST, 3, 1L << 62);
        ratio(LOWEST, HIGHEST, LOWEST, HIGHEST);
        ratio(HIGHEST, LOWEST, Due.FAR_NO_LONG, Due.FAR_NO_LONG);
        ratio(HIGHEST, HIGHEST, 1, 1);
        ratio(HIGHEST, -HIGHEST, -1, 1);
        ratio(HIGHEST, -1, -HIGHEST, 1);
        // numbers that follow one another as sums take the most steps
        ratio(7540113804746346429L, 4660046610375530309L, 7540113804746346429L, 4660046610375530309L);
        ratio(-7540113804746346429L, -4660046610375530309L, 7540113804746346429L, 4660046610375530309L);
    }
}
