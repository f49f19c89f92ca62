/** Promises 29 to 39. */
final class HostTest {
    public static void main(String[] args) {
        sheets();
        puttingAndItems();
        moving();
        shelves();
        shelvedRows();
        acts();
        partedBy0();
        traces();
        kept();
        Due.end();
    }

    private static void sheets() {
        TwoSidedTables x = new TwoSidedTables();
        for (int sort = 0; sort < 4; sort++) {
            Due.is("sheet", x.sheet(sort, sort, 40), 1);
            Due.is("item", x.item(sort, sort, 39), 0);
            Due.is("item", x.item(sort, sort, 40), -12);
            x.put(sort, 0, 5);
            Due.is("sheet again", x.sheet(sort, sort, 1), 1);
            Due.is("all 0", x.item(sort, sort, 0), 0);
            Due.is("item", x.item(sort, sort, 1), -12);
            Due.is("sheet, n above", x.sheet(sort, sort, 41), -1);
            Due.is("sheet, n below", x.sheet(sort, sort, -1), -14);
            Due.is("sheet, n below", x.sheet(sort, sort, Integer.MIN_VALUE), -14);
            Due.is("it stays", x.item(sort, sort, 0), 0);
        }
        Due.is("sheet of none", x.sheet(0, 2, 0), 1);
        Due.is("item", x.item(0, 2, 0), -12);
        Due.is("missing", x.sheet(0, -1, 99), 1);
        Due.is("item", x.item(0, 2, 0), -11);
        Due.is("missing", x.sheet(1, -1, Integer.MIN_VALUE), 1);
        Due.is("put", x.put(1, 0, 0), -11);
        Due.is("sheet, sheet", x.sheet(4, 0, 1), -1);
        Due.is("sheet, sheet", x.sheet(-1, 0, 1), -1);
        Due.is("sheet, sheet ahead of the size", x.sheet(4, 0, -1), -1);
        Due.is("sheet, sort", x.sheet(0, 4, 1), -1);
        Due.is("sheet, sort", x.sheet(0, -2, 1), -1);
        Due.is("sheet, sort ahead of the size", x.sheet(0, 4, -1), -1);
    }

    private static void puttingAndItems() {
        TwoSidedTables x = new TwoSidedTables();
        long[] values = {0, 127, 128, -129, 255, 256, 32768, -32769, 65536 + 7, 1L << 31, -(1L << 31) - 1,
            (1L << 32) + 9, Long.MIN_VALUE, Long.MAX_VALUE};
        for (int sort = 0; sort < 4; sort++) {
            x.sheet(sort, sort, 3);
            for (long v : values) {
                Due.is("put", x.put(sort, 1, v), 1);
                int due = sort == 0 ? (byte) v : sort == 1 ? (short) v : (int) v;
                Due.is("item " + v + " of sort " + sort, x.item(sort, sort, 1), due);
                Due.is("its neighbour", x.item(sort, sort, 2), 0);
            }
            for (int other = 0; other < 4; other++) {
                if (other != sort) {
                    Due.is("item of sort " + other, x.item(sort, other, 1), -13);
                    Due.is("item, sort ahead of the place", x.item(sort, other, 9), -13);
                }
            }
            Due.is("put, i", x.put(sort, 3, 1), -12);
            Due.is("put, i", x.put(sort, -1, 1), -12);
            Due.is("item, i", x.item(sort, sort, 3), -12);
            Due.is("item, i", x.item(sort, sort, -1), -12);
        }
        Due.is("put, sheet", x.put(4, 0, 1), -1);
        Due.is("put, sheet", x.put(-1, 0, 1), -1);
        Due.is("item, sheet", x.item(4, 0, 1), -1);
        Due.is("item, sheet", x.item(-1, 0, 1), -1);
        Due.is("item, sort", x.item(0, 4, 1), -1);
        Due.is("item, sort", x.item(0, -1, 1), -1);
        x.sheet(0, -1, 0);
        Due.is("item, missing", x.item(0, 0, 9), -11);
        Due.is("put, missing", x.put(0, 9, 0), -11);
    }

    private static void items(TwoSidedTables x, int sheet, int... due) {
        for (int i = 0; i < due.length; i++) {
            Due.is("item " + i, x.item(sheet, 2, i), due[i]);
        }
    }

    private static void moving() {
        TwoSidedTables x = new TwoSidedTables();
        Due.row(x, 0, 1, 2, 3, 4, 5);
        Due.row(x, 1, 10, 20, 30);
        Due.is("move", x.move(0, 1, 1, 0, 2), 2);
        items(x, 1, 2, 3, 30);
        items(x, 0, 1, 2, 3, 4, 5);
        Due.is("move up", x.move(0, 0, 0, 1, 4), 4);
        items(x, 0, 1, 1, 2, 3, 4);
        Due.is("move down", x.move(0, 1, 0, 0, 4), 4);
        items(x, 0, 1, 2, 3, 4, 4);
        Due.is("move none, at the ends", x.move(0, 5, 1, 3, 0), 0);
        Due.is("move all", x.move(1, 0, 0, 2, 3), 3);
        items(x, 0, 1, 2, 2, 3, 30);
        int[][] beyond = {{0, 0, -1}, {-1, 0, 1}, {0, -1, 1}, {5, 0, 1}, {0, 3, 1}, {6, 0, 0}, {0, 4, 0}, {0, 0, 4},
            {Integer.MAX_VALUE, 0, 1}, {1, 1, Integer.MAX_VALUE}, {0, Integer.MAX_VALUE, Integer.MAX_VALUE},
            {Integer.MIN_VALUE, 0, Integer.MIN_VALUE}};
        for (int[] b : beyond) {
            Due.is("move beyond", x.move(0, b[0], 1, b[1], b[2]), -12);
        }
        items(x, 1, 2, 3, 30);
        Due.is("move, sheet", x.move(4, 0, 1, 0, 1), -1);
        Due.is("move, sheet", x.move(-1, 0, 1, 0, 1), -1);
        Due.is("move, other", x.move(0, 0, 4, 0, 1), -1);
        Due.is("move, other", x.move(0, 0, -1, 0, 1), -1);
        Due.is("move, missing", x.move(0, 0, 2, 0, 1), -11);
        Due.is("move, missing", x.move(2, 0, 0, 0, 1), -11);
        Due.is("move, both missing", x.move(2, 0, 3, 0, -1), -11);
        x.sheet(3, 3, 5);
        Due.is("move, unlike sorts", x.move(0, 0, 3, 0, 1), -13);
        Due.is("move, unlike sorts ahead of the places", x.move(3, 0, 0, 0, -1), -13);
    }

    private static void shelves() {
        TwoSidedTables x = new TwoSidedTables();
        int[] above = {-1, 0, 0, 0, 2, 3, 5};
        x.equation(0, 0);
        x.equation(0, 0);
        Due.is("shelf", x.shelf(3, 0, 1), 1);
        for (int kind = 0; kind < 7; kind++) {
            x.change(1, kind, 0);
            for (int as = 0; as < 7; as++) {
                boolean under = kind == as;
                for (int k = kind; k >= 0; k = above[k]) {
                    under |= k == as;
                }
                Due.is("kind " + kind + " taken as " + as, x.taken(3, as), under ? 1 : -13);
            }
        }
        int[] bad = {-1, 7, 8, 9, 14, Integer.MAX_VALUE, Integer.MIN_VALUE};
        for (int as : bad) {
            Due.is("taken as " + as, x.taken(3, as), -1);
            Due.is("taken as " + as, x.taken(0, as), -1);
        }
        for (int as = 10; as < 14; as++) {
            Due.is("an equation taken as a row", x.taken(3, as), -13);
            Due.is("nothing taken as a row", x.taken(0, as), -11);
        }
        Due.is("taken, shelf", x.taken(4, 0), -1);
        Due.is("taken, shelf", x.taken(-1, 0), -1);
        Due.is("shelf, shelf", x.shelf(4, 0, 0), -1);
        Due.is("shelf, shelf", x.shelf(-1, 0, 0), -1);
        Due.is("shelf, what", x.shelf(3, 3, 0), -1);
        Due.is("shelf, what", x.shelf(3, -1, 0), -1);
        Due.is("shelf, equation", x.shelf(3, 0, 2), -1);
        Due.is("shelf, equation", x.shelf(3, 0, -1), -1);
        Due.is("shelf, sheet", x.shelf(3, 1, 4), -1);
        Due.is("shelf, sheet", x.shelf(3, 1, -1), -1);
        Due.is("it stays", x.taken(3, 6), 1);
        Due.is("shelf of nothing", x.shelf(3, 2, -7), 1);
        Due.is("taken", x.taken(3, 6), -11);
    }

    private static void shelvedRows() {
        TwoSidedTables x = new TwoSidedTables();
        x.equation(0, 0);
        x.sheet(2, 1, 7);
        Due.is("shelf", x.shelf(0, 1, 2), 1);
        Due.is("taken", x.taken(0, 11), 7);
        Due.is("taken, sort", x.taken(0, 10), -13);
        Due.is("taken, sort", x.taken(0, 12), -13);
        Due.is("a row taken as an equation", x.taken(0, 0), -13);
        x.sheet(2, 3, 9);
        Due.is("the row stays on the shelf", x.taken(0, 11), 7);
        x.sheet(2, -1, 0);
        Due.is("the row stays on the shelf", x.taken(0, 11), 7);
        Due.is("shelf of a missing row", x.shelf(0, 1, 2), 1);
        Due.is("nothing", x.taken(0, 11), -11);
        x.sheet(2, 0, 0);
        x.shelf(0, 1, 2);
        Due.is("a row of none", x.taken(0, 10), 0);
        x.lay(0, 2);
        x.shelf(1, 1, 2);
        Due.is("a laid row", x.taken(1, 12), 4);
        Due.is("the row ahead of it", x.taken(0, 10), 0);
    }

    /** An object with six equations of a kind, of which one is number e with a shift, on shelf 2. */
    private static TwoSidedTables actor(int kind, int e, int shift) {
        TwoSidedTables x = new TwoSidedTables();
        for (int i = 0; i < 6; i++) {
            x.equation(i == e ? kind : 6 - kind, i == e ? shift : 0);
        }
        x.shelf(2, 0, e);
        return x;
    }

    private static void act(TwoSidedTables x, int act, int arg, int due, int... bodies) {
        Due.is("act(2, " + act + ", " + arg + ")", x.act(2, act, arg), due);
        Due.is("how many bodies", x.many(4), bodies.length);
        for (int i = 0; i < bodies.length; i++) {
            Due.is("trace(" + i + ")", x.trace(i), bodies[i]);
        }
        Due.is("trace beyond", x.trace(bodies.length), -3);
    }

    private static void acts() {
        TwoSidedTables x = actor(0, 4, 2);
        act(x, 0, 10, 74, 10);
        act(x, 1, 10, 72, 11, 10);
        act(x, 2, 9, 4, 12);
        act(x, 2, -9, -4, 12);
        act(x, 3, 9, 65 ^ 5, 13, 11, 10, 12);
        act(x, 0, Integer.MAX_VALUE, Integer.MAX_VALUE * 7 + 4, 10);
        x = actor(1, 4, 2);
        act(x, 0, 10, 78, 20, 10);
        act(x, 1, 10, 76, 11, 20, 10);
        act(x, 3, 9, 69 ^ 5, 13, 11, 20, 10, 12);
        x = actor(2, 4, 2);
        act(x, 0, 10, 74, 10);
        act(x, 1, 10, -72, 30, 11, 10);
        act(x, 3, 9, -65 ^ 5, 13, 30, 11, 10, 12);
        x = actor(3, 4, 2);
        act(x, 0, 10, 134, 40, 10);
        act(x, 1, 10, 132, 11, 40, 10);
        // parts: 9 / 2 less weighs(4): (3 * 7 + 4) * 2
        act(x, 2, 9, 4 - 50, 41, 12, 40, 10);
        act(x, 3, 9, 118 ^ 5 - 50, 13, 11, 40, 10, 41, 12, 40, 10);
        x = actor(4, 4, 2);
        // turns: -(weighs(12) - 2) ^ 3
        act(x, 1, 10, -86 ^ 3, 50, 30, 11, 10);
        act(x, 2, 9, 4, 12);
        act(x, 3, 9, (-79 ^ 3) ^ 5, 13, 50, 30, 11, 10, 12);
        x = actor(5, 4, 2);
        // turns(1): weighs(1) - 2 is 8 - 2
        act(x, 3, 9, (118 ^ 5 - 50) + 6, 60, 13, 11, 40, 10, 41, 12, 40, 10, 11, 40, 10);
        x = actor(6, 4, 2);
        act(x, 0, 10, 134 ^ 2, 70, 40, 10);
        // closes(5) is closes of even of 10, less 5, with the weighs of odd
        int turns = ((9 * 7 + 4) * 2 ^ 2) - 2;
        int parts = 12 / 2 - (50 ^ 2);
        int last = (8 ^ 2) - 2;
        act(x, 3, 5, (turns ^ parts) + last - 5,
            71, 60, 13, 11, 70, 40, 10, 41, 12, 70, 40, 10, 11, 70, 40, 10);
        x = actor(0, 0, 1);
        act(x, 2, Integer.MIN_VALUE, Integer.MIN_VALUE, 12);
        act(x, 3, Integer.MAX_VALUE, Integer.MAX_VALUE * 7 - 1 ^ -(Integer.MIN_VALUE + 1), 13, 11, 10, 12);
    }

    private static void partedBy0() {
        TwoSidedTables x = actor(0, 2, 2);
        act(x, 2, 9, -15, 12);
        act(x, 3, 9, -15, 13, 11, 10, 12);
        act(x, 1, 9, 63, 11, 10);
        x = actor(3, 1, 1);
        act(x, 2, 9, -15, 41, 12);
        x = actor(6, 1, 1);
        act(x, 3, 9, -15, 71, 60, 13, 11, 70, 40, 10, 41, 12);
        act(x, 0, 1, 2 ^ 1, 70, 40, 10);
    }

    private static void traces() {
        TwoSidedTables x = actor(6, 1, 0);
        x.sheet(0, 2, 4);
        x.shelf(1, 1, 0);
        int[][] none = {{4, 0}, {-1, 0}, {2, 4}, {2, -1}, {0, 0}, {1, 0}};
        for (int[] n : none) {
            x.act(2, 3, 1);
            Due.is("many(4)", x.many(4), 16);
            Due.is("act of none", x.act(n[0], n[1], 1), 0);
            Due.is("no trace then", x.many(4), 0);
            Due.is("no trace then", x.trace(0), -3);
        }
        x.act(2, 0, 1);
        Due.is("trace(-1)", x.trace(-1), -3);
        Due.is("trace of far off", x.trace(Integer.MAX_VALUE), -3);
        Due.is("other calls leave it", x.trace(2), 10);
        Due.is("trace", x.trace(3), -3);
    }

    private static void kept() {
        TwoSidedTables x = Due.told(2, 3, "a 1 2,3 4;b 1 2 3,4 5 1,2 3 4;c 1 2 3,4 5 6;");
        Due.is("again of nothing", x.again(), -3);
        x.equation(3, 1);
        x.equation(1, -1);
        x.seed(44);
        Due.is("keep", x.keep(), 1);
        x.equation(6, 0);
        x.shelf(0, 0, 2);
        x.shelf(1, 0, 0);
        x.change(0, 5, 2);
        x.set(0, 0, 0, 5);
        x.sheet(0, 2, 3);
        Due.feed(x, "abc");
        x.act(0, 0, 0);
        x.size(3, 3);
        x.lot();
        Due.is("again", x.again(), 2);
        Due.is("m", x.many(0), 2);
        Due.is("n", x.many(1), 3);
        Due.is("A", x.at(0, 0, 0), 101);
        Due.is("B", x.at(1, 2, 2), 104);
        Due.is("C", x.at(2, 1, 2), 106);
        Due.is("kind", x.of(0, 0), 3);
        Due.is("shift", x.of(0, 1), 11);
        Due.is("no such one at the time", x.taken(0, 6), -11);
        Due.is("no such one at the time", x.act(0, 0, 3), 0);
        Due.is("no trace then", x.many(4), 0);
        Due.is("the other one", x.taken(1, 3), 0);
        Due.is("sheets are not kept", x.item(0, 2, 2), 0);
        Due.is("nor the tape", x.many(3), 3);
        Due.is("z", x.seed(3), 44);
        x.equation(5, 0);
        Due.is("it is there again", x.taken(0, 5), 2);
        x.set(0, 0, 0, -5);
        Due.is("again, which stays", x.again(), 2);
        Due.is("A", x.at(0, 0, 0), 101);
        Due.is("z", x.seed(3), 44);
        x.set(0, 0, 0, 2);
        x.keep();
        x.set(0, 0, 0, 4);
        x.again();
        Due.is("the latest is kept", x.at(0, 0, 0), 102);
        Due.is("z", x.seed(0), 3);
        TwoSidedTables empty = new TwoSidedTables();
        empty.keep();
        empty.equation(0, 0);
        Due.is("again of none", empty.again(), 0);
    }
}
