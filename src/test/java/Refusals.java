import java.util.ArrayList;
import java.util.List;

/** What the Terms say of refusals: what they are, which comes first, and that such a call changes nothing. */
final class Refusals {
    private static final int[] KINDS = {0, 1, 3, 4, 5, 6};

    private Refusals() {
    }

    private interface Call {
        long on(TwoSidedTables x);
    }

    static void all() {
        changeNothing();
        areNamed();
        comeInTheirOrder();
    }

    /** An object in which all that can be held holds something, m by n, with so many bytes on THE TAPE. */
    private static TwoSidedTables full(int m, int n, int bytes) {
        TwoSidedTables x = new TwoSidedTables();
        x.size(1, 2);
        x.equation(1, 1);
        x.seed(3);
        x.lot();
        x.keep();
        x.size(m, n);
        x.lot();
        x.change(0, KINDS[0], 0);
        for (int e = 1; e < 6; e++) {
            x.equation(KINDS[e], e % 3);
        }
        x.set(2, 0, 0, 1);
        int[] sizes = {m * n, 3, -1, 5};
        int[] sorts = {2, 0, -1, 3};
        for (int sheet = 0; sheet < 4; sheet++) {
            x.sheet(sheet, sorts[sheet], sizes[sheet]);
            for (int i = 0; i < sizes[sheet]; i++) {
                x.put(sheet, i, 10 * sheet + i + 1);
            }
        }
        x.shelf(0, 0, 5);
        x.shelf(1, 1, 1);
        x.shelf(3, 0, 0);
        x.act(0, 3, 7);
        for (int i = 0; i < bytes; i += 8) {
            x.feed(0x6161616161616161L, Math.min(8, bytes - i));
        }
        return x;
    }

    /** All that can be asked of an object; what it holds is used up by the last of it. */
    private static List<Long> seen(TwoSidedTables x) {
        List<Long> seen = new ArrayList<>();
        for (int i = -1; i < 31; i++) {
            seen.add((long) x.trace(i));
        }
        for (int shelf = 0; shelf < 4; shelf++) {
            for (int as = 0; as < 14; as++) {
                seen.add((long) x.taken(shelf, as));
            }
        }
        for (int sheet = 0; sheet < 4; sheet++) {
            int[] sorts = {2, 0, 0, 3};
            for (int i = 0; i < 10; i++) {
                seen.add((long) x.item(sheet, sorts[sheet], i));
            }
        }
        tables(x, seen);
        x.text();
        tables(x, seen);
        seen.add((long) x.seed(5));
        seen.add((long) x.again());
        tables(x, seen);
        seen.add((long) x.seed(5));
        return seen;
    }

    private static void tables(TwoSidedTables x, List<Long> seen) {
        for (int what = 0; what < 7; what++) {
            seen.add((long) x.many(what));
        }
        for (int place = 0; place < 27; place++) {
            seen.add((long) x.at(place / 9, place / 3 % 3, place % 3));
        }
        for (int e = 0; e < 7; e++) {
            seen.add((long) x.of(e, 0));
            seen.add((long) x.of(e, 1));
        }
    }

    private static void refused(String call, TwoSidedTables x, TwoSidedTables same, long due, Call made) {
        Sentences.is(call, made.on(x), due);
        Sentences.is(call + " changes nothing", seen(x).equals(seen(same)) ? 1 : 0, 1);
    }

    private static void of22(String call, int due, Call made) {
        refused(call, full(2, 2, 3), full(2, 2, 3), due, made);
    }

    private static void far22(String call, int due, Call made) {
        refused(call, full(2, 2, 3), full(2, 2, 3), due - 4000000000000000000L, made);
    }

    private static void of23(String call, int due, Call made) {
        refused(call, full(2, 3, 3), full(2, 3, 3), due, made);
    }

    private static void far23(String call, int due, Call made) {
        refused(call, full(2, 3, 3), full(2, 3, 3), due - 4000000000000000000L, made);
    }

    private static void changeNothing() {
        Sentences.of(Sentences.TERMS, "Answers below 0, where not told otherwise, are refusals; such a call changes nothing (but "
            + "that THE TAPE is used up by text())");
        Sentences.is("what is looked at is seen", seen(full(2, 2, 3)).equals(seen(full(2, 2, 4))) ? 1 : 0, 0);
        tablesChangeNothing();
        equationsChangeNothing();
        readersChangeNothing();
        hostChangesNothing();
        refused("a text with a FAULT", full(2, 2, 3), full(2, 2, 0), -100, TwoSidedTables::text);
        refused("a text with a FAULT behind a TABLE", full(2, 2, 0), full(2, 2, 0), -110,
            x -> Due.tell(x, "a 0 0,0 0;!"));
        refused("a text with a FAULT at the end", full(2, 2, 0), full(2, 2, 0), -119,
            x -> Due.tell(x, "a 0 0,0 0;b 1 1,2 2"));
        TwoSidedTables x = new TwoSidedTables();
        x.equation(0, 0);
        Sentences.is("again() with nothing kept", x.again(), -3);
        Sentences.is("it changes nothing", x.many(2), 1);
    }

    private static void tablesChangeNothing() {
        of22("size(2, 0)", -1, x -> x.size(2, 0));
        of22("size(4, 2)", -1, x -> x.size(4, 2));
        of22("set(0, 0, 0, 6)", -1, x -> x.set(0, 0, 0, 6));
        of22("set(2, 0, 0, -51)", -1, x -> x.set(2, 0, 0, -51));
        of22("set(3, 0, 0, 1)", -1, x -> x.set(3, 0, 0, 1));
        of22("set(1, 2, 0, 1)", -1, x -> x.set(1, 2, 0, 1));
        of22("set(1, 0, 2, 1)", -1, x -> x.set(1, 0, 2, 1));
        of22("at(0, 2, 0)", -1, x -> x.at(0, 2, 0));
        far22("det(2)", -1, x -> x.det(2));
        far22("diagonal(3)", -1, x -> x.diagonal(3));
        far23("diagonal(2)", -4, x -> x.diagonal(2));
        far22("character(0, 3)", -1, x -> x.character(0, 3));
        of22("feed(32, 0)", -1, x -> x.feed(32, 0));
        of22("feed(32, 9)", -1, x -> x.feed(32, 9));
        refused("feed(32, 8) of 196", full(2, 2, 196), full(2, 2, 196), -2, x -> x.feed(0x2020202020202020L, 8));
    }

    private static void equationsChangeNothing() {
        of22("equation(7, 0)", -1, x -> x.equation(7, 0));
        of22("equation(0, 3)", -1, x -> x.equation(0, 3));
        of22("equation(0, 0)", -2, x -> x.equation(0, 0));
        of22("of(6, 0)", -1, x -> x.of(6, 0));
        of23("of(2, 6)", -4, x -> x.of(2, 6));
        of22("change(6, 0, 0)", -1, x -> x.change(6, 0, 0));
        of22("change(5, 7, 1)", -1, x -> x.change(5, 7, 1));
        of22("change(5, 0, -3)", -1, x -> x.change(5, 0, -3));
        far22("right(0, 2, 0)", -1, x -> x.right(0, 2, 0));
        far23("right(2, 0, 0)", -4, x -> x.right(2, 0, 0));
        far22("solution(0, 0, 0, 2)", -1, x -> x.solution(0, 0, 0, 2));
        far22("solution(5, 0, 0, 0)", -3, x -> x.solution(5, 0, 0, 0));
        far23("solution(5, 0, 0, 0)", -4, x -> x.solution(5, 0, 0, 0));
        far22("base(0, 9, 0, 0, 0)", -1, x -> x.base(0, 9, 0, 0, 0));
        far22("base(0, 8, 0, 0, 0)", -3, x -> x.base(0, 8, 0, 0, 0));
        far23("base(5, 0, 0, 0, 0)", -4, x -> x.base(5, 0, 0, 0, 0));
        far22("witness(0, 0, 0, 2)", -1, x -> x.witness(0, 0, 0, 2));
        far22("witness(0, 0, 0, 0)", -3, x -> x.witness(0, 0, 0, 0));
        far23("witness(5, 0, 0, 0)", -4, x -> x.witness(5, 0, 0, 0));
        of22("similar(6)", -1, x -> x.similar(6));
        of23("similar(5)", -4, x -> x.similar(5));
        far22("whole(6)", -1, x -> x.whole(6));
        far23("whole(5)", -4, x -> x.whole(5));
        of22("lower(0, 3)", -1, x -> x.lower(0, 3));
        of22("lower(0, 2)", -4, x -> x.lower(0, 2));
        of23("swapped()", -4, x -> x.swapped());
    }

    private static void readersChangeNothing() {
        of22("lay(0, 4)", -1, x -> x.lay(0, 4));
        of23("lay(5, 0)", -4, x -> x.lay(5, 0));
        of22("lay(5, 0)", -3, x -> x.lay(5, 0));
        of22("judge(0, 0, 0)", -1, x -> x.judge(0, 0, 0));
        of23("judge(5, 0, 1)", -4, x -> x.judge(5, 0, 1));
        of22("judge(0, 1, 1)", -13, x -> x.judge(0, 1, 1));
        of22("judge(0, 2, 1)", -11, x -> x.judge(0, 2, 1));
        refused("judge(0, 0, 1) of 5", five(), five(), -12, x -> x.judge(0, 0, 1));
        refused("kinds(0, 0) of 5", five(), five(), -12, x -> x.kinds(0, 0));
        of22("kinds(0, 3)", -1, x -> x.kinds(0, 3));
        of22("kinds(3, 0)", -13, x -> x.kinds(3, 0));
        of22("kinds(2, 0)", -11, x -> x.kinds(2, 0));
        far22("ratio(1, 1, 2)", -1, x -> x.ratio(1, 1, 2));
        far22("ratio(1, 0, 0)", -15, x -> x.ratio(1, 0, 0));
        far22("ratio(lowest, -1, 0)", -16, x -> x.ratio(Long.MIN_VALUE, -1, 0));
        of22("times(0, 0)", -1, x -> x.times(0, 0));
        of22("times(0, 31)", -1, x -> x.times(0, 31));
        of22("times(6, 1)", -1, x -> x.times(6, 1));
        of23("times(5, 30)", -4, x -> x.times(5, 30));
    }

    private static TwoSidedTables five() {
        TwoSidedTables x = full(2, 2, 3);
        x.sheet(0, 2, 5);
        return x;
    }

    private static void hostChangesNothing() {
        of22("sheet(4, 0, 1)", -1, x -> x.sheet(4, 0, 1));
        of22("sheet(0, 4, 1)", -1, x -> x.sheet(0, 4, 1));
        of22("sheet(0, 0, 41)", -1, x -> x.sheet(0, 0, 41));
        of22("sheet(0, 0, -1)", -14, x -> x.sheet(0, 0, -1));
        of22("put(4, 0, 1)", -1, x -> x.put(4, 0, 1));
        of22("put(2, 0, 1)", -11, x -> x.put(2, 0, 1));
        of22("put(1, 3, 1)", -12, x -> x.put(1, 3, 1));
        of22("item(0, 4, 0)", -1, x -> x.item(0, 4, 0));
        of22("item(0, 0, 0)", -13, x -> x.item(0, 0, 0));
        of22("item(2, 0, 0)", -11, x -> x.item(2, 0, 0));
        of22("item(0, 2, 4)", -12, x -> x.item(0, 2, 4));
        of22("move(0, 0, 4, 0, 1)", -1, x -> x.move(0, 0, 4, 0, 1));
        of22("move(0, 0, 2, 0, 1)", -11, x -> x.move(0, 0, 2, 0, 1));
        of22("move(0, 0, 3, 0, 1)", -13, x -> x.move(0, 0, 3, 0, 1));
        of22("move(0, 0, 0, 2, 3)", -12, x -> x.move(0, 0, 0, 2, 3));
        of22("shelf(4, 2, 0)", -1, x -> x.shelf(4, 2, 0));
        of22("shelf(0, 3, 0)", -1, x -> x.shelf(0, 3, 0));
        of22("shelf(0, 0, 6)", -1, x -> x.shelf(0, 0, 6));
        of22("shelf(0, 1, 4)", -1, x -> x.shelf(0, 1, 4));
        of22("taken(0, 9)", -1, x -> x.taken(0, 9));
        of22("taken(0, 2)", -13, x -> x.taken(0, 2));
        of22("taken(2, 0)", -11, x -> x.taken(2, 0));
        of22("trace(16)", -3, x -> x.trace(16));
        of22("many(7)", -1, x -> x.many(7));
    }

    private static void areNamed() {
        Sentences.of(Sentences.TERMS, "BAD (-1) there is no such thing, or a number is not as told; FULL (-2); NONE (-3); STATE "
            + "(-4); and what the host refuses: -11 nothing where something is asked, -12 a place outside, -13 a thing of "
            + "another sort or kind, -14 a size below 0, -15 parted by 0, -16 no int any more.");
        TwoSidedTables x = full(2, 3, 200);
        Sentences.is("BAD", TwoSidedTables.BAD, -1);
        Sentences.is("FULL", TwoSidedTables.FULL, -2);
        Sentences.is("NONE", TwoSidedTables.NONE, -3);
        Sentences.is("STATE", TwoSidedTables.STATE, -4);
        Sentences.is("no such thing", x.many(9), -1);
        Sentences.is("a number not as told", x.set(0, 0, 0, 9), -1);
        Sentences.is("THE TAPE is full", x.feed(32, 1), -2);
        Sentences.is("no body there", x.trace(30), -3);
        Sentences.is("n is not m", x.swapped(), -4);
        Sentences.is("a missing SHEET", x.put(2, 0, 1), -11);
        Sentences.is("a place outside", x.put(1, 3, 1), -12);
        Sentences.is("another sort", x.item(1, 1, 0), -13);
        Sentences.is("another KIND", x.taken(0, 1), -13);
        Sentences.is("a size below 0", x.sheet(1, 1, -1), -14);
        Sentences.is("parted by 0", x.act(3, 2, 1), -15);
    }

    private static void comeInTheirOrder() {
        Sentences.of(Sentences.TERMS, "of several the first named");
        TwoSidedTables x = full(2, 3, 200);
        Sentences.is("feed: BAD, FULL", x.feed(32, 9), -1);
        Sentences.is("equation: BAD, FULL", x.equation(7, 0), -1);
        Sentences.is("of: BAD, STATE", x.of(5, 7), -1);
        Sentences.is("right: BAD, STATE", x.right(5, 3, 0), Due.FAR_BAD);
        Sentences.is("solution: BAD, STATE", x.solution(5, 2, 0, 0), Due.FAR_BAD);
        Sentences.is("base: BAD, STATE, NONE", x.base(5, 9, 0, 0, 0), Due.FAR_BAD);
        Sentences.is("base: STATE, NONE", x.base(5, 8, 0, 0, 0), Due.FAR_STATE);
        Sentences.is("witness: BAD, STATE", x.witness(5, 0, 3, 0), Due.FAR_BAD);
        Sentences.is("lower: BAD, STATE", x.lower(5, 3), -1);
        Sentences.is("lay: BAD, STATE", x.lay(5, 4), -1);
        Sentences.is("judge: BAD, STATE, -11", x.judge(5, 2, 0), -1);
        Sentences.is("judge: STATE, -11", x.judge(5, 2, 1), -4);
        Sentences.is("judge: STATE, -13, -12", x.judge(5, 1, 1), -4);
        Sentences.is("judge: -13, -12", x.judge(0, 1, 1), -13);
        Sentences.is("kinds: BAD, -11", x.kinds(2, 3), -1);
        Sentences.is("kinds: -13, -12", x.kinds(1, 0), -13);
        Sentences.is("ratio: BAD, -15", x.ratio(1, 0, 2), Due.FAR_BAD);
        Sentences.is("ratio: BAD, -16", x.ratio(Long.MIN_VALUE, -1, 2), Due.FAR_BAD);
        Sentences.is("times: BAD, STATE", x.times(5, 0), -1);
        Sentences.is("sheet: BAD, -14", x.sheet(0, 4, -1), -1);
        Sentences.is("put: -11, -12", x.put(2, -1, 0), -11);
        Sentences.is("item: BAD, -13", x.item(0, 4, 0), -1);
        Sentences.is("item: -13, -12", x.item(0, 3, 99), -13);
        Sentences.is("item: -11, -12", x.item(2, 3, 99), -11);
        Sentences.is("move: BAD, -11", x.move(2, 0, 4, 0, 0), -1);
        Sentences.is("move: -11, -12", x.move(2, -1, 0, 0, 0), -11);
        Sentences.is("move: -13, -12", x.move(1, -1, 0, 0, 0), -13);
        Sentences.is("taken: BAD, -11", x.taken(2, 7), -1);
        Sentences.is("taken: BAD, -13", x.taken(1, 9), -1);
        x = full(3, 3, 0);
        x.change(0, 0, 0);
        Sentences.is("9 UNKNOWNS", x.of(0, 3), 9);
        Sentences.is("lay: STATE, NONE", x.lay(0, 0), -4);
        Sentences.is("solution: STATE, NONE", x.solution(0, 0, 0, 0), Due.FAR_STATE);
        Sentences.is("witness: STATE, NONE", x.witness(0, 0, 0, 0), Due.FAR_STATE);
    }
}
