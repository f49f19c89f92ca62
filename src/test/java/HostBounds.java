/** Boundaries of promises 22 to 39, and of what the Terms say of parts, lots, ACTS, SHEETS and SHELVES. */
final class HostBounds {
    private static final int LOWEST = Integer.MIN_VALUE;
    private static final int HIGHEST = Integer.MAX_VALUE;
    private static final long LOWEST_LONG = Long.MIN_VALUE;
    private static final long HIGHEST_LONG = Long.MAX_VALUE;

    private HostBounds() {
    }

    static void all() {
        lay();
        judge();
        kinds();
        parts();
        ratio();
        lots();
        times();
        sheetsAtFirst();
        sheet();
        put();
        item();
        move();
        shelvesAtFirst();
        shelf();
        taken();
        acts();
        act();
        trace();
        many();
        keepAndAgain();
    }

    private static void lay() {
        Sentences.of(Sentences.TERMS, "LAID OUT: THE SOLUTION, all entries times the least whole number above 0, the SCALE, "
            + "that makes them whole.");
        // x is -3 by 2, -2 by 3, 1
        TwoSidedTables x = Due.one(3, 1, "a -4 0 0,0 3 0,0 0 -1;c 6,-2,-1;", 1, 0);
        Sentences.is("SCALE", x.lay(0, 0), 6);
        Sentences.items("LAID OUT", x, 0, -9, -4, 6);
        Sentences.is("just m times n", x.item(0, 2, 3), -12);
        Sentences.is("THE SOLUTION of 0", Due.one(3, 3, "", 4, 0).lay(0, 0), 1);
        x = Due.one(2, 3, "c 1 -2 3,-4 5 -6;", 0, -1);
        Sentences.is("whole ones", x.lay(0, 3), 1);
        Sentences.items("by PLACES", x, 3, -1, 2, -3, 4, -5, 6);
        Sentences.of(22, "STATE: it does not FIT; NONE: it is not SOLVABLE; -16: the SCALE, or a number, is no int (the SHEET "
            + "stays).");
        // about as large as they come: ints all the same
        x = Due.one(2, 3, "a 5 -5,5 5;b 5 4 -5,-5 5 -5,5 5 5;c 3 47 30,14 1 16;", 0, 2);
        Sentences.is("a large SCALE", x.lay(0, 0), 8554474);
        Sentences.is("judge by it", x.judge(0, 0, 8554474), 0);
        Sentences.is("judge by half of it", x.judge(0, 0, 4277237), 1);
        // 12 X is C: of the six equations the determinant is 12 to the 6th, of the numbers 4 times that
        x = Due.one(2, 3, "a 5 0,0 5;b 5 0 0,0 5 0,0 0 5;c 48 48 48,48 48 48;", 0, 2);
        Sentences.is("large ones with a common divisor", x.lay(0, 0), 1);
        Sentences.items("large ones with a common divisor", x, 0, 4, 4, 4, 4, 4, 4);
        x = Due.one(2, 2, "c 0 0,0 1;", 0, 0);
        x.sheet(0, 1, 2);
        x.put(0, 1, 9);
        Sentences.is("not SOLVABLE", x.lay(0, 0), -3);
        Sentences.is("the SHEET stays", x.item(0, 1, 1), 9);
        x.size(2, 3);
        x.change(0, 3, 0);
        Sentences.is("n is not m", x.lay(0, 0), -4);
        x.size(3, 3);
        Sentences.is("9 UNKNOWNS", x.lay(0, 0), -4);
        x.set(2, 0, 0, 1);
        Sentences.is("9 UNKNOWNS, and not SOLVABLE: STATE first", x.lay(0, 0), -4);
        Sentences.is("the SHEET stays", x.item(0, 1, 1), 9);
        Sentences.of(22, "BAD: no such EQUATION, SHEET");
        Sentences.is("EQUATION 1: BAD ahead of STATE", x.lay(1, 0), -1);
        Sentences.is("EQUATION -1", x.lay(-1, 0), -1);
        Sentences.is("SHEET 4: BAD ahead of STATE", x.lay(0, 4), -1);
        Sentences.is("SHEET -1", x.lay(0, -1), -1);
        Sentences.is("far off", x.lay(LOWEST, HIGHEST), -1);
    }

    private static void judge() {
        Sentences.of(Sentences.TERMS, "THE READER takes a SHEET of ints (m times n numbers) as an X, each number by d: the "
            + "first PLACE at which THE SUM isn't C.");
        TwoSidedTables x = Due.one(2, 2, "c 1 0,0 1;", 0, 1);
        // ints as they were narrowed, not as they were put
        Due.row(x, 0, 0, 0, 0, 0);
        x.put(0, 0, (1L << 32) + 2);
        x.put(0, 3, 2 - (1L << 32));
        Sentences.is("narrowed ints by 2", x.judge(0, 0, 2), 0);
        Sentences.of(23, "takes a SHEET with d (1 or more): 0: X SOLVES it; else 1 and the first PLACE at which THE SUM is not "
            + "C; if there is none such, but X is not of the SHAPE, 1 and m times n.");
        for (int place = 0; place < 4; place++) {
            Due.row(x, 0, 2, 0, 0, 2);
            x.put(0, place, 1);
            Sentences.is("not C at " + place, x.judge(0, 0, 2), 1 + place);
        }
        Due.row(x, 0, 1, 0, 0, 1);
        Sentences.is("d 1", x.judge(0, 0, 1), 0);
        Due.row(x, 0, HIGHEST, 0, 0, HIGHEST);
        Sentences.is("d as large as can be", x.judge(0, 0, HIGHEST), 0);
        // odd with nothing on the left: SUM is X, C is it, but X is no odd one
        x = Due.one(3, 3, "c 0 1 1,-1 0 1,-1 -1 0;", 6, 1);
        Due.row(x, 0, 0, 1, 1, -1, 0, 1, -1, -1, 0);
        Sentences.is("odd", x.judge(0, 0, 1), 0);
        x.set(2, 2, 2, 1);
        Sentences.is("not C at the last", x.judge(0, 0, 1), 9);
        x.put(0, 8, 1);
        Sentences.is("C, but not odd", x.judge(0, 0, 1), 10);
        Sentences.of(23, "BAD: no such EQUATION, SHEET, d; STATE: n is not m, though it must be; -13; -11; -12: the SHEET has "
            + "more or fewer numbers.");
        Sentences.is("EQUATION 1", x.judge(1, 0, 1), -1);
        Sentences.is("EQUATION -1", x.judge(-1, 0, 1), -1);
        Sentences.is("SHEET 4", x.judge(0, 4, 1), -1);
        Sentences.is("SHEET -1", x.judge(0, -1, 1), -1);
        Sentences.is("d 0", x.judge(0, 0, 0), -1);
        Sentences.is("d -1", x.judge(0, 0, -1), -1);
        Sentences.is("d far off", x.judge(0, 0, LOWEST), -1);
        Sentences.is("missing", x.judge(0, 1, 1), -11);
        x.sheet(2, 2, 10);
        Sentences.is("more", x.judge(0, 2, 1), -12);
        x.sheet(2, 2, 8);
        Sentences.is("fewer", x.judge(0, 2, 1), -12);
        x.sheet(2, 2, 0);
        Sentences.is("none", x.judge(0, 2, 1), -12);
        int[] others = {0, 1, 3};
        for (int sort : others) {
            x.sheet(2, sort, 9);
            Sentences.is("sort " + sort, x.judge(0, 2, 1), -13);
            x.sheet(2, sort, 8);
            Sentences.is("sort " + sort + ", fewer: -13 first", x.judge(0, 2, 1), -13);
        }
        x.size(3, 2);
        Sentences.is("n is not m: STATE ahead of -13", x.judge(0, 2, 1), -4);
        Sentences.is("STATE ahead of -11", x.judge(0, 1, 1), -4);
        Sentences.is("STATE ahead of -12", x.judge(0, 0, 1), -4);
        Sentences.is("BAD ahead of STATE", x.judge(0, 0, 0), -1);
        x.change(0, 1, 0);
        x.sheet(0, 2, 6);
        Sentences.is("left need not have n m", x.judge(0, 0, 1), 0);
        x.size(3, 3);
        x.change(0, 0, 0);
        x.sheet(0, 2, 9);
        Sentences.is("9 UNKNOWNS: no FIT is asked for", x.judge(0, 0, 1), 0);
    }

    private static void kinds() {
        Sentences.of(24, "taken with d 1 (others than plain, left only if n is m). BAD: no such SHEET, SHIFT; -13; -11; -12: "
            + "the SHEET has more or fewer numbers than m times n.");
        TwoSidedTables x = new TwoSidedTables();
        x.size(3, 3);
        x.sheet(0, 2, 9);
        Sentences.is("all 0", x.kinds(0, -2), 127);
        x.put(0, 1, 1);
        Sentences.is("not level, even, odd", x.kinds(0, 0), 15);
        x.put(0, 3, 1);
        Sentences.is("even", x.kinds(0, 0), 47);
        x.put(0, 3, -1);
        Sentences.is("odd", x.kinds(0, 0), 79);
        x.put(0, 8, 1);
        Sentences.is("not odd at its last place", x.kinds(0, 0), 15);
        Sentences.is("no C with a SHIFT", x.kinds(0, 2), 0);
        x = Due.told(1, 1, "a 2;b 3;c 50;");
        Due.row(x, 0, 10);
        Sentences.is("d 1, plain and a SHIFT of 0", x.kinds(0, 0), 1);
        Due.row(x, 0, 0);
        Sentences.is("C is not 0", x.kinds(0, 0), 0);
        x.size(3, 3);
        x.sheet(0, 2, 9);
        Sentences.is("SHEET 4", x.kinds(4, 0), -1);
        Sentences.is("SHEET -1", x.kinds(-1, 0), -1);
        Sentences.is("SHIFT 3", x.kinds(0, 3), -1);
        Sentences.is("SHIFT -3", x.kinds(0, -3), -1);
        Sentences.is("SHIFT far off", x.kinds(0, LOWEST), -1);
        Sentences.is("SHIFT 3 of a missing one: BAD first", x.kinds(1, 3), -1);
        Sentences.is("missing", x.kinds(1, 0), -11);
        x.sheet(1, 2, 10);
        Sentences.is("more", x.kinds(1, 0), -12);
        x.sheet(1, 2, 8);
        Sentences.is("fewer", x.kinds(1, 0), -12);
        int[] others = {0, 1, 3};
        for (int sort : others) {
            x.sheet(1, sort, 9);
            Sentences.is("sort " + sort, x.kinds(1, 0), -13);
            x.sheet(1, sort, 8);
            Sentences.is("sort " + sort + ", fewer: -13 first", x.kinds(1, 0), -13);
        }
        x.size(3, 2);
        x.sheet(1, 2, 6);
        Sentences.is("n is not m", x.kinds(1, 0), 3);
    }

    private static void parts() {
        Sentences.of(Sentences.TERMS, "A part of a fraction: 0 above the line, 1 below it, without a common divisor, below "
            + "above 0 (0 is 0 by 1).");
        // 4 x is c
        TwoSidedTables x = Due.one(1, 1, "a 4;c 6;", 1, 0);
        Sentences.is("6 by 4", x.solution(0, 0, 0, 0), 3);
        Sentences.is("6 by 4", x.solution(0, 0, 0, 1), 2);
        x.set(0, 0, 0, -4);
        Sentences.is("6 by -4", x.solution(0, 0, 0, 0), -3);
        Sentences.is("6 by -4", x.solution(0, 0, 0, 1), 2);
        x.set(2, 0, 0, -6);
        Sentences.is("-6 by -4", x.solution(0, 0, 0, 0), 3);
        Sentences.is("-6 by -4", x.solution(0, 0, 0, 1), 2);
        x.set(2, 0, 0, 0);
        Sentences.is("0 by -4", x.solution(0, 0, 0, 0), 0);
        Sentences.is("0 by -4", x.solution(0, 0, 0, 1), 1);
        Sentences.of(Sentences.TERMS, "Of acts that answer longs refusals are 4000000000000000000 less (BAD: "
            + "-4000000000000000001).");
        Sentences.is("BAD", x.det(2), -4000000000000000001L);
        Sentences.is("NONE", x.witness(0, 0, 0, 0), -4000000000000000003L);
        x.size(1, 2);
        Sentences.is("STATE", x.diagonal(2), -4000000000000000004L);
        Sentences.is("-15", x.ratio(1, 0, 0), -4000000000000000015L);
        Sentences.is("-16", x.ratio(1, LOWEST_LONG, 0), -4000000000000000016L);
    }

    private static void ratio(long above, long below, long dueAbove, long dueBelow) {
        TwoSidedTables x = new TwoSidedTables();
        Sentences.is("ratio(" + above + ", " + below + ", 0)", x.ratio(above, below, 0), dueAbove);
        Sentences.is("ratio(" + above + ", " + below + ", 1)", x.ratio(above, below, 1), dueBelow);
        Sentences.is("ratio(" + above + ", " + below + ", 2)", x.ratio(above, below, 2), Due.FAR_BAD);
        Sentences.is("ratio(" + above + ", " + below + ", -1)", x.ratio(above, below, -1), Due.FAR_BAD);
    }

    private static void ratio() {
        Sentences.of(25, "Refused as told: BAD: part; -15: below is 0");
        ratio(0, 0, Due.FAR_BY_0, Due.FAR_BY_0);
        ratio(1, 0, Due.FAR_BY_0, Due.FAR_BY_0);
        ratio(-1, 0, Due.FAR_BY_0, Due.FAR_BY_0);
        ratio(LOWEST_LONG, 0, Due.FAR_BY_0, Due.FAR_BY_0);
        ratio(0, 1, 0, 1);
        ratio(0, -1, 0, 1);
        ratio(0, LOWEST_LONG, 0, 1);
        ratio(0, HIGHEST_LONG, 0, 1);
        Sentences.of(25, "-16: one of both parts is no long.");
        // 0 less the lowest long is none
        ratio(LOWEST_LONG, 1, LOWEST_LONG, 1);
        ratio(LOWEST_LONG, -1, Due.FAR_NO_LONG, Due.FAR_NO_LONG);
        ratio(1, LOWEST_LONG, Due.FAR_NO_LONG, Due.FAR_NO_LONG);
        ratio(-1, LOWEST_LONG, Due.FAR_NO_LONG, Due.FAR_NO_LONG);
        ratio(2, LOWEST_LONG, -1, 1L << 62);
        ratio(-2, LOWEST_LONG, 1, 1L << 62);
        ratio(3, LOWEST_LONG, Due.FAR_NO_LONG, Due.FAR_NO_LONG);
        ratio(LOWEST_LONG, -2, 1L << 62, 1);
        ratio(LOWEST_LONG, -3, Due.FAR_NO_LONG, Due.FAR_NO_LONG);
        ratio(LOWEST_LONG, -6, 1L << 62, 3);
        ratio(LOWEST_LONG, LOWEST_LONG, 1, 1);
        ratio(LOWEST_LONG, HIGHEST_LONG, LOWEST_LONG, HIGHEST_LONG);
        ratio(LOWEST_LONG, -HIGHEST_LONG, Due.FAR_NO_LONG, Due.FAR_NO_LONG);
        ratio(HIGHEST_LONG, LOWEST_LONG, Due.FAR_NO_LONG, Due.FAR_NO_LONG);
        ratio(HIGHEST_LONG, -HIGHEST_LONG, -1, 1);
        ratio(1, -HIGHEST_LONG, -1, HIGHEST_LONG);
        ratio(LOWEST_LONG / 2, LOWEST_LONG, 1, 2);
        ratio(-6, -4, 3, 2);
    }

    private static void lots() {
        Sentences.of(Sentences.TERMS, "z (an int; 1 at first) becomes z * 1103515245 + 12345 ahead of each entry, of A, then B, "
            + "then C, by PLACES: of A, B what z >>> 16 leaves by 11, less 5; of C by 101, less 50.");
        TwoSidedTables x = new TwoSidedTables();
        x.size(1, 1);
        // 1103527590 is 16838 times 65536 and a rest
        x.lot();
        Sentences.is("A, z 1 at first", x.at(0, 0, 0), 100 + 16838 % 11 - 5);
        // the lowest int wraps to itself and 12345 more: 32768 times 65536, for it isn't taken below 0
        x.seed(LOWEST);
        x.lot();
        Sentences.is("A, 32768", x.at(0, 0, 0), 100 + 32768 % 11 - 5);
        Sentences.is("B, 21468", x.at(1, 0, 0), 100 + 21468 % 11 - 5);
        Sentences.is("C, 9988", x.at(2, 0, 0), 100 + 9988 % 101 - 50);
        Sentences.of(26, "z becomes v: what it was.");
        x = new TwoSidedTables();
        Sentences.is("1 at first", x.seed(LOWEST), 1);
        Sentences.is("the lowest", x.seed(HIGHEST), LOWEST);
        Sentences.is("the highest", x.seed(-1), HIGHEST);
        Sentences.is("-1: no refusal", x.seed(0), -1);
        Sentences.is("0", x.seed(0), 0);
        Sentences.of(27, "A, B, C become others BY LOT: 100, and the entry of C at 0, 0.");
        x = new TwoSidedTables();
        x.size(3, 2);
        int answer = x.lot();
        Sentences.is("lot()", answer, x.at(2, 0, 0));
        int z = 1;
        int[][] sides = {{3, 3}, {2, 2}, {3, 2}};
        for (int table = 0; table < 3; table++) {
            for (int place = 0; place < sides[table][0] * sides[table][1]; place++) {
                z = z * 1103515245 + 12345;
                int due = table == 2 ? (z >>> 16) % 101 - 50 : (z >>> 16) % 11 - 5;
                Sentences.is("table " + table + ", PLACE " + place,
                    x.at(table, place / sides[table][1], place % sides[table][1]), 100 + due);
            }
        }
        Sentences.is("z", x.seed(0), z);
    }

    private static void times() {
        Sentences.of(28, "How many of n (1 to 30) times A, B, C BY LOT an EQUATION is SOLVABLE (A, B, C are as they were in the "
            + "end; z goes on). BAD; STATE: it does not FIT.");
        TwoSidedTables x = Due.one(2, 2, "a 1 2,3 4;b -1 -2,-3 -4;c 50 -50,49 -49;", 0, 0);
        x.set(0, 1, 1, 5);
        x.set(1, 1, 1, -5);
        x.set(2, 1, 1, -48);
        TwoSidedTables y = Due.one(2, 2, "", 0, 0);
        int solvable = 0;
        for (int i = 0; i < 30; i++) {
            y.lot();
            solvable += y.of(0, 6);
        }
        Sentences.is("n 30", x.times(0, 30), solvable);
        int[] due = {101, 102, 103, 105, 99, 98, 97, 95, 150, 50, 149, 52};
        for (int place = 0; place < 12; place++) {
            Sentences.is("as they were", x.at(place / 4, place / 2 % 2, place % 2), due[place]);
        }
        int z = y.seed(9);
        Sentences.is("z goes on", x.seed(9), z);
        y.lot();
        Sentences.is("n 1", x.times(0, 1), y.of(0, 6));
        Sentences.is("z goes on", x.seed(9), y.seed(9));
        int[] bad = {0, 31, -1, LOWEST, HIGHEST};
        for (int n : bad) {
            Sentences.is("n " + n, x.times(0, n), -1);
        }
        Sentences.is("e 1", x.times(1, 1), -1);
        Sentences.is("e -1", x.times(-1, 1), -1);
        x.size(3, 3);
        Sentences.is("no FIT", x.times(0, 1), -4);
        Sentences.is("no FIT: BAD first", x.times(0, 31), -1);
        x.change(0, 6, 0);
        Sentences.is("odd FITS", x.times(0, 1), 0);
        x.size(2, 1);
        x.seed(9);
        Sentences.is("n is not m", x.times(0, 30), -4);
        Sentences.is("z stays", x.seed(0), 9);
    }

    private static void sheetsAtFirst() {
        Sentences.of(Sentences.TERMS, "SHEETS 0 to 3 are rows of bytes (sort 0), shorts (1), ints (2), longs (3), 40 at most, "
            + "or missing (at first).");
        TwoSidedTables x = new TwoSidedTables();
        for (int sheet = 0; sheet < 4; sheet++) {
            Sentences.is("missing at first", x.put(sheet, 0, 1), -11);
            Sentences.is("40", x.sheet(sheet, 3 - sheet, 40), 1);
            Sentences.is("41", x.sheet(sheet, 3 - sheet, 41), -1);
            Sentences.is("put the last", x.put(sheet, 39, 100 + sheet), 1);
            Sentences.is("put one more", x.put(sheet, 40, 1), -12);
        }
        for (int sheet = 0; sheet < 4; sheet++) {
            Sentences.is("the last", x.item(sheet, 3 - sheet, 39), 100 + sheet);
            Sentences.is("the one ahead of it", x.item(sheet, 3 - sheet, 38), 0);
        }
    }

    private static void sheet() {
        Sentences.of(29, "A SHEET becomes a row of n of a sort, all 0, or missing (sort -1; n counts nothing then): 1.");
        TwoSidedTables x = new TwoSidedTables();
        x.sheet(0, 3, 3);
        x.put(0, 2, -1);
        Sentences.is("of the same sort", x.sheet(0, 3, 3), 1);
        Sentences.is("all 0", x.item(0, 3, 2), 0);
        x.put(0, 2, -1);
        x.sheet(0, 3, 2);
        x.sheet(0, 3, 3);
        Sentences.is("nothing comes back", x.item(0, 3, 2), 0);
        Sentences.is("of none", x.sheet(0, 0, 0), 1);
        Sentences.is("it is there", x.item(0, 1, 0), -13);
        Sentences.is("and has no item", x.item(0, 0, 0), -12);
        int[] any = {0, 41, -1, LOWEST, HIGHEST};
        for (int n : any) {
            x.sheet(0, 0, 1);
            Sentences.is("missing, n " + n, x.sheet(0, -1, n), 1);
            Sentences.is("missing", x.item(0, 0, 0), -11);
        }
        Sentences.of(29, "BAD: no such SHEET, sort, n above 40; -14.");
        x.sheet(3, 3, 1);
        x.put(3, 0, 7);
        int[][] bad = {{4, 0, 1}, {-1, 0, 1}, {3, 4, 1}, {3, -2, 1}, {3, 0, 41}, {3, 0, HIGHEST}, {LOWEST, 0, 1},
            {3, LOWEST, 1}, {4, -1, 0}};
        for (int[] b : bad) {
            Sentences.is("sheet(" + b[0] + ", " + b[1] + ", " + b[2] + ")", x.sheet(b[0], b[1], b[2]), -1);
        }
        Sentences.is("n -1", x.sheet(3, 0, -1), -14);
        Sentences.is("n far below", x.sheet(3, 0, LOWEST), -14);
        Sentences.is("SHEET 4, n -1: BAD first", x.sheet(4, 0, -1), -1);
        Sentences.is("sort 4, n -1: BAD first", x.sheet(3, 4, -1), -1);
        Sentences.is("it stays", x.item(3, 3, 0), 7);
    }

    private static void put() {
        Sentences.of(30, "Item i becomes v, narrowed to its sort: 1.");
        TwoSidedTables x = new TwoSidedTables();
        long[][] narrowed = {{127, 127, 128, -128, -129, 127, 256, 0}, {32767, 32767, 32768, -32768, -32769, 32767, 65536, 0},
            {HIGHEST, HIGHEST, 1L << 31, LOWEST, -(1L << 31) - 1, HIGHEST, 1L << 32, 0}};
        for (int sort = 0; sort < 3; sort++) {
            x.sheet(0, sort, 2);
            for (int i = 0; i < 8; i += 2) {
                Sentences.is("put " + narrowed[sort][i], x.put(0, 1, narrowed[sort][i]), 1);
                Sentences.is("narrowed " + narrowed[sort][i], x.item(0, sort, 1), narrowed[sort][i + 1]);
            }
            Sentences.is("the other item", x.item(0, sort, 0), 0);
        }
        Sentences.of(30, "BAD: no such SHEET; -11; -12.");
        Sentences.is("SHEET 4", x.put(4, 0, 1), -1);
        Sentences.is("SHEET -1", x.put(-1, 0, 1), -1);
        Sentences.is("missing", x.put(1, 0, 1), -11);
        Sentences.is("missing, i -1: -11 first", x.put(1, -1, 1), -11);
        Sentences.is("i 2 of 2", x.put(0, 2, 1), -12);
        Sentences.is("i -1", x.put(0, -1, 1), -12);
        Sentences.is("far off", x.put(0, LOWEST, 1), -12);
        Sentences.is("far off", x.put(0, HIGHEST, 1), -12);
        x.sheet(0, 2, 0);
        Sentences.is("i 0 of none", x.put(0, 0, 1), -12);
    }

    private static void item() {
        Sentences.of(31, "Item i, taken for a sort (0 to 3; of longs the lowest 32 bits). BAD: no such SHEET, sort; -13; -11; "
            + "-12. (An item may be as low as these, too.)");
        TwoSidedTables x = new TwoSidedTables();
        x.sheet(0, 3, 2);
        long[][] lowest = {{1L << 32, 0}, {(1L << 32) - 1, -1}, {1L << 31, LOWEST}, {LOWEST_LONG, 0}, {HIGHEST_LONG, -1},
            {-(1L << 32) + 5, 5}};
        for (long[] v : lowest) {
            x.put(0, 1, v[0]);
            Sentences.is("of " + v[0], x.item(0, 3, 1), v[1]);
        }
        x.put(0, 0, -13);
        Sentences.is("an item of -13", x.item(0, 3, 0), -13);
        for (int sort = 0; sort < 3; sort++) {
            Sentences.is("longs taken for sort " + sort, x.item(0, sort, 1), -13);
            Sentences.is("sort ahead of the place", x.item(0, sort, 2), -13);
        }
        Sentences.is("i 2 of 2", x.item(0, 3, 2), -12);
        Sentences.is("i -1", x.item(0, 3, -1), -12);
        Sentences.is("far off", x.item(0, 3, HIGHEST), -12);
        Sentences.is("missing", x.item(1, 3, 0), -11);
        Sentences.is("missing, i -1: -11 first", x.item(1, 3, -1), -11);
        Sentences.is("SHEET 4", x.item(4, 3, 0), -1);
        Sentences.is("SHEET -1", x.item(-1, 3, 0), -1);
        Sentences.is("sort 4: BAD first", x.item(1, 4, -1), -1);
        Sentences.is("sort -1", x.item(1, -1, 0), -1);
        Sentences.is("sort far off", x.item(0, LOWEST, 0), -1);
    }

    private static void move() {
        Sentences.of(32, "n items of a SHEET from i on come to another one (or the same) from j on, as they all were: n.");
        TwoSidedTables x = new TwoSidedTables();
        Due.row(x, 0, 1, 2, 3, 4);
        Sentences.is("up over itself", x.move(0, 0, 0, 1, 3), 3);
        Sentences.items("as they all were", x, 0, 1, 1, 2, 3);
        Due.row(x, 0, 1, 2, 3, 4);
        Sentences.is("down over itself", x.move(0, 1, 0, 0, 3), 3);
        Sentences.items("as they all were", x, 0, 2, 3, 4, 4);
        Sentences.is("onto itself", x.move(0, 0, 0, 0, 4), 4);
        x.sheet(1, 2, 40);
        x.sheet(2, 2, 40);
        x.put(1, 39, 5);
        Sentences.is("forty", x.move(1, 0, 2, 0, 40), 40);
        Sentences.is("the last of forty", x.item(2, 2, 39), 5);
        Sentences.is("none, from its end on to an end", x.move(0, 4, 1, 40, 0), 0);
        Sentences.of(32, "BAD: no such SHEETS; -11: one is missing; -13: they are of unlike sorts; -12: n, i or j is below 0, "
            + "or beyond an end.");
        Due.row(x, 0, 1, 2, 3, 4);
        Due.row(x, 1, 7, 8);
        int[][] beyond = {{0, 0, -1}, {-1, 0, 1}, {0, -1, 1}, {-1, 0, 0}, {0, -1, 0}, {0, 0, 3}, {0, 1, 2}, {0, 2, 1},
            {0, 3, 0}, {4, 0, 1}, {3, 0, 2}, {5, 0, 0}, {HIGHEST, 0, 1}, {1, 0, HIGHEST}, {HIGHEST, HIGHEST, 2},
            {LOWEST, 0, 1}, {0, LOWEST, 1}, {0, 0, LOWEST}};
        for (int[] b : beyond) {
            Sentences.is("i " + b[0] + ", j " + b[1] + ", n " + b[2], x.move(0, b[0], 1, b[1], b[2]), -12);
        }
        Sentences.items("they stay", x, 1, 7, 8);
        Sentences.is("to its end", x.move(0, 2, 1, 0, 2), 2);
        x.sheet(2, 3, 4);
        Sentences.is("unlike sorts", x.move(0, 0, 2, 0, 1), -13);
        Sentences.is("unlike sorts, none: -13 all the same", x.move(0, 0, 2, 0, 0), -13);
        Sentences.is("unlike sorts, beyond: -13 first", x.move(2, 0, 0, 0, 9), -13);
        Sentences.is("missing", x.move(0, 0, 3, 0, 1), -11);
        Sentences.is("missing", x.move(3, 0, 0, 0, 1), -11);
        Sentences.is("both", x.move(3, 0, 3, 0, 0), -11);
        Sentences.is("missing, beyond: -11 first", x.move(3, 0, 0, 0, -1), -11);
        Sentences.is("SHEET 4", x.move(4, 0, 0, 0, 1), -1);
        Sentences.is("SHEET -1", x.move(-1, 0, 0, 0, 1), -1);
        Sentences.is("to SHEET 4", x.move(0, 0, 4, 0, 1), -1);
        Sentences.is("a missing one to SHEET -1: BAD first", x.move(3, 0, -1, 0, 1), -1);
    }

    private static void shelvesAtFirst() {
        Sentences.of(Sentences.TERMS, "SHELVES 0 to 3 hold an EQUATION (by its number; nothing, if there is no such one at the "
            + "time), a SHEET's row, or nothing (at first).");
        TwoSidedTables x = new TwoSidedTables();
        x.keep();
        x.equation(2, 0);
        for (int shelf = 0; shelf < 4; shelf++) {
            Sentences.is("nothing at first", x.taken(shelf, 0), -11);
            x.shelf(shelf, 0, 0);
            Sentences.is("an EQUATION", x.taken(shelf, 2), 0);
        }
        x.change(0, 1, 0);
        Sentences.is("by its number: another KIND now", x.taken(0, 2), -13);
        Sentences.is("by its number: another KIND now", x.taken(0, 1), 0);
        Sentences.is("none is left", x.again(), 0);
        Sentences.is("nothing at the time", x.taken(0, 1), -11);
        x.equation(3, 0);
        Sentences.is("there is such a one again", x.taken(0, 3), 0);
        x.sheet(0, 1, 40);
        x.shelf(0, 1, 0);
        x.sheet(0, 2, 3);
        Sentences.is("the row that the SHEET was", x.taken(0, 11), 40);
        x.sheet(0, -1, 0);
        Sentences.is("the row that the SHEET was", x.taken(0, 11), 40);
    }

    private static void shelf() {
        Sentences.of(33, "A SHELF holds EQUATION n (what 0), the row of SHEET n (1; nothing, if missing), nothing (2): 1.");
        TwoSidedTables x = new TwoSidedTables();
        for (int e = 0; e < 6; e++) {
            x.equation(0, 0);
        }
        Sentences.is("the sixth EQUATION", x.shelf(3, 0, 5), 1);
        Sentences.is("taken", x.taken(3, 0), 5);
        x.sheet(3, 0, 0);
        Sentences.is("an empty row", x.shelf(3, 1, 3), 1);
        Sentences.is("taken", x.taken(3, 10), 0);
        Sentences.is("a missing one", x.shelf(3, 1, 2), 1);
        Sentences.is("nothing", x.taken(3, 10), -11);
        int[] any = {0, 9, -1, LOWEST, HIGHEST};
        for (int n : any) {
            x.shelf(3, 0, 5);
            Sentences.is("nothing, n " + n, x.shelf(3, 2, n), 1);
            Sentences.is("nothing", x.taken(3, 0), -11);
        }
        Sentences.of(33, "BAD: no such SHELF, what, thing.");
        x.shelf(3, 0, 5);
        int[][] bad = {{4, 0, 0}, {-1, 0, 0}, {4, 2, 0}, {LOWEST, 2, 0}, {3, 3, 0}, {3, -1, 0}, {3, HIGHEST, 0}, {3, 0, 6},
            {3, 0, -1}, {3, 1, 4}, {3, 1, -1}, {3, 1, LOWEST}};
        for (int[] b : bad) {
            Sentences.is("shelf(" + b[0] + ", " + b[1] + ", " + b[2] + ")", x.shelf(b[0], b[1], b[2]), -1);
        }
        Sentences.is("it stays", x.taken(3, 0), 5);
    }

    private static void taken() {
        Sentences.of(34, "taken for an EQUATION of KIND as (0 to 6, or one under it): its number; for a row of sort as - 10 (as "
            + "10 to 13): how many items.");
        // which KINDS an EQUATION of a KIND is taken for, as a set
        int[] sets = {1, 3, 5, 9, 21, 41, 105};
        for (int kind = 0; kind < 7; kind++) {
            TwoSidedTables x = new TwoSidedTables();
            x.equation(0, 0);
            x.equation(kind, 0);
            x.shelf(0, 0, 1);
            for (int as = 0; as < 7; as++) {
                Sentences.is("KIND " + kind + " taken for " + as, x.taken(0, as), (sets[kind] >> as & 1) == 1 ? 1 : -13);
            }
            for (int as = 10; as < 14; as++) {
                Sentences.is("KIND " + kind + " taken for a row, " + as, x.taken(0, as), -13);
            }
        }
        for (int sort = 0; sort < 4; sort++) {
            TwoSidedTables x = new TwoSidedTables();
            x.equation(0, 0);
            x.sheet(0, sort, 30 + sort);
            x.shelf(0, 1, 0);
            for (int as = 10; as < 14; as++) {
                Sentences.is("sort " + sort + " taken for " + as, x.taken(0, as), as == 10 + sort ? 30 + sort : -13);
            }
            for (int as = 0; as < 7; as++) {
                Sentences.is("sort " + sort + " taken for KIND " + as, x.taken(0, as), -13);
            }
        }
        Sentences.of(34, "BAD: no such SHELF, as; -13; -11.");
        TwoSidedTables x = new TwoSidedTables();
        int[] bad = {-1, 7, 8, 9, 14, LOWEST, HIGHEST, LOWEST + 10};
        for (int as : bad) {
            Sentences.is("as " + as + ": BAD ahead of -11", x.taken(0, as), -1);
        }
        Sentences.is("SHELF 4", x.taken(4, 0), -1);
        Sentences.is("SHELF -1", x.taken(-1, 0), -1);
        Sentences.is("nothing", x.taken(3, 6), -11);
        Sentences.is("nothing", x.taken(3, 13), -11);
    }

    /** An object with an EQUATION of a KIND and a SHIFT as number e, on SHELF 0; others are plain. */
    private static TwoSidedTables actor(int kind, int e, int shift) {
        TwoSidedTables x = new TwoSidedTables();
        for (int i = 0; i < e; i++) {
            x.equation(0, 0);
        }
        x.equation(kind, shift);
        x.shelf(0, 0, e);
        return x;
    }

    private static void acts() {
        Sentences.of(Sentences.TERMS, "ACTS of an EQUATION by its KIND, with a number x (ints that wrap)");
        // 7 times 613566757 is 3 more than 2 to the 32nd
        Sentences.is("10 wraps", actor(0, 2, 0).act(0, 0, 613566757), 5);
        Sentences.is("11 wraps below", actor(0, 0, 1).act(0, 1, LOWEST), HIGHEST);
        Sentences.is("12 wraps: the lowest by -1", actor(0, 0, 1).act(0, 2, LOWEST), LOWEST);
        Sentences.is("13 wraps: x + 2", actor(0, 0, -1).act(0, 3, HIGHEST), (HIGHEST - 6 + 1) ^ (LOWEST + 1));
        Sentences.is("20 wraps: 4 more", actor(1, 5, 0).act(0, 0, HIGHEST), LOWEST + 2);
        Sentences.is("30 wraps: 0 less the lowest", actor(2, 0, 0).act(0, 1, LOWEST), LOWEST);
        Sentences.is("40 wraps: x - 1, times 2", actor(3, 3, 0).act(0, 0, LOWEST), -8);
        // 50: x + s is the lowest; 0 less what it weighs, less s
        Sentences.is("50 wraps: x + s", actor(4, 0, 2).act(0, 1, HIGHEST - 1), (0 - (LOWEST - 2)) ^ 3);
        Sentences.is("71 wraps: x times 2", actor(6, 5, 2).act(0, 3, 1 << 30), 715827947);
        Sentences.is("70: 10 ^ -2", actor(6, 5, -2).act(0, 0, 1), -12);
        Sentences.of(Sentences.TERMS, "12 parts: x by (n - s), cut (-15 if that is 0; that is all that act() answers then)");
        Sentences.is("7 by 2", actor(0, 3, 1).act(0, 2, 7), 3);
        Sentences.is("-7 by 2", actor(0, 3, 1).act(0, 2, -7), -3);
        Sentences.is("7 by -2", actor(0, 0, 2).act(0, 2, 7), -3);
        Sentences.is("-7 by -2", actor(0, 0, 2).act(0, 2, -7), 3);
        Sentences.is("0 by -2", actor(0, 0, 2).act(0, 2, 0), 0);
        for (int e = 0; e <= 2; e++) {
            for (int kind = 0; kind < 7; kind++) {
                TwoSidedTables x = actor(kind, e, e);
                Sentences.is("parts by 0, KIND " + kind, x.act(0, 2, 5), -15);
                Sentences.is("closes by 0, KIND " + kind, x.act(0, 3, 5), -15);
            }
        }
        Sentences.is("0 by 0", actor(0, 0, 0).act(0, 2, 0), -15);
        TwoSidedTables again = actor(0, 1, 1);
        Sentences.is("by 0", again.act(0, 2, 6), -15);
        again.change(1, 0, -1);
        Sentences.is("by 2 after it", again.act(0, 2, 6), 3);
        Sentences.is("weighs doesn't part", actor(0, 0, 0).act(0, 0, 5), 35);
        Sentences.is("turns doesn't part", actor(0, 0, 0).act(0, 1, 5), 35);
        Sentences.is("-15 as any other number", actor(0, 5, 0).act(0, 0, -1227133516), -15);
    }

    private static void act() {
        Sentences.of(35, "An ACT (0 to 3) of the EQUATION on a SHELF, with x. 0, and no TRACE then: no such SHELF, act, nothing, "
            + "a row.");
        TwoSidedTables x = actor(0, 3, 1);
        x.sheet(0, 2, 4);
        x.shelf(1, 1, 0);
        int[] due = {73, 72, 5, 72 ^ 6};
        for (int act = 0; act < 4; act++) {
            Sentences.is("act " + act, x.act(0, act, 10), due[act]);
        }
        int[][] none = {{0, 4}, {0, -1}, {4, 0}, {-1, 0}, {1, 0}, {2, 0}, {3, 3}, {LOWEST, 0}, {0, HIGHEST}};
        for (int[] n : none) {
            x.act(0, 3, 10);
            Sentences.is("bodies", x.many(4), 4);
            Sentences.is("SHELF " + n[0] + ", act " + n[1], x.act(n[0], n[1], 10), 0);
            Sentences.is("no TRACE", x.many(4), 0);
            Sentences.is("no TRACE", x.trace(0), -3);
        }
        x = new TwoSidedTables();
        x.keep();
        x.equation(0, 0);
        x.shelf(0, 0, 0);
        x.act(0, 0, 1);
        x.again();
        Sentences.is("no such EQUATION at the time", x.act(0, 0, 1), 0);
        Sentences.is("no TRACE", x.many(4), 0);
    }

    private static void bodies(TwoSidedTables x, int... due) {
        Sentences.is("many(4)", x.many(4), due.length);
        for (int i = 0; i < due.length; i++) {
            Sentences.is("trace(" + i + ")", x.trace(i), due[i]);
        }
        Sentences.is("trace beyond", x.trace(due.length), -3);
    }

    private static void trace() {
        Sentences.of(Sentences.TERMS, "THE TRACE: numbers of the bodies that ran in the latest act(), as they began (left "
            + "first); the first 30 are kept.");
        TwoSidedTables x = actor(6, 5, 0);
        x.act(0, 3, 1);
        // the most bodies that there are: fewer than 30
        bodies(x, 71, 60, 13, 11, 70, 40, 10, 41, 12, 70, 40, 10, 11, 70, 40, 10);
        x.act(0, 2, 1);
        bodies(x, 41, 12, 70, 40, 10);
        x.act(0, 0, 1);
        bodies(x, 70, 40, 10);
        x = actor(5, 1, 1);
        Sentences.is("closes by 0", x.act(0, 3, 1), -15);
        bodies(x, 60, 13, 11, 40, 10, 41, 12);
        x = actor(4, 0, 0);
        x.act(0, 1, 1);
        bodies(x, 50, 30, 11, 10);
        x = actor(1, 1, 0);
        x.act(0, 3, 1);
        bodies(x, 13, 11, 20, 10, 12);
        Sentences.of(36, "THE TRACE's i-th body. NONE.");
        Sentences.is("trace(0)", x.trace(0), 13);
        Sentences.is("trace(4)", x.trace(4), 12);
        int[] none = {5, -1, 29, 30, 31, LOWEST, HIGHEST};
        for (int i : none) {
            Sentences.is("trace(" + i + ")", x.trace(i), -3);
        }
        Sentences.is("ahead of any act", new TwoSidedTables().trace(0), -3);
    }

    private static void many() {
        Sentences.of(37, "4 bodies of THE TRACE (those kept, 30 at most), 5 EQUATIONS that FIT, as a set, 6 at which s (1 to m - "
            + "1) A SPLITS, as a set. BAD: another what.");
        TwoSidedTables x = new TwoSidedTables();
        int[] due = {2, 2, 0, 0, 0, 0, 2};
        for (int what = 0; what < 7; what++) {
            Sentences.is("many(" + what + ") at first", x.many(what), due[what]);
        }
        int[] bad = {-1, 7, 8, LOWEST, HIGHEST};
        for (int what : bad) {
            Sentences.is("many(" + what + ")", x.many(what), -1);
        }
        for (int e = 0; e < 6; e++) {
            x.equation(e + 1, 0);
        }
        Due.feed(x, "abc");
        x.shelf(0, 0, 5);
        x.act(0, 3, 1);
        x.size(3, 3);
        due = new int[] {3, 3, 6, 3, 16, 56, 6};
        for (int what = 0; what < 7; what++) {
            Sentences.is("many(" + what + ")", x.many(what), due[what]);
        }
        x.size(1, 2);
        Sentences.is("just left FITS", x.many(5), 1);
        Sentences.is("no s", x.many(6), 0);
        x.size(1, 1);
        Sentences.is("all six FIT", x.many(5), 63);
        x.size(2, 3);
        x.set(0, 1, 0, 1);
        Sentences.is("A doesn't SPLIT", x.many(6), 0);
    }

    private static void keepAndAgain() {
        Sentences.of(38, "A, B, C (m, n), EQUATIONS, z are kept: 1.");
        TwoSidedTables x = Due.told(3, 2, "a 1 1 1,1 1 1,1 1 4;b 1 1,1 5;c 1 1,1 1,1 50;");
        for (int e = 0; e < 6; e++) {
            x.equation(e, e % 5 - 2);
        }
        x.seed(LOWEST);
        Sentences.is("keep()", x.keep(), 1);
        for (int e = 0; e < 6; e++) {
            x.change(e, 6, 2);
        }
        x.seed(3);
        x.size(1, 1);
        Sentences.is("again()", x.again(), 6);
        Sentences.is("m", x.many(0), 3);
        Sentences.is("n", x.many(1), 2);
        Sentences.is("A's last", x.at(0, 2, 2), 104);
        Sentences.is("B's last", x.at(1, 1, 1), 105);
        Sentences.is("C's last", x.at(2, 2, 1), 150);
        for (int e = 0; e < 6; e++) {
            Sentences.is("KIND of " + e, x.of(e, 0), e);
            Sentences.is("SHIFT of " + e, x.of(e, 1), 8 + e % 5);
        }
        Sentences.is("z", x.seed(0), LOWEST);
        x = new TwoSidedTables();
        Sentences.is("keep() of a new one", x.keep(), 1);
        x.equation(0, 0);
        Sentences.is("again()", x.again(), 0);
        Sentences.of(39, "They become what was kept latest (which stays): how many EQUATIONS. NONE: nothing is kept.");
        x = new TwoSidedTables();
        Sentences.is("nothing is kept", x.again(), -3);
        x.equation(0, 0);
        Sentences.is("nothing is kept", x.again(), -3);
        Sentences.is("what is there stays", x.many(2), 1);
        x.keep();
        x.equation(1, 1);
        x.keep();
        x.equation(2, 2);
        for (int i = 0; i < 3; i++) {
            Sentences.is("the latest, again and again", x.again(), 2);
            x.set(2, 1, 1, 9);
            x.change(0, 6, 2);
            x.seed(i);
        }
        x.again();
        Sentences.is("which stays: C", x.at(2, 1, 1), 100);
        Sentences.is("which stays: a KIND", x.of(0, 0), 0);
        Sentences.is("which stays: z", x.seed(1), 1);
    }
}
