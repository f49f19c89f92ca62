import java.util.Arrays;

/** Tables with an unknown on two sides, over fractions. README.md tells how it is used. */
public final class TwoSidedTables {
    public static final int BAD = -1, FULL = -2, NONE = -3, STATE = -4;

    private static final int NOTHING = -11, OUTSIDE = -12, OF_OTHER_SORT = -13;
    private static final int BELOW_0 = -14, PARTED_BY_0 = -15, NO_NUMBER = -16;
    private static final long FAR = 4000000000000000000L;
    private static final long LOWEST = 1L << 63;

    private static final int A = 0, B = 1, C = 2;
    private static final int PLAIN = 0, LEFT = 1, ALIKE = 2, TURNED = 3, LEVEL = 4, EVEN = 5, ODD = 6;
    private static final int KINDS = 7, MOST_SHIFT = 2;

    private static final int MOST_SIDE = 3, MOST_PLACES = 9, MOST_UNKNOWNS = 6, MOST_EQUATIONS = 6;
    private static final int MOST_BYTES = 200, MOST_BODIES = 30, MOST_LOTS = 30;
    private static final int SHEETS = 4, SHELVES = 4, MOST_ITEMS = 40;
    private static final int MISSING = -1, INTS = 2, LONGS = 3;
    private static final int HOLDS_EQUATION = 0, HOLDS_ROW = 1, HOLDS_NOTHING = 2;

    private final State now = new State();
    private final State kept = new State();
    private final State spare = new State();
    private boolean isKept;
    private final Grid grid = new Grid();
    private final Grid witnessGrid = new Grid();
    private final Tape tape = new Tape();
    private final Acts acts = new Acts();
    private final Sheet[] sheets = new Sheet[SHEETS];
    private final Shelf[] shelves = new Shelf[SHELVES];

    public TwoSidedTables() {
        for (int i = 0; i < SHEETS; i++) {
            sheets[i] = new Sheet();
        }
        for (int i = 0; i < SHELVES; i++) {
            shelves[i] = new Shelf();
        }
    }

    // ---- tables

    public int size(int m, int n) {
        if (m < 1 || m > MOST_SIDE || n < 1 || n > MOST_SIDE) {
            return BAD;
        }
        int was = 10 * now.m + now.n;
        now.resize(m, n);
        return was;
    }

    public int set(int table, int i, int j, int v) {
        if (!now.hasEntry(table, i, j) || v < -reach(table) || v > reach(table)) {
            return BAD;
        }
        int was = now.entry(table, i, j);
        now.store(table, i, j, v);
        return 100 + was;
    }

    public int at(int table, int i, int j) {
        return now.hasEntry(table, i, j) ? 100 + now.entry(table, i, j) : BAD;
    }

    public long det(int table) {
        if (table != A && table != B) {
            return far(BAD);
        }
        return now.minors(table, now.rows(table));
    }

    public long diagonal(int table) {
        if (table != A && table != B && table != C) {
            return far(BAD);
        }
        if (table == C && now.m != now.n) {
            return far(STATE);
        }
        return now.minors(table, 1);
    }

    public long character(int table, int k) {
        if (table != A && table != B || k < 0 || k > now.rows(table)) {
            return far(BAD);
        }
        int order = now.rows(table) - k;
        long minors = now.minors(table, order);
        return order % 2 == 0 ? minors : -minors;
    }

    public int feed(long eight, int n) {
        if (n < 1 || n > 8) {
            return BAD;
        }
        if (tape.count + n > MOST_BYTES) {
            return FULL;
        }
        for (int i = 0; i < n; i++) {
            tape.take((byte) (eight >>> 8 * i));
        }
        return tape.count;
    }

    public int text() {
        // told into a copy, for a text with a FAULT must change no table
        spare.copyFrom(now);
        int answer = tape.tell(spare);
        if (answer >= 0) {
            now.copyFrom(spare);
        }
        tape.count = 0;
        return answer;
    }

    // ---- equations

    public int equation(int kind, int shift) {
        if (!isKind(kind) || !isShift(shift)) {
            return BAD;
        }
        if (now.count >= MOST_EQUATIONS) {
            return FULL;
        }
        now.count++;
        now.become(now.count - 1, kind, shift);
        return now.count - 1;
    }

    public int of(int e, int what) {
        if (!now.hasEquation(e) || what < 0 || what > 6) {
            return BAD;
        }
        int kind = now.kindOf(e);
        if (what == 0) {
            return kind;
        }
        if (what == 1) {
            return 10 + now.shiftOf(e);
        }
        if (what == 2) {
            return now.fits(kind) ? 1 : 0;
        }
        if (what == 3) {
            return now.hasRight(kind) ? now.unknowns(kind) : STATE;
        }
        if (!now.fits(kind)) {
            return STATE;
        }
        solve(e);
        if (what == 4) {
            return grid.rank;
        }
        return what == 5 ? grid.freeSet() : oneIf(grid.isSolvable());
    }

    public int change(int e, int kind, int shift) {
        if (!now.hasEquation(e) || !isKind(kind) || !isShift(shift)) {
            return BAD;
        }
        int was = now.kindOf(e);
        now.become(e, kind, shift);
        return was;
    }

    public long right(int e, int i, int j) {
        if (!now.hasEquation(e) || !now.hasEntry(B, i, j)) {
            return far(BAD);
        }
        if (!now.hasRight(now.kindOf(e))) {
            return far(STATE);
        }
        return now.rightEntry(now.kindOf(e), i, j);
    }

    public long solution(int e, int i, int j, int part) {
        if (!now.hasEquation(e) || !now.hasEntry(C, i, j) || !isPart(part)) {
            return far(BAD);
        }
        if (!now.fits(now.kindOf(e))) {
            return far(STATE);
        }
        solve(e);
        if (!grid.isSolvable()) {
            return far(NONE);
        }
        return fractionPart(solutionAbove(now.kindOf(e), i, j), grid.below, part);
    }

    public long base(int e, int u, int i, int j, int part) {
        if (!now.hasEquation(e) || u < 0 || u >= MOST_PLACES || !now.hasEntry(C, i, j) || !isPart(part)) {
            return far(BAD);
        }
        int kind = now.kindOf(e);
        if (!now.fits(kind)) {
            return far(STATE);
        }
        solve(e);
        if (!grid.isFree(u)) {
            return far(NONE);
        }
        long above = now.signAt(kind, i, j) * grid.baseAbove(u, now.unknownAt(kind, i, j));
        return fractionPart(above, grid.below, part);
    }

    public long witness(int e, int i, int j, int part) {
        if (!now.hasEquation(e) || !now.hasEntry(C, i, j) || !isPart(part)) {
            return far(BAD);
        }
        int kind = now.kindOf(e);
        if (!now.fits(kind)) {
            return far(STATE);
        }
        fillGrid(kind, kind, now.shiftOf(e), 0);
        witnessGrid.fillTurned(grid);
        grid.eliminate();
        if (grid.isSolvable()) {
            return far(NONE);
        }
        witnessGrid.eliminate();
        return fractionPart(witnessGrid.solutionAbove(i * now.n + j), witnessGrid.below, part);
    }

    public int similar(int e) {
        if (!now.hasEquation(e)) {
            return BAD;
        }
        if (!isSmallWhole(e)) {
            return STATE;
        }
        // Roth: the two tables are SIMILAR just if some X, of any shape, has C as its SUM
        fillGrid(now.kindOf(e), PLAIN, now.shiftOf(e), 0);
        grid.eliminate();
        return oneIf(grid.isSolvable());
    }

    public long whole(int e) {
        if (!now.hasEquation(e)) {
            return far(BAD);
        }
        if (!isSmallWhole(e)) {
            return far(STATE);
        }
        fillGrid(now.kindOf(e), PLAIN, now.shiftOf(e), 0);
        grid.eliminate();
        return grid.determinant();
    }

    public int lower(int e, int s) {
        if (!now.hasEquation(e) || s < 1 || s > 2) {
            return BAD;
        }
        if (!now.splits(s) || !now.hasRight(now.kindOf(e)) || (now.m - s) * now.n > MOST_UNKNOWNS) {
            return STATE;
        }
        fillGrid(now.kindOf(e), PLAIN, now.shiftOf(e), s);
        grid.eliminate();
        return oneIf(grid.isSolvable());
    }

    public int swapped() {
        if (now.m != now.n) {
            return STATE;
        }
        // Shoda, Albert and Muckenhoupt: just the tables whose diagonal is 0 together are such
        return oneIf(now.minors(C, 1) == 0);
    }

    public int stable() {
        // Lyapunov: such an X is there just if each root of CHARACTER is left of 0; Hurwitz tells when
        long first = -now.minors(A, 1);
        long second = now.minors(A, 2);
        long third = -now.minors(A, 3);
        if (now.m == 1) {
            return oneIf(first > 0);
        }
        if (now.m == 2) {
            return oneIf(first > 0 && second > 0);
        }
        return oneIf(first > 0 && third > 0 && first * second > third);
    }

    // ---- whole numbers, readers

    public int lay(int e, int sheet) {
        if (!now.hasEquation(e) || !isSheet(sheet)) {
            return BAD;
        }
        int kind = now.kindOf(e);
        if (!now.fits(kind)) {
            return STATE;
        }
        solve(e);
        if (!grid.isSolvable()) {
            return NONE;
        }
        long divisor = solutionDivisor(kind);
        if (divisor == 0 || !isLaidInInts(kind, divisor)) {
            return NO_NUMBER;
        }
        Sheet row = sheets[sheet];
        row.renew(INTS, now.m * now.n);
        for (int i = 0; i < now.m; i++) {
            for (int j = 0; j < now.n; j++) {
                row.write(i * now.n + j, solutionAbove(kind, i, j) / divisor);
            }
        }
        return (int) (grid.below / divisor);
    }

    public int judge(int e, int sheet, int d) {
        if (!now.hasEquation(e) || !isSheet(sheet) || d < 1) {
            return BAD;
        }
        int kind = now.kindOf(e);
        if (!now.hasRight(kind)) {
            return STATE;
        }
        Sheet x = sheets[sheet];
        int refusal = unreadable(x);
        if (refusal != 0) {
            return refusal;
        }
        int wrong = firstWrong(kind, now.shiftOf(e), x, d);
        return wrong == now.m * now.n && isOfShape(kind, x) ? 0 : 1 + wrong;
    }

    public int kinds(int sheet, int shift) {
        if (!isSheet(sheet) || !isShift(shift)) {
            return BAD;
        }
        Sheet x = sheets[sheet];
        int refusal = unreadable(x);
        if (refusal != 0) {
            return refusal;
        }
        int set = 0;
        for (int kind = 0; kind < KINDS; kind++) {
            if (now.hasRight(kind) && isOfShape(kind, x) && firstWrong(kind, shift, x, 1) == now.m * now.n) {
                set |= 1 << kind;
            }
        }
        return set;
    }

    public long ratio(long above, long below, int part) {
        if (!isPart(part)) {
            return far(BAD);
        }
        return fractionPart(above, below, part);
    }

    // ---- lots

    public int seed(int v) {
        int was = now.z;
        now.z = v;
        return was;
    }

    public int lot() {
        now.draw();
        return 100 + now.entry(C, 0, 0);
    }

    public int times(int e, int n) {
        if (!now.hasEquation(e) || n < 1 || n > MOST_LOTS) {
            return BAD;
        }
        if (!now.fits(now.kindOf(e))) {
            return STATE;
        }
        spare.copyFrom(now);
        int solved = 0;
        for (int i = 0; i < n; i++) {
            now.draw();
            solve(e);
            solved += oneIf(grid.isSolvable());
        }
        spare.z = now.z;
        now.copyFrom(spare);
        return solved;
    }

    // ---- the host

    public int sheet(int sheet, int sort, int n) {
        if (!isSheet(sheet) || sort != MISSING && (!isSort(sort) || n > MOST_ITEMS)) {
            return BAD;
        }
        if (sort != MISSING && n < 0) {
            return BELOW_0;
        }
        sheets[sheet].renew(sort, sort == MISSING ? 0 : n);
        return 1;
    }

    public int put(int sheet, int i, long v) {
        if (!isSheet(sheet)) {
            return BAD;
        }
        Sheet row = sheets[sheet];
        if (row.sort == MISSING) {
            return NOTHING;
        }
        if (i < 0 || i >= row.length) {
            return OUTSIDE;
        }
        row.write(i, v);
        return 1;
    }

    public int item(int sheet, int sort, int i) {
        if (!isSheet(sheet) || !isSort(sort)) {
            return BAD;
        }
        Sheet row = sheets[sheet];
        if (row.sort == MISSING) {
            return NOTHING;
        }
        if (row.sort != sort) {
            return OF_OTHER_SORT;
        }
        return i < 0 || i >= row.length ? OUTSIDE : (int) row.read(i);
    }

    public int move(int sheet, int i, int other, int j, int n) {
        if (!isSheet(sheet) || !isSheet(other)) {
            return BAD;
        }
        Sheet from = sheets[sheet];
        Sheet to = sheets[other];
        if (from.sort == MISSING || to.sort == MISSING) {
            return NOTHING;
        }
        if (from.sort != to.sort) {
            return OF_OTHER_SORT;
        }
        if (!from.hasStretch(i, n) || !to.hasStretch(j, n)) {
            return OUTSIDE;
        }
        System.arraycopy(from.items, i, to.items, j, n);
        return n;
    }

    public int shelf(int shelf, int what, int n) {
        if (!isShelf(shelf)) {
            return BAD;
        }
        if (what == HOLDS_EQUATION && now.hasEquation(n)) {
            shelves[shelf].hold(HOLDS_EQUATION, n, 0);
            return 1;
        }
        if (what == HOLDS_ROW && isSheet(n)) {
            Sheet row = sheets[n];
            shelves[shelf].hold(row.sort == MISSING ? HOLDS_NOTHING : HOLDS_ROW, row.length, row.sort);
            return 1;
        }
        if (what == HOLDS_NOTHING) {
            shelves[shelf].hold(HOLDS_NOTHING, 0, 0);
            return 1;
        }
        return BAD;
    }

    public int taken(int shelf, int as) {
        boolean asRow = as >= 10 && isSort(as - 10);
        if (!isShelf(shelf) || !isKind(as) && !asRow) {
            return BAD;
        }
        Shelf place = shelves[shelf];
        int held = heldNow(place);
        if (held == HOLDS_NOTHING) {
            return NOTHING;
        }
        boolean fitting;
        if (held == HOLDS_ROW) {
            fitting = asRow && place.sort == as - 10;
        } else {
            fitting = !asRow && isUnder(now.kindOf(place.number), as);
        }
        return fitting ? place.number : OF_OTHER_SORT;
    }

    public int act(int shelf, int act, int x) {
        acts.forget();
        if (!isShelf(shelf) || act < 0 || act > 3 || heldNow(shelves[shelf]) != HOLDS_EQUATION) {
            return 0;
        }
        int e = shelves[shelf].number;
        acts.kind = now.kindOf(e);
        acts.number = e;
        acts.shift = now.shiftOf(e);
        return acts.run(act, x);
    }

    public int trace(int i) {
        return i >= 0 && i < acts.count && i < MOST_BODIES ? acts.bodies[i] : NONE;
    }

    public int many(int what) {
        switch (what) {
            case 0:
                return now.m;
            case 1:
                return now.n;
            case 2:
                return now.count;
            case 3:
                return tape.count;
            case 4:
                return acts.count;
            case 5:
                return now.fittingSet();
            case 6:
                return now.splitSet();
            default:
                return BAD;
        }
    }

    // ---- kept

    public int keep() {
        kept.copyFrom(now);
        isKept = true;
        return 1;
    }

    public int again() {
        if (!isKept) {
            return NONE;
        }
        now.copyFrom(kept);
        return now.count;
    }

    // ---- what the calls above share

    private static long far(int refusal) {
        return refusal - FAR;
    }

    private static int oneIf(boolean so) {
        return so ? 1 : 0;
    }

    private static boolean isKind(int kind) {
        return kind >= 0 && kind < KINDS;
    }

    private static boolean isShift(int shift) {
        return shift >= -MOST_SHIFT && shift <= MOST_SHIFT;
    }

    private static boolean isPart(int part) {
        return part == 0 || part == 1;
    }

    private static boolean isSheet(int sheet) {
        return sheet >= 0 && sheet < SHEETS;
    }

    private static boolean isShelf(int shelf) {
        return shelf >= 0 && shelf < SHELVES;
    }

    private static boolean isSort(int sort) {
        return sort >= 0 && sort <= LONGS;
    }

    /** How far from 0 an entry of a table may be. */
    private static int reach(int table) {
        return table == C ? 50 : 5;
    }

    private static boolean isUnder(int kind, int upper) {
        int at = kind;
        for (int step = 0; step < KINDS && at >= 0 && at != upper; step++) {
            at = kindAbove(at);
        }
        return at == upper;
    }

    private static int kindAbove(int kind) {
        switch (kind) {
            case PLAIN:
                return -1;
            case LEVEL:
                return ALIKE;
            case EVEN:
                return TURNED;
            case ODD:
                return EVEN;
            default:
                return PLAIN;
        }
    }

    /** The greatest common divisor, with the sign of y; 0 only if both are 0. */
    private static long commonDivisor(long x, long y) {
        // reckoned below 0, where the lowest long has its place too
        long p = x > 0 ? -x : x;
        long q = y > 0 ? -y : y;
        for (int step = 0; step < 200 && q != 0; step++) {
            long rest = p % q;
            p = q;
            q = rest;
        }
        return y > 0 ? -p : p;
    }

    private static long fractionPart(long above, long below, int part) {
        long divisor = commonDivisor(above, below);
        if (below == 0 || divisor == 0) {
            return far(PARTED_BY_0);
        }
        if (divisor == -1 && (above == LOWEST || below == LOWEST)) {
            return far(NO_NUMBER);
        }
        return (part == 0 ? above : below) / divisor;
    }

    private int heldNow(Shelf place) {
        if (place.holds == HOLDS_EQUATION && !now.hasEquation(place.number)) {
            return HOLDS_NOTHING;
        }
        return place.holds;
    }

    private boolean isSmallWhole(int e) {
        return now.hasRight(now.kindOf(e)) && now.m * now.n <= MOST_UNKNOWNS;
    }

    private void solve(int e) {
        int kind = now.kindOf(e);
        fillGrid(kind, kind, now.shiftOf(e), 0);
        grid.eliminate();
    }

    /** THE SUM with RIGHT of kind, in the rows from first on, of an X of a kind's SHAPE; C beside it. */
    private void fillGrid(int kind, int shape, int shift, int first) {
        int n = now.n;
        int columns = now.unknowns(shape) - first * n;
        grid.clear((now.m - first) * n, columns);
        for (int i = first; i < now.m; i++) {
            for (int j = 0; j < n; j++) {
                grid.add((i - first) * n + j, columns, now.entry(C, i, j));
                fillRow(kind, shape, shift, first, i, j);
            }
        }
    }

    private void fillRow(int kind, int shape, int shift, int first, int i, int j) {
        int row = (i - first) * now.n + j;
        for (int k = first; k < now.m; k++) {
            for (int l = 0; l < now.n; l++) {
                int sign = now.signAt(shape, k, l);
                if (sign != 0 && (l == j || k == i)) {
                    int unknown = now.unknownAt(shape, k, l) - first * now.n;
                    int share = l == j ? now.leftEntry(shift, i, k) : 0;
                    share += k == i ? now.rightEntry(kind, l, j) : 0;
                    grid.add(row, unknown, sign * share);
                }
            }
        }
    }

    /** What stands above grid.below at i, j of THE SOLUTION. */
    private long solutionAbove(int kind, int i, int j) {
        return now.signAt(kind, i, j) * grid.solutionAbove(now.unknownAt(kind, i, j));
    }

    /** What parts grid.below and all that stands above it into SCALE and whole numbers. */
    private long solutionDivisor(int kind) {
        long divisor = grid.below;
        for (int i = 0; i < now.m; i++) {
            for (int j = 0; j < now.n; j++) {
                divisor = commonDivisor(solutionAbove(kind, i, j), divisor);
            }
        }
        return divisor;
    }

    private boolean isLaidInInts(int kind, long divisor) {
        if (divisor == 0 || !isInt(grid.below / divisor)) {
            return false;
        }
        for (int i = 0; i < now.m; i++) {
            for (int j = 0; j < now.n; j++) {
                if (!isInt(solutionAbove(kind, i, j) / divisor)) {
                    return false;
                }
            }
        }
        return true;
    }

    private static boolean isInt(long v) {
        return v == (int) v;
    }

    /** Why a sheet can't be read as an X, or 0. */
    private int unreadable(Sheet x) {
        if (x.sort == MISSING) {
            return NOTHING;
        }
        if (x.sort != INTS) {
            return OF_OTHER_SORT;
        }
        return x.length == now.m * now.n ? 0 : OUTSIDE;
    }

    /** The first PLACE at which THE SUM of x by d is not C, or m times n. */
    private int firstWrong(int kind, int shift, Sheet x, int d) {
        for (int i = 0; i < now.m; i++) {
            for (int j = 0; j < now.n; j++) {
                if (sumAt(kind, shift, x, i, j) != (long) d * now.entry(C, i, j)) {
                    return i * now.n + j;
                }
            }
        }
        return now.m * now.n;
    }

    private long sumAt(int kind, int shift, Sheet x, int i, int j) {
        long sum = 0;
        for (int k = 0; k < now.m; k++) {
            sum += now.leftEntry(shift, i, k) * x.read(k * now.n + j);
        }
        for (int k = 0; k < now.n; k++) {
            sum += x.read(i * now.n + k) * now.rightEntry(kind, k, j);
        }
        return sum;
    }

    private boolean isOfShape(int kind, Sheet x) {
        if (kind != LEVEL && kind != EVEN && kind != ODD) {
            return true;
        }
        for (int i = 0; i < now.m; i++) {
            for (int j = 0; j < now.n; j++) {
                long entry = x.read(i * now.n + j);
                long across = x.read(j * now.n + i);
                boolean fitting = kind == LEVEL ? i == j || entry == 0
                    : kind == EVEN ? entry == across : entry == -across;
                if (!fitting) {
                    return false;
                }
            }
        }
        return true;
    }

    /** What keep() keeps: the tables, the EQUATIONS, and z that lots come from. */
    private static final class State {
        int m = 2;
        int n = 2;
        int z = 1;
        int count;
        final int[] a = new int[MOST_PLACES];
        final int[] b = new int[MOST_PLACES];
        final int[] c = new int[MOST_PLACES];
        final int[] kindList = new int[MOST_EQUATIONS];
        final int[] shiftList = new int[MOST_EQUATIONS];

        void copyFrom(State other) {
            m = other.m;
            n = other.n;
            z = other.z;
            count = other.count;
            System.arraycopy(other.a, 0, a, 0, MOST_PLACES);
            System.arraycopy(other.b, 0, b, 0, MOST_PLACES);
            System.arraycopy(other.c, 0, c, 0, MOST_PLACES);
            System.arraycopy(other.kindList, 0, kindList, 0, MOST_EQUATIONS);
            System.arraycopy(other.shiftList, 0, shiftList, 0, MOST_EQUATIONS);
        }

        void resize(int newM, int newN) {
            m = newM;
            n = newN;
            Arrays.fill(a, 0);
            Arrays.fill(b, 0);
            Arrays.fill(c, 0);
        }

        int rows(int table) {
            return table == B ? n : m;
        }

        int columns(int table) {
            return table == A ? m : n;
        }

        boolean hasEntry(int table, int i, int j) {
            return table >= A && table <= C && i >= 0 && i < rows(table) && j >= 0 && j < columns(table);
        }

        private static boolean isRoom(int i, int j) {
            return i >= 0 && i < MOST_SIDE && j >= 0 && j < MOST_SIDE;
        }

        /** Of a table as large as can be: 0 where the table has no entry. */
        int entry(int table, int i, int j) {
            int[] entries = table == A ? a : table == B ? b : c;
            return isRoom(i, j) ? entries[i * MOST_SIDE + j] : 0;
        }

        void store(int table, int i, int j, int v) {
            int[] entries = table == A ? a : table == B ? b : c;
            if (isRoom(i, j)) {
                entries[i * MOST_SIDE + j] = v;
            }
        }

        /** All determinants of order rows and the same columns of a table, together. */
        long minors(int table, int order) {
            switch (order) {
                case 0:
                    return 1;
                case 1:
                    return entry(table, 0, 0) + entry(table, 1, 1) + entry(table, 2, 2);
                case 2:
                    return minor(table, 0, 1) + minor(table, 0, 2) + minor(table, 1, 2);
                default:
                    return largestMinor(table);
            }
        }

        private long minor(int table, int i, int j) {
            return entry(table, i, i) * entry(table, j, j) - entry(table, i, j) * entry(table, j, i);
        }

        private long largestMinor(int table) {
            long sum = 0;
            for (int j = 0; j < MOST_SIDE; j++) {
                int next = (j + 1) % MOST_SIDE;
                int last = (j + 2) % MOST_SIDE;
                sum += entry(table, 0, j) * (entry(table, 1, next) * entry(table, 2, last)
                    - entry(table, 1, last) * entry(table, 2, next));
            }
            return sum;
        }

        void draw() {
            drawTable(A);
            drawTable(B);
            drawTable(C);
        }

        private void drawTable(int table) {
            for (int i = 0; i < rows(table); i++) {
                for (int j = 0; j < columns(table); j++) {
                    z = z * 1103515245 + 12345;
                    store(table, i, j, table == C ? (z >>> 16) % 101 - 50 : (z >>> 16) % 11 - 5);
                }
            }
        }

        boolean hasEquation(int e) {
            return e >= 0 && e < count && e < MOST_EQUATIONS;
        }

        int kindOf(int e) {
            return hasEquation(e) ? kindList[e] : PLAIN;
        }

        int shiftOf(int e) {
            return hasEquation(e) ? shiftList[e] : 0;
        }

        void become(int e, int kind, int shift) {
            if (hasEquation(e)) {
                kindList[e] = kind;
                shiftList[e] = shift;
            }
        }

        /** RIGHT of a kind under plain is made of A: n must be m then, but for left. */
        boolean hasRight(int kind) {
            return kind == PLAIN || kind == LEFT || m == n;
        }

        boolean fits(int kind) {
            return hasRight(kind) && unknowns(kind) <= MOST_UNKNOWNS;
        }

        int fittingSet() {
            int set = 0;
            for (int e = 0; e < count; e++) {
                set |= fits(kindOf(e)) ? 1 << e : 0;
            }
            return set;
        }

        boolean splits(int s) {
            if (s < 1 || s >= m) {
                return false;
            }
            for (int i = s; i < m; i++) {
                for (int j = 0; j < s; j++) {
                    if (entry(A, i, j) != 0) {
                        return false;
                    }
                }
            }
            return true;
        }

        int splitSet() {
            int set = 0;
            for (int s = 1; s < m; s++) {
                set |= splits(s) ? 1 << s : 0;
            }
            return set;
        }

        /** A, with the SHIFT more where i is k. */
        int leftEntry(int shift, int i, int k) {
            return entry(A, i, k) + (i == k ? shift : 0);
        }

        int rightEntry(int kind, int i, int j) {
            switch (kind) {
                case PLAIN:
                    return entry(B, i, j);
                case LEFT:
                    return 0;
                case ALIKE:
                case LEVEL:
                    return -entry(A, i, j);
                default:
                    return entry(A, j, i);
            }
        }

        int unknowns(int kind) {
            switch (kind) {
                case LEVEL:
                    return m;
                case EVEN:
                    return m * (m + 1) / 2;
                case ODD:
                    return m * (m - 1) / 2;
                default:
                    return m * n;
            }
        }

        /** By what the UNKNOWN of unknownAt is taken at i, j of an X of the SHAPE. */
        int signAt(int kind, int i, int j) {
            if (kind == LEVEL) {
                return i == j ? 1 : 0;
            }
            if (kind == ODD) {
                return i == j ? 0 : i < j ? 1 : -1;
            }
            return 1;
        }

        /** The UNKNOWN that stands at i, j; any one where signAt is 0. */
        int unknownAt(int kind, int i, int j) {
            int less = Math.min(i, j);
            int more = Math.max(i, j);
            switch (kind) {
                case LEVEL:
                    return i;
                case EVEN:
                    return less * n - less * (less - 1) / 2 + more - less;
                case ODD:
                    return less * n - less * (less + 1) / 2 + more - less - 1;
                default:
                    return i * n + j;
            }
        }
    }

    /** Rows of coefficients, with one number more behind each: what the row must be together. */
    private static final class Grid {
        private static final int WIDTH = MOST_PLACES + 1;

        int rows;
        int columns;
        int rank;
        /** What all pivots are in the end: it stands below the line of every answer. */
        long below = 1;
        private boolean isTurnedOver;
        private final long[] cells = new long[MOST_PLACES * WIDTH];
        private final int[] pivotRows = new int[WIDTH];

        void clear(int newRows, int newColumns) {
            rows = Math.max(0, Math.min(newRows, MOST_PLACES));
            columns = Math.max(0, Math.min(newColumns, MOST_PLACES));
            Arrays.fill(cells, 0);
        }

        private boolean hasCell(int row, int column) {
            return row >= 0 && row < MOST_PLACES && column >= 0 && column < WIDTH;
        }

        long cell(int row, int column) {
            return hasCell(row, column) ? cells[row * WIDTH + column] : 0;
        }

        private void write(int row, int column, long v) {
            if (hasCell(row, column)) {
                cells[row * WIDTH + column] = v;
            }
        }

        void add(int row, int column, long v) {
            write(row, column, cell(row, column) + v);
        }

        /** The rows that a WITNESS of the other grid must keep to. */
        void fillTurned(Grid other) {
            clear(other.columns + 1, other.rows);
            for (int row = 0; row < rows; row++) {
                for (int column = 0; column < columns; column++) {
                    write(row, column, other.cell(column, row));
                }
            }
            write(other.columns, columns, 1);
        }

        /**
         * Makes all columns but the pivots' FREE. Each cell stays a determinant of cells that were at
         * first, so that the division leaves no rest and no number comes near the end of the longs.
         */
        void eliminate() {
            rank = 0;
            below = 1;
            isTurnedOver = false;
            for (int column = 0; column < columns && column < WIDTH; column++) {
                int row = firstFilled(column);
                pivotRows[column] = row < 0 ? -1 : rank;
                if (row >= 0) {
                    swapRows(row, rank);
                    sweep(rank, column);
                    below = cell(rank, column);
                    rank++;
                }
            }
        }

        private int firstFilled(int column) {
            for (int row = rank; row < rows; row++) {
                if (cell(row, column) != 0) {
                    return row;
                }
            }
            return -1;
        }

        private void swapRows(int one, int other) {
            if (one == other) {
                return;
            }
            isTurnedOver = !isTurnedOver;
            for (int column = 0; column <= columns; column++) {
                long v = cell(one, column);
                write(one, column, cell(other, column));
                write(other, column, v);
            }
        }

        private void sweep(int pivotRow, int pivotColumn) {
            if (below == 0) {
                return;
            }
            long pivot = cell(pivotRow, pivotColumn);
            for (int row = 0; row < rows; row++) {
                if (row != pivotRow) {
                    long lead = cell(row, pivotColumn);
                    for (int column = 0; column <= columns; column++) {
                        long v = cell(row, column) * pivot - lead * cell(pivotRow, column);
                        write(row, column, v / below);
                    }
                }
            }
        }

        boolean isSolvable() {
            for (int row = rank; row < rows; row++) {
                if (cell(row, columns) != 0) {
                    return false;
                }
            }
            return true;
        }

        boolean isFree(int unknown) {
            return unknown >= 0 && unknown < columns && unknown < WIDTH && pivotRows[unknown] < 0;
        }

        int freeSet() {
            int set = 0;
            for (int unknown = 0; unknown < columns; unknown++) {
                set |= isFree(unknown) ? 1 << unknown : 0;
            }
            return set;
        }

        private boolean isPivot(int unknown) {
            return unknown >= 0 && unknown < columns && unknown < WIDTH && pivotRows[unknown] >= 0;
        }

        long solutionAbove(int unknown) {
            return isPivot(unknown) ? cell(pivotRows[unknown], columns) : 0;
        }

        long baseAbove(int free, int unknown) {
            if (unknown == free) {
                return below;
            }
            return isPivot(unknown) ? -cell(pivotRows[unknown], free) : 0;
        }

        /** Of as many rows as columns. */
        long determinant() {
            if (rank < columns) {
                return 0;
            }
            return isTurnedOver ? -below : below;
        }
    }

    /** THE TAPE, and who reads it: place stays at the first byte that can't stand there. */
    private static final class Tape {
        int count;
        private int place;
        private final byte[] bytes = new byte[MOST_BYTES];

        void take(byte b) {
            if (count >= 0 && count < MOST_BYTES) {
                bytes[count] = b;
                count++;
            }
        }

        int tell(State state) {
            place = 0;
            int told = 0;
            // a round reads bytes or ends it
            for (int round = 0; round <= MOST_BYTES; round++) {
                skipBlanks();
                if (place >= count) {
                    return told;
                }
                int table = readName();
                if (table < 0 || !readTable(state, table)) {
                    return -100 - place;
                }
                told++;
            }
            return told;
        }

        /** The byte so many ahead of place, or -1 beyond the end. */
        private int here(int ahead) {
            int i = place + ahead;
            return i >= 0 && i < count && i < MOST_BYTES ? bytes[i] & 0xff : -1;
        }

        private void skipBlanks() {
            for (int step = 0; step < MOST_BYTES && here(0) == ' '; step++) {
                place++;
            }
        }

        /** How many bytes from here on are from one to another. */
        private int stretch(char from, char to) {
            int length = 0;
            while (length < MOST_BYTES && here(length) >= from && here(length) <= to) {
                length++;
            }
            return length;
        }

        private int readName() {
            if (stretch('a', 'z') != 1 || here(0) > 'c') {
                return -1;
            }
            int table = here(0) - 'a';
            place++;
            return table;
        }

        private boolean readTable(State state, int table) {
            int rows = state.rows(table);
            for (int i = 0; i < rows; i++) {
                for (int j = 0; j < state.columns(table); j++) {
                    if (!readEntry(state, table, i, j)) {
                        return false;
                    }
                }
                if (!readMark(i < rows - 1 ? ',' : ';')) {
                    return false;
                }
            }
            return true;
        }

        private boolean readMark(char mark) {
            skipBlanks();
            if (here(0) != mark) {
                return false;
            }
            place++;
            return true;
        }

        private boolean readEntry(State state, int table, int i, int j) {
            boolean isLess = readMark('-');
            skipBlanks();
            int length = stretch('0', '9');
            if (length < 1 || length > 2) {
                return false;
            }
            int v = here(0) - '0';
            if (length == 2) {
                v = 10 * v + here(1) - '0';
            }
            if (v > reach(table)) {
                return false;
            }
            place += length;
            state.store(table, i, j, isLess ? -v : v);
            return true;
        }
    }

    /** ACTS of the EQUATION with this kind, number and shift; k is the KIND from which on a body is looked for. */
    private static final class Acts {
        int kind;
        int number;
        int shift;
        int count;
        private boolean isParted;
        final int[] bodies = new int[MOST_BODIES];

        void forget() {
            count = 0;
            isParted = false;
        }

        int run(int act, int x) {
            int answer;
            switch (act) {
                case 0:
                    answer = weighs(kind, x);
                    break;
                case 1:
                    answer = turns(kind, x);
                    break;
                case 2:
                    answer = parts(kind, x);
                    break;
                default:
                    answer = closes(kind, x);
                    break;
            }
            return isParted ? PARTED_BY_0 : answer;
        }

        /** Once something was parted by 0 no more bodies run: what is reckoned after it counts for nothing. */
        private void begin(int body) {
            if (!isParted && count >= 0 && count < MOST_BODIES) {
                bodies[count] = body;
                count++;
            }
        }

        // k falls with each call of a body by a body of the same act, so these end after three

        private int weighs(int k, int x) {
            switch (k) {
                case LEFT:
                    begin(20);
                    return weighs(PLAIN, x) + 4;
                case TURNED:
                case EVEN:
                    begin(40);
                    return weighs(PLAIN, x - 1) * 2;
                case ODD:
                    begin(70);
                    return weighs(EVEN, x) ^ shift;
                default:
                    begin(10);
                    return x * 7 + number;
            }
        }

        private int turns(int k, int x) {
            switch (k) {
                case ALIKE:
                    begin(30);
                    return 0 - turns(PLAIN, x);
                case LEVEL:
                    begin(50);
                    return turns(ALIKE, x + shift) ^ 3;
                default:
                    begin(11);
                    return weighs(kind, x) - shift;
            }
        }

        private int parts(int k, int x) {
            switch (k) {
                case TURNED:
                case EVEN:
                case ODD:
                    begin(41);
                    return parts(PLAIN, x) - weighs(kind, number);
                default:
                    begin(12);
                    int by = number - shift;
                    if (by == 0) {
                        isParted = true;
                        return 0;
                    }
                    return x / by;
            }
        }

        private int closes(int k, int x) {
            switch (k) {
                case EVEN:
                    begin(60);
                    return closes(PLAIN, x) + turns(kind, 1);
                case ODD:
                    begin(71);
                    return closes(EVEN, x * 2) - 5;
                default:
                    begin(13);
                    return turns(kind, x) ^ parts(kind, x + 2);
            }
        }
    }

    /** A SHEET: its row of items, each as its sort leaves it. */
    private static final class Sheet {
        int sort = MISSING;
        int length;
        final long[] items = new long[MOST_ITEMS];

        void renew(int newSort, int newLength) {
            sort = newSort;
            length = Math.max(0, Math.min(newLength, MOST_ITEMS));
            Arrays.fill(items, 0);
        }

        long read(int i) {
            return i >= 0 && i < length && i < MOST_ITEMS ? items[i] : 0;
        }

        void write(int i, long v) {
            if (i >= 0 && i < length && i < MOST_ITEMS) {
                items[i] = narrowed(v);
            }
        }

        private long narrowed(long v) {
            switch (sort) {
                case 0:
                    return (byte) v;
                case 1:
                    return (short) v;
                case 2:
                    return (int) v;
                default:
                    return v;
            }
        }

        boolean hasStretch(int from, int n) {
            return n >= 0 && n <= length && from >= 0 && from <= length - n;
        }
    }

    /** A SHELF; a row on it stays the row it was when its SHEET becomes another. */
    private static final class Shelf {
        int holds = HOLDS_NOTHING;
        /** Of the EQUATION, or how many items the row has. */
        int number;
        int sort;

        void hold(int newHolds, int newNumber, int newSort) {
            holds = newHolds;
            number = newNumber;
            sort = newSort;
        }
    }
}
