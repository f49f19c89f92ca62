import java.math.BigInteger;
import java.util.ArrayList;
import java.util.Arrays;
import java.util.List;

/**
 * The document a second time, as near to its definitions as can be and over fractions of any length:
 * what RandomRunsTest holds the program against.
 */
final class Oracle {
    private static final long FAR = 4000000000000000000L;
    private static final int[] ABOVE = {-1, 0, 0, 0, 2, 3, 5};

    // ---- fractions and rows of them

    record Frac(BigInteger up, BigInteger down) {
        static final Frac ZERO = of(0);
        static final Frac ONE = of(1);

        static Frac of(long v) {
            return new Frac(BigInteger.valueOf(v), BigInteger.ONE);
        }

        static Frac by(BigInteger up, BigInteger down) {
            BigInteger g = up.gcd(down);
            if (down.signum() < 0) {
                g = g.negate();
            }
            return new Frac(up.divide(g), down.divide(g));
        }

        Frac plus(Frac o) {
            return by(up.multiply(o.down).add(o.up.multiply(down)), down.multiply(o.down));
        }

        Frac times(Frac o) {
            return by(up.multiply(o.up), down.multiply(o.down));
        }

        Frac less() {
            return new Frac(up.negate(), down);
        }

        Frac over(Frac o) {
            return by(up.multiply(o.down), down.multiply(o.up));
        }

        boolean isZero() {
            return up.signum() == 0;
        }

        long part(int part) {
            return (part == 0 ? up : down).longValueExact();
        }
    }

    static Frac[][] zeros(int rows, int columns) {
        Frac[][] t = new Frac[rows][columns];
        for (Frac[] row : t) {
            Arrays.fill(row, Frac.ZERO);
        }
        return t;
    }

    static Frac[][] product(Frac[][] p, Frac[][] q) {
        Frac[][] t = zeros(p.length, q[0].length);
        for (int i = 0; i < p.length; i++) {
            for (int j = 0; j < q[0].length; j++) {
                for (int k = 0; k < q.length; k++) {
                    t[i][j] = t[i][j].plus(p[i][k].times(q[k][j]));
                }
            }
        }
        return t;
    }

    static Frac[][] sum(Frac[][] p, Frac[][] q) {
        Frac[][] t = zeros(p.length, p[0].length);
        for (int i = 0; i < p.length; i++) {
            for (int j = 0; j < p[0].length; j++) {
                t[i][j] = p[i][j].plus(q[i][j]);
            }
        }
        return t;
    }

    /** By the first column, as the word is told in schools. */
    static Frac determinant(Frac[][] t, int side) {
        if (side == 0) {
            return Frac.ONE;
        }
        Frac[][] u = new Frac[side][];
        for (int i = 0; i < side; i++) {
            u[i] = Arrays.copyOf(t[i], side);
        }
        Frac d = Frac.ONE;
        for (int c = 0; c < side; c++) {
            int p = c;
            while (p < side && u[p][c].isZero()) {
                p++;
            }
            if (p == side) {
                return Frac.ZERO;
            }
            if (p != c) {
                Frac[] swap = u[p];
                u[p] = u[c];
                u[c] = swap;
                d = d.less();
            }
            d = d.times(u[c][c]);
            for (int i = c + 1; i < side; i++) {
                Frac f = u[i][c].over(u[c][c]).less();
                for (int k = c; k < side; k++) {
                    u[i][k] = u[i][k].plus(f.times(u[c][k]));
                }
            }
        }
        return d;
    }

    static int rank(List<Frac[]> columns) {
        List<Frac[]> left = new ArrayList<>();
        for (Frac[] c : columns) {
            left.add(c.clone());
        }
        int rank = 0;
        int rows = columns.isEmpty() ? 0 : columns.get(0).length;
        for (int r = 0; r < rows; r++) {
            int at = -1;
            for (int i = 0; i < left.size() && at < 0; i++) {
                if (!left.get(i)[r].isZero()) {
                    at = i;
                }
            }
            if (at < 0) {
                continue;
            }
            Frac[] pivot = left.remove(at);
            rank++;
            for (Frac[] other : left) {
                Frac f = other[r].over(pivot[r]).less();
                for (int k = 0; k < rows; k++) {
                    other[k] = other[k].plus(f.times(pivot[k]));
                }
            }
        }
        return rank;
    }

    /** Which columns the columns ahead of them make. */
    static boolean[] freeOnes(List<Frac[]> columns) {
        boolean[] free = new boolean[columns.size()];
        for (int u = 0; u < columns.size(); u++) {
            free[u] = rank(columns.subList(0, u + 1)) == rank(columns.subList(0, u));
        }
        return free;
    }

    /** What of each column makes the right one, 0 of free ones; null if they do not make it. */
    static Frac[] made(List<Frac[]> columns, Frac[] right) {
        boolean[] free = freeOnes(columns);
        List<Frac[]> used = new ArrayList<>();
        for (int u = 0; u < free.length; u++) {
            if (!free[u]) {
                used.add(columns.get(u));
            }
        }
        int count = used.size();
        int rows = right.length;
        Frac[][] t = new Frac[rows][count + 1];
        for (int i = 0; i < rows; i++) {
            for (int u = 0; u < count; u++) {
                t[i][u] = used.get(u)[i];
            }
            t[i][count] = right[i];
        }
        for (int c = 0; c < count; c++) {
            int p = c;
            while (t[p][c].isZero()) {
                p++;
            }
            Frac[] swap = t[p];
            t[p] = t[c];
            t[c] = swap;
            for (int i = 0; i < rows; i++) {
                if (i != c) {
                    Frac f = t[i][c].over(t[c][c]).less();
                    for (int k = c; k <= count; k++) {
                        t[i][k] = t[i][k].plus(f.times(t[c][k]));
                    }
                }
            }
        }
        for (int i = count; i < rows; i++) {
            if (!t[i][count].isZero()) {
                return null;
            }
        }
        Frac[] made = new Frac[free.length];
        int at = 0;
        for (int u = 0; u < free.length; u++) {
            made[u] = free[u] ? Frac.ZERO : t[at][count].over(t[at][at]);
            at += free[u] ? 0 : 1;
        }
        return made;
    }

    // ---- what is held

    private int m = 2;
    private int n = 2;
    private int z = 1;
    private int[][][] tables = {new int[2][2], new int[2][2], new int[2][2]};
    private List<int[]> equations = new ArrayList<>();
    private Object[] kept;
    private final List<Integer> tape = new ArrayList<>();
    private final Object[] sheets = new Object[4];
    private final Object[] shelves = new Object[4];
    private List<Integer> trace = new ArrayList<>();

    private static long far(long refusal) {
        return refusal - FAR;
    }

    private static int[][][] copyOf(int[][][] t) {
        int[][][] c = new int[3][][];
        for (int i = 0; i < 3; i++) {
            c[i] = new int[t[i].length][];
            for (int j = 0; j < t[i].length; j++) {
                c[i][j] = t[i][j].clone();
            }
        }
        return c;
    }

    private boolean inTable(int table, int i, int j) {
        return table >= 0 && table <= 2 && i >= 0 && i < tables[table].length && j >= 0 && j < tables[table][0].length;
    }

    private boolean isEquation(int e) {
        return e >= 0 && e < equations.size();
    }

    private static boolean under(int kind, int upper) {
        return kind == upper || kind >= 0 && under(ABOVE[kind], upper);
    }

    // ---- tables

    long size(int newM, int newN) {
        if (newM < 1 || newM > 3 || newN < 1 || newN > 3) {
            return -1;
        }
        int was = 10 * m + n;
        m = newM;
        n = newN;
        tables = new int[][][] {new int[m][m], new int[n][n], new int[m][n]};
        return was;
    }

    long set(int table, int i, int j, int v) {
        int most = table == 2 ? 50 : 5;
        if (!inTable(table, i, j) || Math.abs((long) v) > most) {
            return -1;
        }
        int was = tables[table][i][j];
        tables[table][i][j] = v;
        return 100 + was;
    }

    long at(int table, int i, int j) {
        return inTable(table, i, j) ? 100 + tables[table][i][j] : -1;
    }

    private static Frac[][] fracs(int[][] t) {
        Frac[][] f = zeros(t.length, t[0].length);
        for (int i = 0; i < t.length; i++) {
            for (int j = 0; j < t[0].length; j++) {
                f[i][j] = Frac.of(t[i][j]);
            }
        }
        return f;
    }

    long det(int table) {
        return table == 0 || table == 1 ? determinant(fracs(tables[table]), tables[table].length).part(0) : far(-1);
    }

    long diagonal(int table) {
        if (table < 0 || table > 2) {
            return far(-1);
        }
        if (table == 2 && m != n) {
            return far(-4);
        }
        long sum = 0;
        for (int i = 0; i < tables[table].length; i++) {
            sum += tables[table][i][i];
        }
        return sum;
    }

    /** From what the determinant of x less T is at x = 0, 1, .. side, by the table of their powers. */
    long character(int table, int k) {
        if (table != 0 && table != 1 || k < 0 || k > tables[table].length) {
            return far(-1);
        }
        int side = tables[table].length;
        List<Frac[]> powers = new ArrayList<>();
        for (int p = 0; p <= side; p++) {
            Frac[] column = new Frac[side + 1];
            for (int v = 0; v <= side; v++) {
                column[v] = Frac.of((long) Math.pow(v, p));
            }
            powers.add(column);
        }
        Frac[] values = new Frac[side + 1];
        for (int v = 0; v <= side; v++) {
            int[][] t = new int[side][side];
            for (int i = 0; i < side; i++) {
                for (int j = 0; j < side; j++) {
                    t[i][j] = (i == j ? v : 0) - tables[table][i][j];
                }
            }
            values[v] = determinant(fracs(t), side);
        }
        return made(powers, values)[k].part(0);
    }

    long feed(long eight, int count) {
        if (count < 1 || count > 8) {
            return -1;
        }
        if (tape.size() + count > 200) {
            return -2;
        }
        for (int i = 0; i < count; i++) {
            tape.add((int) (eight >> 8 * i & 0xff));
        }
        return tape.size();
    }

    private static final class Fault extends Exception {
        final int place;

        Fault(int place) {
            super(null, null, false, false);
            this.place = place;
        }
    }

    /** A token: where it begins, and its text. */
    private record Token(int place, String text) {
    }

    private List<Token> tokens() {
        StringBuilder s = new StringBuilder();
        for (int b : tape) {
            s.append((char) b);
        }
        List<Token> tokens = new ArrayList<>();
        java.util.regex.Matcher matcher = java.util.regex.Pattern.compile("[a-z]+|[0-9]+|[^ ]", java.util.regex.Pattern.DOTALL)
            .matcher(s);
        while (matcher.find()) {
            tokens.add(new Token(matcher.start(), matcher.group()));
        }
        tokens.add(new Token(s.length(), ""));
        return tokens;
    }

    long text() {
        List<Token> tokens = tokens();
        tape.clear();
        int[][][] told = copyOf(tables);
        int at = 0;
        int count = 0;
        try {
            while (!tokens.get(at).text.isEmpty()) {
                int table = tokens.get(at).text.length() == 1 ? "abc".indexOf(tokens.get(at).text) : -1;
                if (table < 0) {
                    throw new Fault(tokens.get(at).place);
                }
                at++;
                int rows = told[table].length;
                for (int i = 0; i < rows; i++) {
                    for (int j = 0; j < told[table][0].length; j++) {
                        int sign = 1;
                        if (tokens.get(at).text.equals("-")) {
                            sign = -1;
                            at++;
                        }
                        String number = tokens.get(at).text;
                        if (!number.matches("[0-9]{1,2}") || Integer.parseInt(number) > (table == 2 ? 50 : 5)) {
                            throw new Fault(tokens.get(at).place);
                        }
                        told[table][i][j] = sign * Integer.parseInt(number);
                        at++;
                    }
                    if (!tokens.get(at).text.equals(i == rows - 1 ? ";" : ",")) {
                        throw new Fault(tokens.get(at).place);
                    }
                    at++;
                }
                count++;
            }
        } catch (Fault fault) {
            return -100 - fault.place;
        }
        tables = told;
        return count;
    }

    // ---- equations

    private static boolean isTold(int kind, int shift) {
        return kind >= 0 && kind <= 6 && Math.abs((long) shift) <= 2;
    }

    long equation(int kind, int shift) {
        if (!isTold(kind, shift)) {
            return -1;
        }
        if (equations.size() == 6) {
            return -2;
        }
        equations.add(new int[] {kind, shift});
        return equations.size() - 1;
    }

    long change(int e, int kind, int shift) {
        if (!isEquation(e) || !isTold(kind, shift)) {
            return -1;
        }
        int was = equations.get(e)[0];
        equations.set(e, new int[] {kind, shift});
        return was;
    }

    private boolean square(int kind) {
        return kind < 2 || m == n;
    }

    private int[][] rightOf(int kind) {
        int[][] r = new int[n][n];
        for (int i = 0; i < n; i++) {
            for (int j = 0; j < n; j++) {
                r[i][j] = kind == 0 ? tables[1][i][j] : kind == 1 ? 0
                    : under(kind, 2) ? -tables[0][i][j] : tables[0][j][i];
            }
        }
        return r;
    }

    /** Of each UNKNOWN the table in which it is 1 and the others are 0. */
    private List<Frac[][]> unknownsOf(int kind) {
        List<Frac[][]> all = new ArrayList<>();
        for (int i = 0; i < m; i++) {
            for (int j = 0; j < n; j++) {
                Frac[][] x = zeros(m, n);
                x[i][j] = Frac.ONE;
                if (kind == 4 && i != j || kind == 5 && j < i || kind == 6 && j <= i) {
                    continue;
                }
                if (kind == 5) {
                    x[j][i] = Frac.ONE;
                }
                if (kind == 6) {
                    x[j][i] = Frac.ONE.less();
                }
                all.add(x);
            }
        }
        return all;
    }

    private Frac[][] theSum(int kind, int shift, Frac[][] x) {
        Frac[][] s = sum(product(fracs(tables[0]), x), product(x, fracs(rightOf(kind))));
        Frac[][] shifted = zeros(m, n);
        for (int i = 0; i < m; i++) {
            for (int j = 0; j < n; j++) {
                shifted[i][j] = x[i][j].times(Frac.of(shift));
            }
        }
        return sum(s, shifted);
    }

    private static Frac[] flat(Frac[][] t, int first) {
        List<Frac> all = new ArrayList<>();
        for (int i = first; i < t.length; i++) {
            all.addAll(Arrays.asList(t[i]));
        }
        return all.toArray(new Frac[0]);
    }

    private List<Frac[]> columns(int kind, int shift, int shape, int first) {
        List<Frac[]> all = new ArrayList<>();
        int u = 0;
        for (Frac[][] x : unknownsOf(shape)) {
            if (u++ >= first * n) {
                all.add(flat(theSum(kind, shift, x), first));
            }
        }
        return all;
    }

    private boolean fits(int kind) {
        return square(kind) && unknownsOf(kind).size() <= 6;
    }

    private List<Frac[]> columns(int e) {
        int kind = equations.get(e)[0];
        return columns(kind, equations.get(e)[1], kind, 0);
    }

    private Frac[] c() {
        return flat(fracs(tables[2]), 0);
    }

    long of(int e, int what) {
        if (!isEquation(e) || what < 0 || what > 6) {
            return -1;
        }
        int kind = equations.get(e)[0];
        switch (what) {
            case 0:
                return kind;
            case 1:
                return 10 + equations.get(e)[1];
            case 2:
                return fits(kind) ? 1 : 0;
            case 3:
                return square(kind) ? unknownsOf(kind).size() : -4;
            default:
                break;
        }
        if (!fits(kind)) {
            return -4;
        }
        if (what == 6) {
            return made(columns(e), c()) != null ? 1 : 0;
        }
        boolean[] free = freeOnes(columns(e));
        int set = 0;
        for (int u = 0; u < free.length; u++) {
            set |= free[u] ? 1 << u : 0;
        }
        return what == 5 ? set : free.length - Integer.bitCount(set);
    }

    long right(int e, int i, int j) {
        if (!isEquation(e) || !inTable(1, i, j)) {
            return far(-1);
        }
        return square(equations.get(e)[0]) ? rightOf(equations.get(e)[0])[i][j] : far(-4);
    }

    private Frac[][] together(int kind, Frac[] unknowns) {
        Frac[][] x = zeros(m, n);
        int u = 0;
        for (Frac[][] one : unknownsOf(kind)) {
            for (int i = 0; i < m; i++) {
                for (int j = 0; j < n; j++) {
                    x[i][j] = x[i][j].plus(one[i][j].times(unknowns[u]));
                }
            }
            u++;
        }
        return x;
    }

    private static void sure(boolean so) {
        if (!so) {
            throw new IllegalStateException("the oracle contradicts itself");
        }
    }

    private static void sureAre(Frac[][] t, Frac[] due) {
        sure(Arrays.equals(flat(t, 0), due));
    }

    long solution(int e, int i, int j, int part) {
        if (!isEquation(e) || !inTable(2, i, j) || part < 0 || part > 1) {
            return far(-1);
        }
        int kind = equations.get(e)[0];
        if (!fits(kind)) {
            return far(-4);
        }
        Frac[] made = made(columns(e), c());
        if (made == null) {
            return far(-3);
        }
        Frac[][] x = together(kind, made);
        sureAre(theSum(kind, equations.get(e)[1], x), c());
        return x[i][j].part(part);
    }

    long base(int e, int u, int i, int j, int part) {
        if (!isEquation(e) || u < 0 || u > 8 || !inTable(2, i, j) || part < 0 || part > 1) {
            return far(-1);
        }
        int kind = equations.get(e)[0];
        if (!fits(kind)) {
            return far(-4);
        }
        List<Frac[]> columns = columns(e);
        if (u >= columns.size() || !freeOnes(columns)[u]) {
            return far(-3);
        }
        Frac[] made = made(columns, columns.get(u));
        for (int k = 0; k < made.length; k++) {
            made[k] = k == u ? Frac.ONE : made[k].less();
        }
        Frac[][] x = together(kind, made);
        sureAre(theSum(kind, equations.get(e)[1], x), flat(zeros(m, n), 0));
        return x[i][j].part(part);
    }

    long witness(int e, int i, int j, int part) {
        if (!isEquation(e) || !inTable(2, i, j) || part < 0 || part > 1) {
            return far(-1);
        }
        if (!fits(equations.get(e)[0])) {
            return far(-4);
        }
        List<Frac[]> products = columns(e);
        if (made(products, c()) != null) {
            return far(-3);
        }
        products.add(c());
        List<Frac[]> byPlace = new ArrayList<>();
        for (int place = 0; place < m * n; place++) {
            Frac[] column = new Frac[products.size()];
            for (int r = 0; r < column.length; r++) {
                column[r] = products.get(r)[place];
            }
            byPlace.add(column);
        }
        Frac[] due = new Frac[products.size()];
        Arrays.fill(due, Frac.ZERO);
        due[due.length - 1] = Frac.ONE;
        return made(byPlace, due)[i * n + j].part(part);
    }

    private static int alikes(Frac[][] p, Frac[][] q) {
        int side = p.length;
        List<Frac[]> columns = new ArrayList<>();
        for (int place = 0; place < side * side; place++) {
            Frac[][] u = zeros(side, side);
            u[place / side][place % side] = Frac.ONE;
            Frac[][] minus = product(q, u);
            for (Frac[] row : minus) {
                for (int k = 0; k < side; k++) {
                    row[k] = row[k].less();
                }
            }
            columns.add(flat(sum(product(u, p), minus), 0));
        }
        return side * side - rank(columns);
    }

    /** Byrnes and Gauger: alike just if as many tables go between them as between each and itself. */
    long similar(int e) {
        if (!isEquation(e)) {
            return -1;
        }
        int kind = equations.get(e)[0];
        if (!square(kind) || m * n > 6) {
            return -4;
        }
        Frac[][] p = zeros(m + n, m + n);
        Frac[][] q = zeros(m + n, m + n);
        int[][] right = rightOf(kind);
        for (int i = 0; i < m + n; i++) {
            for (int j = 0; j < m + n; j++) {
                if (i < m && j < m) {
                    p[i][j] = Frac.of(tables[0][i][j] + (i == j ? equations.get(e)[1] : 0));
                } else if (i < m) {
                    p[i][j] = Frac.of(tables[2][i][j - m]);
                } else if (j >= m) {
                    p[i][j] = Frac.of(-right[i - m][j - m]);
                }
                q[i][j] = i < m && j >= m ? Frac.ZERO : p[i][j];
            }
        }
        int between = alikes(p, q);
        return between == alikes(p, p) && between == alikes(q, q) ? 1 : 0;
    }

    long whole(int e) {
        if (!isEquation(e)) {
            return far(-1);
        }
        int kind = equations.get(e)[0];
        if (!square(kind) || m * n > 6) {
            return far(-4);
        }
        // the columns as rows: the determinant is the same
        return determinant(columns(kind, equations.get(e)[1], 0, 0).toArray(new Frac[0][]), m * n).part(0);
    }

    private boolean splits(int s) {
        for (int i = s; i < m; i++) {
            for (int j = 0; j < s; j++) {
                if (tables[0][i][j] != 0) {
                    return false;
                }
            }
        }
        return s >= 1 && s < m;
    }

    long lower(int e, int s) {
        if (!isEquation(e) || s < 1 || s > 2) {
            return -1;
        }
        int kind = equations.get(e)[0];
        if (!splits(s) || !square(kind)) {
            return -4;
        }
        return made(columns(kind, equations.get(e)[1], 0, s), flat(fracs(tables[2]), s)) != null ? 1 : 0;
    }

    long swapped() {
        return m != n ? -4 : diagonal(2) == 0 ? 1 : 0;
    }

    /** By the X itself: where more than one X is there, none is as asked. */
    long stable() {
        int wasN = n;
        int[][][] was = tables;
        n = m;
        tables = new int[][][] {was[0], null, null};
        try {
            List<Frac[]> columns = columns(5, 0, 5, 0);
            Frac[][] due = zeros(m, m);
            for (int i = 0; i < m; i++) {
                due[i][i] = Frac.ONE.less();
            }
            Frac[] made = made(columns, flat(due, 0));
            if (made == null || rank(columns) < columns.size()) {
                return 0;
            }
            Frac[][] x = together(5, made);
            for (int side = 1; side <= m; side++) {
                if (determinant(x, side).up.signum() <= 0) {
                    return 0;
                }
            }
            return 1;
        } finally {
            n = wasN;
            tables = was;
        }
    }

    // ---- whole numbers, readers

    long lay(int e, int sheet) {
        if (!isEquation(e) || sheet < 0 || sheet > 3) {
            return -1;
        }
        int kind = equations.get(e)[0];
        if (!fits(kind)) {
            return -4;
        }
        Frac[] made = made(columns(e), c());
        if (made == null) {
            return -3;
        }
        Frac[] x = flat(together(kind, made), 0);
        BigInteger scale = BigInteger.ONE;
        for (Frac f : x) {
            scale = scale.multiply(f.down).divide(scale.gcd(f.down));
        }
        int[] row = new int[x.length];
        try {
            for (int i = 0; i < x.length; i++) {
                row[i] = x[i].up.multiply(scale.divide(x[i].down)).intValueExact();
            }
            int answer = scale.intValueExact();
            sheets[sheet] = row;
            return answer;
        } catch (ArithmeticException tooLarge) {
            return -16;
        }
    }

    private long unreadable(int sheet) {
        Object row = sheets[sheet];
        if (row == null) {
            return -11;
        }
        if (!(row instanceof int[])) {
            return -13;
        }
        return ((int[]) row).length == m * n ? 0 : -12;
    }

    private Frac[][] read(int sheet, int d) {
        int[] row = (int[]) sheets[sheet];
        Frac[][] x = zeros(m, n);
        for (int place = 0; place < m * n; place++) {
            x[place / n][place % n] = Frac.of(row[place]).over(Frac.of(d));
        }
        return x;
    }

    private long wrongPlace(int kind, int shift, Frac[][] x) {
        Frac[] got = flat(theSum(kind, shift, x), 0);
        for (int place = 0; place < m * n; place++) {
            if (!got[place].equals(c()[place])) {
                return 1 + place;
            }
        }
        for (int i = 0; i < m; i++) {
            for (int j = 0; j < n; j++) {
                if (kind == 4 && i != j && !x[i][j].isZero() || kind == 5 && !x[i][j].equals(x[j][i])
                    || kind == 6 && !x[i][j].equals(x[j][i].less())) {
                    return 1 + m * n;
                }
            }
        }
        return 0;
    }

    long judge(int e, int sheet, int d) {
        if (!isEquation(e) || sheet < 0 || sheet > 3 || d < 1) {
            return -1;
        }
        if (!square(equations.get(e)[0])) {
            return -4;
        }
        if (unreadable(sheet) != 0) {
            return unreadable(sheet);
        }
        return wrongPlace(equations.get(e)[0], equations.get(e)[1], read(sheet, d));
    }

    long kinds(int sheet, int shift) {
        if (sheet < 0 || sheet > 3 || Math.abs((long) shift) > 2) {
            return -1;
        }
        if (unreadable(sheet) != 0) {
            return unreadable(sheet);
        }
        int set = 0;
        for (int kind = 0; kind < (m == n ? 7 : 2); kind++) {
            set |= wrongPlace(kind, shift, read(sheet, 1)) == 0 ? 1 << kind : 0;
        }
        return set;
    }

    long ratio(long above, long below, int part) {
        if (part < 0 || part > 1) {
            return far(-1);
        }
        if (below == 0) {
            return far(-15);
        }
        Frac f = Frac.by(BigInteger.valueOf(above), BigInteger.valueOf(below));
        try {
            f.part(1 - part);
            return f.part(part);
        } catch (ArithmeticException tooLarge) {
            return far(-16);
        }
    }

    // ---- lots

    long seed(int v) {
        int was = z;
        z = v;
        return was;
    }

    long lot() {
        for (int table = 0; table < 3; table++) {
            for (int[] row : tables[table]) {
                for (int j = 0; j < row.length; j++) {
                    z = (int) (z * 1103515245L + 12345L);
                    long high = (z & 0xffffffffL) / 65536;
                    row[j] = (int) (table == 2 ? high % 101 - 50 : high % 11 - 5);
                }
            }
        }
        return 100 + tables[2][0][0];
    }

    long times(int e, int count) {
        if (!isEquation(e) || count < 1 || count > 30) {
            return -1;
        }
        if (!fits(equations.get(e)[0])) {
            return -4;
        }
        int[][][] was = copyOf(tables);
        int solved = 0;
        for (int i = 0; i < count; i++) {
            lot();
            solved += of(e, 6);
        }
        tables = was;
        return solved;
    }

    // ---- the host

    private static Object newRow(int sort, int count) {
        switch (sort) {
            case 0:
                return new byte[count];
            case 1:
                return new short[count];
            case 2:
                return new int[count];
            default:
                return new long[count];
        }
    }

    private static int sortOf(Object row) {
        return row instanceof byte[] ? 0 : row instanceof short[] ? 1 : row instanceof int[] ? 2 : 3;
    }

    private static int lengthOf(Object row) {
        return java.lang.reflect.Array.getLength(row);
    }

    private static boolean four(int i) {
        return i >= 0 && i < 4;
    }

    long sheet(int sheet, int sort, int count) {
        if (!four(sheet) || sort < -1 || sort > 3 || sort >= 0 && count > 40) {
            return -1;
        }
        if (sort >= 0 && count < 0) {
            return -14;
        }
        sheets[sheet] = sort < 0 ? null : newRow(sort, count);
        return 1;
    }

    long put(int sheet, int i, long v) {
        if (!four(sheet)) {
            return -1;
        }
        Object row = sheets[sheet];
        if (row == null) {
            return -11;
        }
        if (i < 0 || i >= lengthOf(row)) {
            return -12;
        }
        switch (sortOf(row)) {
            case 0:
                ((byte[]) row)[i] = (byte) v;
                break;
            case 1:
                ((short[]) row)[i] = (short) v;
                break;
            case 2:
                ((int[]) row)[i] = (int) v;
                break;
            default:
                ((long[]) row)[i] = v;
                break;
        }
        return 1;
    }

    long item(int sheet, int sort, int i) {
        if (!four(sheet) || !four(sort)) {
            return -1;
        }
        Object row = sheets[sheet];
        if (row == null) {
            return -11;
        }
        if (sortOf(row) != sort) {
            return -13;
        }
        if (i < 0 || i >= lengthOf(row)) {
            return -12;
        }
        return (int) java.lang.reflect.Array.getLong(row, i);
    }

    long move(int sheet, int i, int other, int j, int count) {
        if (!four(sheet) || !four(other)) {
            return -1;
        }
        if (sheets[sheet] == null || sheets[other] == null) {
            return -11;
        }
        if (sortOf(sheets[sheet]) != sortOf(sheets[other])) {
            return -13;
        }
        try {
            System.arraycopy(sheets[sheet], i, sheets[other], j, count);
            return count;
        } catch (IndexOutOfBoundsException beyond) {
            return -12;
        }
    }

    long shelf(int shelf, int what, int count) {
        if (!four(shelf) || what < 0 || what > 2 || what == 0 && !isEquation(count) || what == 1 && !four(count)) {
            return -1;
        }
        shelves[shelf] = what == 0 ? (Object) Integer.valueOf(count) : what == 1 ? sheets[count] : null;
        return 1;
    }

    private Object on(int shelf) {
        Object thing = shelves[shelf];
        return thing instanceof Integer && !isEquation((Integer) thing) ? null : thing;
    }

    long taken(int shelf, int as) {
        if (!four(shelf) || as < 0 || as > 13 || as > 6 && as < 10) {
            return -1;
        }
        Object thing = on(shelf);
        if (thing == null) {
            return -11;
        }
        if (thing instanceof Integer) {
            int e = (Integer) thing;
            return as <= 6 && under(equations.get(e)[0], as) ? e : -13;
        }
        return as == 10 + sortOf(thing) ? lengthOf(thing) : -13;
    }

    // ---- acts, as classes under one another

    private static class Plain {
        int n;
        int s;
        List<Integer> ran;

        int weighs(int x) {
            ran.add(10);
            return x * 7 + n;
        }

        int turns(int x) {
            ran.add(11);
            return weighs(x) - s;
        }

        int parts(int x) {
            ran.add(12);
            return x / (n - s);
        }

        int closes(int x) {
            ran.add(13);
            return turns(x) ^ parts(x + 2);
        }
    }

    private static final class Left extends Plain {
        @Override
        int weighs(int x) {
            ran.add(20);
            return super.weighs(x) + 4;
        }
    }

    private static class Alike extends Plain {
        @Override
        int turns(int x) {
            ran.add(30);
            return 0 - super.turns(x);
        }
    }

    private static class Turned extends Plain {
        @Override
        int weighs(int x) {
            ran.add(40);
            return super.weighs(x - 1) * 2;
        }

        @Override
        int parts(int x) {
            ran.add(41);
            return super.parts(x) - weighs(n);
        }
    }

    private static final class Level extends Alike {
        @Override
        int turns(int x) {
            ran.add(50);
            return super.turns(x + s) ^ 3;
        }
    }

    private static class Even extends Turned {
        @Override
        int closes(int x) {
            ran.add(60);
            return super.closes(x) + turns(1);
        }
    }

    private static final class Odd extends Even {
        @Override
        int weighs(int x) {
            ran.add(70);
            return super.weighs(x) ^ s;
        }

        @Override
        int closes(int x) {
            ran.add(71);
            return super.closes(x * 2) - 5;
        }
    }

    long act(int shelf, int act, int x) {
        trace = new ArrayList<>();
        if (!four(shelf) || !four(act) || !(on(shelf) instanceof Integer)) {
            return 0;
        }
        int e = (Integer) on(shelf);
        Plain[] actors = {new Plain(), new Left(), new Alike(), new Turned(), new Level(), new Even(), new Odd()};
        Plain actor = actors[equations.get(e)[0]];
        actor.n = e;
        actor.s = equations.get(e)[1];
        actor.ran = trace;
        try {
            return act == 0 ? actor.weighs(x) : act == 1 ? actor.turns(x) : act == 2 ? actor.parts(x) : actor.closes(x);
        } catch (ArithmeticException by0) {
            return -15;
        }
    }

    long trace(int i) {
        return i >= 0 && i < Math.min(30, trace.size()) ? trace.get(i) : -3;
    }

    long many(int what) {
        int set = 0;
        switch (what) {
            case 0:
                return m;
            case 1:
                return n;
            case 2:
                return equations.size();
            case 3:
                return tape.size();
            case 4:
                return Math.min(30, trace.size());
            case 5:
                for (int e = 0; e < equations.size(); e++) {
                    set |= fits(equations.get(e)[0]) ? 1 << e : 0;
                }
                return set;
            case 6:
                for (int s = 1; s < m; s++) {
                    set |= splits(s) ? 1 << s : 0;
                }
                return set;
            default:
                return -1;
        }
    }

    // ---- kept

    long keep() {
        kept = new Object[] {m, n, z, copyOf(tables), new ArrayList<>(equations)};
        return 1;
    }

    @SuppressWarnings("unchecked")
    long again() {
        if (kept == null) {
            return -3;
        }
        m = (Integer) kept[0];
        n = (Integer) kept[1];
        z = (Integer) kept[2];
        tables = copyOf((int[][][]) kept[3]);
        equations = new ArrayList<>((List<int[]>) kept[4]);
        return equations.size();
    }
}
