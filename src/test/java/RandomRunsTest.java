import java.util.Random;

/**
 * Runs of 512 steps of calls by lot, each answer held against the Oracle's; the lots are the same each time.
 * The program counts no calls, so that what it answers after the 512th is held to the document too.
 */
final class RandomRunsTest {
    private static final int RUNS = 160;
    private static final int STEPS = 512;
    private static final int[] FAR_INTS = {Integer.MIN_VALUE, Integer.MAX_VALUE, Integer.MIN_VALUE + 1, -1, 1 << 16, 41};

    private final Random random;
    private final TwoSidedTables x = new TwoSidedTables();
    private final Oracle y = new Oracle();
    /** How often tables get entries that make many equations have no or many solutions. */
    private final boolean isPlainRun;
    /** Whether entries are as far from 0 as may be, where numbers grow most. */
    private final boolean isFarRun;

    private RandomRunsTest(int run) {
        random = new Random(run);
        isPlainRun = run % 3 == 0;
        isFarRun = run % 5 == 1;
    }

    public static void main(String[] args) {
        int runs = args.length > 0 ? Integer.parseInt(args[0]) : RUNS;
        int first = args.length > 1 ? Integer.parseInt(args[1]) : 0;
        for (int run = first; run < first + runs; run++) {
            new RandomRunsTest(run).go(run);
        }
        Due.end();
    }

    private void go(int run) {
        for (int step = 0; step < STEPS; step++) {
            step("run " + run + ", step " + step + ": ");
        }
    }

    private int any(int from, int to) {
        if (random.nextInt(60) == 0) {
            return FAR_INTS[random.nextInt(FAR_INTS.length)];
        }
        if (random.nextInt(25) == 0) {
            return random.nextBoolean() ? from - 1 : to + 1;
        }
        return from + random.nextInt(to - from + 1);
    }

    private int e() {
        return any(0, Math.max(0, x.many(2) - 1));
    }

    private long aLong() {
        switch (random.nextInt(6)) {
            case 0:
                return Long.MIN_VALUE;
            case 1:
                return random.nextBoolean() ? Long.MAX_VALUE : -Long.MAX_VALUE;
            case 2:
                return random.nextLong();
            case 3:
                return 1L << random.nextInt(64);
            default:
                return random.nextInt(4001) - 2000;
        }
    }

    private String entry(int most) {
        int v = random.nextInt(3) == 0 ? random.nextInt(most + 1) : random.nextInt(3);
        String minus = random.nextInt(3) == 0 ? random.nextBoolean() ? "-" : "- " : "";
        return minus + (v < 10 && random.nextInt(6) == 0 ? "0" : "") + v;
    }

    private String text() {
        StringBuilder s = new StringBuilder();
        int tables = random.nextInt(4);
        for (int t = 0; t < tables; t++) {
            int table = random.nextInt(3);
            int rows = table == 1 ? x.many(1) : x.many(0);
            int columns = table == 0 ? x.many(0) : x.many(1);
            s.append("abc".charAt(table));
            for (int i = 0; i < rows; i++) {
                for (int j = 0; j < columns; j++) {
                    s.append(j > 0 || random.nextBoolean() ? " " : "").append(entry(table == 2 ? 50 : 5));
                }
                s.append(random.nextInt(4) == 0 ? " " : "").append(i < rows - 1 ? "," : ";");
            }
            s.append(random.nextInt(4) == 0 ? "  " : "");
        }
        int changes = random.nextInt(3) == 0 ? 1 + random.nextInt(2) : 0;
        for (int c = 0; c < changes && s.length() > 0; c++) {
            int at = random.nextInt(s.length());
            String signs = "abcdz019 -,;Z/:`{\u0000\u00ff\t56";
            char sign = signs.charAt(random.nextInt(signs.length()));
            switch (random.nextInt(3)) {
                case 0:
                    s.setCharAt(at, sign);
                    break;
                case 1:
                    s.insert(at, sign);
                    break;
                default:
                    s.setLength(at);
                    break;
            }
        }
        return s.length() > 200 ? s.substring(0, 200) : s.toString();
    }

    private void tell(String call) {
        String text = text();
        for (int i = 0; i < text.length(); i += 8) {
            int n = Math.min(8, text.length() - i);
            long eight = random.nextLong() << 8 * (n - 1) << 8;
            for (int k = n - 1; k >= 0; k--) {
                eight |= (long) (text.charAt(i + k) & 0xff) << 8 * k;
            }
            Due.is(call + "feed", x.feed(eight, n), y.feed(eight, n));
        }
        Due.is(call + "text of '" + text + "'", x.text(), y.text());
    }

    private void entries(String call) {
        int most = isPlainRun ? 1 : 5;
        for (int table = 0; table < 3; table++) {
            for (int place = 0; place < 9; place++) {
                int v = random.nextInt(isPlainRun ? 3 : 2) == 0 ? random.nextInt(2 * most + 1) - most : 0;
                if (isFarRun) {
                    v = (random.nextInt(8) - random.nextInt(2) >= 4 ? 5 : -5) * (table == 2 ? 10 : 1);
                }
                Due.is(call + "set", x.set(table, place / 3, place % 3, v), y.set(table, place / 3, place % 3, v));
            }
        }
    }

    private void step(String call) {
        switch (random.nextInt(24)) {
            case 0:
                tablesStep(call);
                break;
            case 1:
                tell(call);
                break;
            case 2:
                if (isFarRun || random.nextInt(4) == 0) {
                    entries(call);
                }
                break;
            case 3:
            case 4:
            case 5:
            case 6:
                sheetsStep(call);
                break;
            case 7:
            case 8:
            case 9:
                actsStep(call);
                break;
            case 10:
            case 11:
                numbersStep(call);
                break;
            case 12:
                keptStep(call);
                break;
            case 13:
            case 14:
                askTables(call);
                break;
            case 15:
            case 16:
                makeStep(call);
                break;
            default:
                askEquations(call);
                break;
        }
    }

    private void tablesStep(String call) {
        int m = any(1, 3);
        int n = random.nextInt(3) > 0 ? m : any(1, 3);
        int table = any(0, 2);
        int i = any(0, 2);
        int j = any(0, 2);
        if (random.nextInt(4) == 0) {
            Due.is(call + "size(" + m + ", " + n + ")", x.size(m, n), y.size(m, n));
        }
        int v = any(-5, 5) * (random.nextInt(3) == 0 ? 10 : 1);
        Due.is(call + "set", x.set(table, i, j, v), y.set(table, i, j, v));
        Due.is(call + "at", x.at(table, i, j), y.at(table, i, j));
    }

    private void askTables(String call) {
        int table = any(0, 2);
        int k = any(0, 3);
        Due.is(call + "det(" + table + ")", x.det(table), y.det(table));
        Due.is(call + "diagonal(" + table + ")", x.diagonal(table), y.diagonal(table));
        Due.is(call + "character(" + table + ", " + k + ")", x.character(table, k), y.character(table, k));
        Due.is(call + "stable", x.stable(), y.stable());
        Due.is(call + "swapped", x.swapped(), y.swapped());
        for (int what = -1; what < 8; what++) {
            Due.is(call + "many(" + what + ")", x.many(what), y.many(what));
        }
        for (int place = 0; place < 27; place++) {
            Due.is(call + "at", x.at(place / 9, place / 3 % 3, place % 3), y.at(place / 9, place / 3 % 3, place % 3));
        }
    }

    private void makeStep(String call) {
        int kind = any(0, 6);
        int shift = any(-2, 2);
        if (random.nextInt(3) == 0) {
            Due.is(call + "equation", x.equation(kind, shift), y.equation(kind, shift));
        } else {
            int e = e();
            Due.is(call + "change", x.change(e, kind, shift), y.change(e, kind, shift));
        }
    }

    private void askEquations(String call) {
        int e = e();
        int i = any(0, x.many(0) - 1);
        int j = any(0, x.many(1) - 1);
        int part = any(0, 1);
        int u = any(0, 8);
        int what = any(0, 6);
        String place = "(" + e + ", " + i + ", " + j + ", " + part + ")";
        Due.is(call + "of(" + e + ", " + what + ")", x.of(e, what), y.of(e, what));
        switch (random.nextInt(8)) {
            case 0:
                Due.is(call + "right" + place, x.right(e, i, j), y.right(e, i, j));
                break;
            case 1:
                Due.is(call + "solution" + place, x.solution(e, i, j, part), y.solution(e, i, j, part));
                break;
            case 2:
                Due.is(call + "base" + u + place, x.base(e, u, i, j, part), y.base(e, u, i, j, part));
                break;
            case 3:
                Due.is(call + "witness" + place, x.witness(e, i, j, part), y.witness(e, i, j, part));
                break;
            case 4:
                Due.is(call + "similar(" + e + ")", x.similar(e), y.similar(e));
                break;
            case 5:
                Due.is(call + "whole(" + e + ")", x.whole(e), y.whole(e));
                break;
            case 6:
                int s = any(1, 2);
                Due.is(call + "lower(" + e + ", " + s + ")", x.lower(e, s), y.lower(e, s));
                break;
            default:
                everyEntry(call, e);
                break;
        }
    }

    private void everyEntry(String call, int e) {
        for (int place = 0; place < 18; place++) {
            int i = place / 6;
            int j = place / 2 % 3;
            String at = "(" + e + ", " + i + ", " + j + ")";
            Due.is(call + "solution" + at, x.solution(e, i, j, place % 2), y.solution(e, i, j, place % 2));
            Due.is(call + "witness" + at, x.witness(e, i, j, place % 2), y.witness(e, i, j, place % 2));
            for (int u = 0; u < 6; u++) {
                Due.is(call + "base " + u + at, x.base(e, u, i, j, place % 2), y.base(e, u, i, j, place % 2));
            }
        }
    }

    private void numbersStep(String call) {
        int e = e();
        int sheet = any(0, 3);
        int d = any(1, 3);
        int shift = any(-2, 2);
        int part = any(0, 1);
        long above = aLong();
        long below = aLong();
        Due.is(call + "ratio(" + above + ", " + below + ", " + part + ")",
            x.ratio(above, below, part), y.ratio(above, below, part));
        long scale = y.lay(e, sheet);
        Due.is(call + "lay(" + e + ", " + sheet + ")", x.lay(e, sheet), scale);
        if (scale > 0) {
            for (int i = 0; i < 10; i++) {
                Due.is(call + "item " + i + " laid", x.item(sheet, 2, i), y.item(sheet, 2, i));
            }
            Due.is(call + "judge of laid", x.judge(e, sheet, (int) scale), 0);
            int i = any(0, x.many(0) * x.many(1) - 1);
            long v = any(-3, 3);
            if (random.nextBoolean()) {
                Due.is(call + "put", x.put(sheet, i, v), y.put(sheet, i, v));
            }
            d = random.nextBoolean() ? (int) scale : d;
        }
        Due.is(call + "judge", x.judge(e, sheet, d), y.judge(e, sheet, d));
        Due.is(call + "kinds", x.kinds(sheet, shift), y.kinds(sheet, shift));
        equalOne(call, sheet);
    }

    /** An X by lot made to be solved by making C its SUM, where C can be that. */
    private void equalOne(String call, int sheet) {
        int m = x.many(0);
        int n = x.many(1);
        x.sheet(sheet, 2, m * n);
        y.sheet(sheet, 2, m * n);
        boolean isTurnedLess = random.nextBoolean();
        for (int place = 0; place < m * n; place++) {
            int i = place / n;
            int j = place % n;
            int v = random.nextInt(3) - 1;
            if (m == n && j < i) {
                v = (int) y.item(sheet, 2, j * n + i) * (isTurnedLess ? -1 : 1);
            }
            if (i == j && isTurnedLess) {
                v = 0;
            }
            x.put(sheet, place, v);
            y.put(sheet, place, v);
        }
        int shift = random.nextInt(5) - 2;
        int kind = random.nextInt(7);
        for (int place = 0; place < m * n; place++) {
            int c = 0;
            for (int k = 0; k < m; k++) {
                c += (int) ((y.at(0, place / n, k) - 100) * y.item(sheet, 2, k * n + place % n));
            }
            for (int k = 0; k < n && (kind < 2 || m == n); k++) {
                long r = kind == 0 ? y.at(1, k, place % n) - 100 : kind == 1 ? 0
                    : kind == 2 || kind == 4 ? 100 - y.at(0, k, place % n) : y.at(0, place % n, k) - 100;
                c += (int) (r * y.item(sheet, 2, place / n * n + k));
            }
            c += (int) (shift * y.item(sheet, 2, place));
            Due.is(call + "set", x.set(2, place / n, place % n, c), y.set(2, place / n, place % n, c));
        }
        Due.is(call + "kinds", x.kinds(sheet, shift), y.kinds(sheet, shift));
        int e = e();
        Due.is(call + "judge", x.judge(e, sheet, 1), y.judge(e, sheet, 1));
    }

    private void sheetsStep(String call) {
        int sheet = any(0, 3);
        int other = any(0, 3);
        int sort = any(0, 3);
        int n = random.nextInt(3) == 0 ? any(0, 40) : any(0, 9);
        int i = any(0, 9);
        int j = any(0, 9);
        long v = aLong();
        if (random.nextInt(3) == 0) {
            int made = random.nextInt(6) == 0 ? -1 : sort;
            Due.is(call + "sheet", x.sheet(sheet, made, n), y.sheet(sheet, made, n));
        }
        Due.is(call + "put", x.put(sheet, i, v), y.put(sheet, i, v));
        Due.is(call + "item", x.item(sheet, sort, i), y.item(sheet, sort, i));
        int count = any(0, 4);
        Due.is(call + "move", x.move(sheet, i, other, j, count), y.move(sheet, i, other, j, count));
        for (int k = 0; k < 10; k++) {
            Due.is(call + "item", x.item(other, sort, k), y.item(other, sort, k));
        }
    }

    private void actsStep(String call) {
        int shelf = any(0, 3);
        int what = any(0, 2);
        int n = random.nextBoolean() ? e() : any(0, 3);
        int as = random.nextInt(3) == 0 ? any(10, 13) : any(0, 6);
        int act = any(0, 3);
        int arg = random.nextInt(3) == 0 ? random.nextInt() : any(-50, 50);
        if (random.nextInt(3) == 0) {
            Due.is(call + "shelf", x.shelf(shelf, what, n), y.shelf(shelf, what, n));
        }
        Due.is(call + "taken(" + shelf + ", " + as + ")", x.taken(shelf, as), y.taken(shelf, as));
        Due.is(call + "act(" + shelf + ", " + act + ", " + arg + ")", x.act(shelf, act, arg), y.act(shelf, act, arg));
        Due.is(call + "many(4)", x.many(4), y.many(4));
        for (int i = -1; i < 18; i++) {
            Due.is(call + "trace(" + i + ")", x.trace(i), y.trace(i));
        }
    }

    private void keptStep(String call) {
        switch (random.nextInt(6)) {
            case 0:
                Due.is(call + "keep", x.keep(), y.keep());
                break;
            case 1:
                Due.is(call + "again", x.again(), y.again());
                break;
            case 2:
                int v = random.nextInt();
                Due.is(call + "seed", x.seed(v), y.seed(v));
                break;
            case 3:
                Due.is(call + "lot", x.lot(), y.lot());
                break;
            default:
                int e = e();
                int n = any(1, 4);
                Due.is(call + "times(" + e + ", " + n + ")", x.times(e, n), y.times(e, n));
                break;
        }
    }
}
