/** Promises 1 to 9. */
final class TablesTest {
    public static void main(String[] args) {
        newObject();
        size();
        setAndAt();
        determinants();
        characters();
        feeding();
        texts();
        faults();
        Due.end();
    }

    private static void newObject() {
        TwoSidedTables x = new TwoSidedTables();
        for (int table = 0; table < 3; table++) {
            for (int place = 0; place < 4; place++) {
                Due.is("at of a new object", x.at(table, place / 2, place % 2), 100);
            }
        }
        int[] due = {2, 2, 0, 0, 0, 0, 2, -1};
        for (int what = 0; what < due.length; what++) {
            Due.is("many(" + what + ") of a new object", x.many(what), due[what]);
        }
        Due.is("many(-1)", x.many(-1), -1);
        Due.is("again of a new object", x.again(), -3);
        Due.is("trace of a new object", x.trace(0), -3);
        Due.is("seed of a new object", x.seed(5), 1);
        for (int i = 0; i < 4; i++) {
            Due.is("item of a missing sheet", x.item(i, 2, 0), -11);
            Due.is("taken of an empty shelf", x.taken(i, 0), -11);
        }
    }

    private static void size() {
        TwoSidedTables x = new TwoSidedTables();
        int was = 22;
        for (int m = 1; m <= 3; m++) {
            for (int n = 1; n <= 3; n++) {
                Due.is("size", x.size(m, n), was);
                was = 10 * m + n;
                Due.is("many(0)", x.many(0), m);
                Due.is("many(1)", x.many(1), n);
                Due.is("last of A", x.at(0, m - 1, m - 1), 100);
                Due.is("beyond A", x.at(0, m, 0), -1);
                Due.is("last of B", x.at(1, n - 1, n - 1), 100);
                Due.is("beyond B", x.at(1, 0, n), -1);
                Due.is("last of C", x.at(2, m - 1, n - 1), 100);
                Due.is("beyond C's rows", x.at(2, m, 0), -1);
                Due.is("beyond C's columns", x.at(2, 0, n), -1);
                x.set(0, m - 1, m - 1, 3);
                x.set(1, n - 1, n - 1, 3);
                x.set(2, m - 1, n - 1, 3);
            }
        }
        int[][] bad = {{0, 2}, {4, 2}, {2, 0}, {2, 4}, {-1, 1}, {Integer.MIN_VALUE, 1}, {1, Integer.MAX_VALUE}};
        for (int[] b : bad) {
            Due.is("size of no such", x.size(b[0], b[1]), -1);
        }
        Due.is("refused size changes nothing", x.at(0, 2, 2), 103);
        Due.is("size again", x.size(3, 3), 33);
        Due.is("the same size: 0 too", x.at(0, 2, 2), 100);
        x.equation(5, 2);
        x.sheet(0, 0, 3);
        x.size(1, 3);
        Due.is("equations stay", x.of(0, 0), 5);
        Due.is("sheets stay", x.item(0, 0, 2), 0);
    }

    private static void setAndAt() {
        TwoSidedTables x = new TwoSidedTables();
        int[] reach = {5, 5, 50};
        for (int table = 0; table < 3; table++) {
            Due.is("set", x.set(table, 1, 0, reach[table]), 100);
            Due.is("set", x.set(table, 1, 0, -reach[table]), 100 + reach[table]);
            Due.is("at", x.at(table, 1, 0), 100 - reach[table]);
            Due.is("set too far", x.set(table, 1, 0, reach[table] + 1), -1);
            Due.is("set too low", x.set(table, 1, 0, -reach[table] - 1), -1);
            Due.is("set far off", x.set(table, 1, 0, Integer.MIN_VALUE), -1);
            Due.is("at", x.at(table, 1, 0), 100 - reach[table]);
            Due.is("its neighbour", x.at(table, 0, 1), 100);
            Due.is("set, i", x.set(table, 2, 0, 1), -1);
            Due.is("set, i", x.set(table, -1, 0, 1), -1);
            Due.is("set, j", x.set(table, 0, 2, 1), -1);
            Due.is("set, j", x.set(table, 0, -1, 1), -1);
            Due.is("at, i", x.at(table, -1, 0), -1);
            Due.is("at, j", x.at(table, 0, Integer.MAX_VALUE), -1);
        }
        Due.is("set, table", x.set(3, 0, 0, 1), -1);
        Due.is("set, table", x.set(-1, 0, 0, 1), -1);
        Due.is("at, table", x.at(3, 0, 0), -1);
        Due.is("at, table", x.at(-1, 0, 0), -1);
    }

    private static void determinants() {
        TwoSidedTables x = Due.told(3, 2, "a 1 2 3, 4 5 -1, 2 -3 4; b 5 -4, 3 2; c 1 2, 3 4, 5 6;");
        Due.is("det(0)", x.det(0), -85);
        Due.is("det(1)", x.det(1), 22);
        Due.is("det(2)", x.det(2), Due.FAR_BAD);
        Due.is("det(-1)", x.det(-1), Due.FAR_BAD);
        Due.is("diagonal(0)", x.diagonal(0), 10);
        Due.is("diagonal(1)", x.diagonal(1), 7);
        Due.is("diagonal(2)", x.diagonal(2), Due.FAR_STATE);
        Due.is("diagonal(3)", x.diagonal(3), Due.FAR_BAD);
        Due.is("diagonal(-1)", x.diagonal(-1), Due.FAR_BAD);
        x = Due.told(1, 1, "a-4;b 3;c-50;");
        Due.is("det(0)", x.det(0), -4);
        Due.is("det(1)", x.det(1), 3);
        Due.is("diagonal(2)", x.diagonal(2), -50);
    }

    private static void characters() {
        TwoSidedTables x = Due.told(3, 2, "a 1 2 3, 4 5 -1, 2 -3 4; b 5 -4, 3 2;");
        long[] a = {85, 12, -10, 1};
        for (int k = 0; k < 4; k++) {
            Due.is("character(0, " + k + ")", x.character(0, k), a[k]);
        }
        long[] b = {22, -7, 1};
        for (int k = 0; k < 3; k++) {
            Due.is("character(1, " + k + ")", x.character(1, k), b[k]);
        }
        Due.is("character(0, 4)", x.character(0, 4), Due.FAR_BAD);
        Due.is("character(1, 3)", x.character(1, 3), Due.FAR_BAD);
        Due.is("character(0, -1)", x.character(0, -1), Due.FAR_BAD);
        Due.is("character(2, 0)", x.character(2, 0), Due.FAR_BAD);
        Due.is("character(-1, 0)", x.character(-1, 0), Due.FAR_BAD);
        x = Due.told(1, 1, "a-4;");
        Due.is("character(0, 0)", x.character(0, 0), 4);
        Due.is("character(0, 1)", x.character(0, 1), 1);
        Due.is("character(0, 2)", x.character(0, 2), Due.FAR_BAD);
    }

    private static void feeding() {
        TwoSidedTables x = new TwoSidedTables();
        Due.is("feed, 0", x.feed(1, 0), -1);
        Due.is("feed, 9", x.feed(1, 9), -1);
        Due.is("feed, below 0", x.feed(1, -1), -1);
        for (int i = 1; i <= 24; i++) {
            Due.is("feed", x.feed(0x2020202020202020L, 8), 8 * i);
        }
        Due.is("feed", x.feed(0x2020202020202020L, 7), 199);
        Due.is("feed beyond", x.feed(0x2020, 2), -2);
        Due.is("feed, BAD first", x.feed(0x2020, 9), -1);
        Due.is("feed the last", x.feed(0x20, 1), 200);
        Due.is("feed beyond", x.feed(0x20, 1), -2);
        Due.is("many(3)", x.many(3), 200);
        Due.is("text of blanks", x.text(), 0);
        Due.is("many(3)", x.many(3), 0);
        Due.is("feed after", x.feed(0x20, 1), 1);
        // the lowest byte first; bytes above the n are no matter
        x = new TwoSidedTables();
        x.size(1, 1);
        x.feed(0x7a7a003b3562L & 0xffffffL | 0x7a7a7a000000L, 3);
        Due.is("text of b5;", x.text(), 1);
        Due.is("at", x.at(1, 0, 0), 105);
    }

    private static void texts() {
        TwoSidedTables x = new TwoSidedTables();
        Due.is("text of nothing", x.text(), 0);
        Due.is("text", Due.tell(x, "  a 1 -2 , - 3 04;c12-50,50 0 ; a 5 5,0 1;  "), 3);
        int[] a = {105, 105, 100, 101};
        int[] c = {112, 50, 150, 100};
        for (int place = 0; place < 4; place++) {
            Due.is("A told again", x.at(0, place / 2, place % 2), a[place]);
            Due.is("C", x.at(2, place / 2, place % 2), c[place]);
            Due.is("B is not told", x.at(1, place / 2, place % 2), 100);
        }
        x = new TwoSidedTables();
        x.size(1, 1);
        StringBuilder many = new StringBuilder();
        for (int i = 0; i < 66; i++) {
            many.append("a").append(i % 6).append(";");
        }
        many.append("  ");
        Due.is("text of 66", Due.tell(x, many.toString()), 66);
        Due.is("the last", x.at(0, 0, 0), 105);
        x.size(2, 3);
        Due.is("C of 2 by 3", Due.tell(x, "c1 2 3,4 5 6;a1 2,3 4;b1 2 3,4 5 1,2 3 4;"), 3);
        Due.is("at", x.at(2, 1, 0), 104);
        Due.is("at", x.at(2, 0, 2), 103);
        Due.is("at", x.at(1, 2, 2), 104);
    }

    private static void faults() {
        fault("d 1 2,3 4;", 0);
        fault("A 1 2,3 4;", 0);
        fault("ab 1 2,3 4;", 0);
        fault(" aa 1 2,3 4;", 1);
        fault("1 2,3 4;", 0);
        fault("a", 1);
        fault("a  ", 3);
        fault("a 1", 3);
        fault("a 1 2", 5);
        fault("a 1 2,", 6);
        fault("a 1 2,3 4", 9);
        fault("a 1 2,3 4   ", 12);
        fault("a 1 -", 5);
        fault("a,1 2,3 4;", 1);
        fault("a 1,3 4;", 3);
        fault("a 1 2;", 5);
        fault("a 1 2 3,4;", 6);
        fault("a 1 2 -3,4;", 6);
        fault("a 1 2,3 4,", 9);
        fault("a 1 2,3 4 5;", 10);
        fault("a 1 2,3 4 b", 10);
        fault("a 1 b,3 4;", 4);
        fault("a 1 - - 2,3 4;", 6);
        fault("a 1 -b,3 4;", 5);
        fault("a 1 -  6,3 4;", 7);
        fault("a 1 6,3 4;", 4);
        fault("a 1 06,3 4;", 4);
        fault("a 1 005,3 4;", 4);
        fault("a 1 123,3 4;", 4);
        fault("c 1 51,3 4;", 4);
        fault("c 1 -51,3 4;", 5);
        fault("c 1 +5,3 4;", 4);
        fault("c 1\t5,3 4;", 3);
        fault("c 1 5,3 4;;", 10);
        fault("c 1 5,3 4;,", 10);
        fault("c 1 5,3 4; 7", 11);
        fault("c 1 5,3 4; \u00e9", 11);
        fault("c 1 5,3 4; abc", 11);
        fault("c 1 5,3 4; a 1 2,3 9;", 19);
        fault("c 1 5,3 4\u0000;", 9);
        fault("c 1 5.3 4;", 5);
        TwoSidedTables x = Due.told(2, 2, "a 1 2,3 4;");
        Due.is("a fault", Due.tell(x, "a 5 5,5 5;b 1"), -113);
        Due.is("changes nothing", x.at(0, 0, 0), 101);
        Due.is("but the tape", x.many(3), 0);
        StringBuilder full = new StringBuilder("a");
        while (full.length() < 200) {
            full.append(' ');
        }
        Due.is("the end of a full tape", Due.tell(x, full.toString()), -300);
        full.setLength(0);
        while (full.length() < 200) {
            full.append('1');
        }
        Due.is("a full tape of digits", Due.tell(x, full.toString()), -100);
        x.size(1, 3);
        Due.is("rows as many as it has", Due.tell(x, "c 1 2 3,"), -107);
    }

    private static void fault(String text, int place) {
        TwoSidedTables x = new TwoSidedTables();
        Due.is("text of '" + text + "'", Due.tell(x, text), -100 - place);
        Due.is("many(3) after '" + text + "'", x.many(3), 0);
    }
}
