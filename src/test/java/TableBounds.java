/** Boundaries of promises 1 to 9, and of what the Terms say of tables and of THE TAPE. */
final class TableBounds {
    private static final int LOWEST = Integer.MIN_VALUE;
    private static final int HIGHEST = Integer.MAX_VALUE;

    private TableBounds() {
    }

    static void all() {
        newObject();
        sides();
        entries();
        size();
        setAndAt();
        det();
        diagonal();
        character();
        feed();
        tapeIsUsedUp();
        numbersOfAText();
        faults();
        text();
    }

    private static void newObject() {
        Sentences.of(1, "m, n are 2, all entries 0, no EQUATIONS; nothing is kept");
        TwoSidedTables x = new TwoSidedTables();
        Sentences.is("many(0)", x.many(0), 2);
        Sentences.is("many(1)", x.many(1), 2);
        Sentences.is("many(2)", x.many(2), 0);
        Sentences.is("of(0, 0)", x.of(0, 0), -1);
        Sentences.is("again()", x.again(), -3);
        for (int table = 0; table < 3; table++) {
            Sentences.is("the last entry", x.at(table, 1, 1), 100);
            Sentences.is("beyond it", x.at(table, 2, 1), -1);
            Sentences.is("beyond it", x.at(table, 1, 2), -1);
        }
    }

    private static void sides() {
        Sentences.of(Sentences.TERMS, "m, n are 1 to 3 (2 at first; all entries 0)");
        TwoSidedTables x = new TwoSidedTables();
        Sentences.is("size(1, 3) at first", x.size(1, 3), 22);
        Sentences.is("size(3, 1)", x.size(3, 1), 13);
        Sentences.is("size(0, 2)", x.size(0, 2), -1);
        Sentences.is("size(2, 4)", x.size(2, 4), -1);
        Sentences.is("many(0)", x.many(0), 3);
        Sentences.is("at(0, 2, 2)", x.at(0, 2, 2), 100);
    }

    private static void entries() {
        Sentences.of(Sentences.TERMS, "Entries of A, B are -5 to 5, of C -50 to 50.");
        TwoSidedTables x = new TwoSidedTables();
        int[] most = {5, 5, 50};
        for (int table = 0; table < 3; table++) {
            Sentences.is("the most", x.set(table, 0, 0, most[table]), 100);
            Sentences.is("one more", x.set(table, 0, 0, most[table] + 1), -1);
            Sentences.is("the least", x.set(table, 0, 0, -most[table]), 100 + most[table]);
            Sentences.is("one less", x.set(table, 0, 0, -most[table] - 1), -1);
            Sentences.is("what stays", x.at(table, 0, 0), 100 - most[table]);
        }
        Sentences.of(Sentences.TERMS, "Rows i and columns j are numbered from 0. PLACES of a table are numbered row by "
            + "row, from 0.");
        x = Due.told(2, 3, "c 1 2 3,4 5 6;");
        for (int place = 0; place < 6; place++) {
            Sentences.is("at PLACE " + place, x.at(2, place / 3, place % 3), 101 + place);
        }
        x.equation(0, 1);
        x.lay(0, 0);
        Sentences.is("X is C: PLACE 3 is i 1, j 0", x.item(0, 2, 3), 4);
    }

    private static void size() {
        Sentences.of(2, "m, n become others, all entries 0: 10 times m, and n, as they were.");
        TwoSidedTables x = Due.told(3, 3, "a 1 1 1,1 1 1,1 1 1;b 1 1 1,1 1 1,1 1 1;c 1 1 1,1 1 1,1 1 1;");
        Sentences.is("size(1, 1)", x.size(1, 1), 33);
        Sentences.is("back", x.size(3, 3), 11);
        for (int place = 0; place < 27; place++) {
            Sentences.is("no entry comes back", x.at(place / 9, place / 3 % 3, place % 3), 100);
        }
        x.set(2, 1, 1, 7);
        Sentences.is("the same size", x.size(3, 3), 33);
        Sentences.is("0 all the same", x.at(2, 1, 1), 100);
        Sentences.of(2, "BAD.");
        int[][] bad = {{0, 3}, {4, 3}, {3, 0}, {3, 4}, {-1, 3}, {3, -1}, {LOWEST, 3}, {3, HIGHEST}};
        x.set(0, 2, 2, 5);
        for (int[] b : bad) {
            Sentences.is("size(" + b[0] + ", " + b[1] + ")", x.size(b[0], b[1]), -1);
        }
        Sentences.is("m stays", x.many(0), 3);
        Sentences.is("n stays", x.many(1), 3);
        Sentences.is("entries stay", x.at(0, 2, 2), 105);
    }

    private static void setAndAt() {
        // the last entries of A, B, C where m is 2, n is 3: no table may be taken for another one
        int[][] last = {{1, 1}, {2, 2}, {1, 2}};
        Sentences.of(3, "becomes v: 100, and what it was. BAD.");
        TwoSidedTables x = new TwoSidedTables();
        x.size(2, 3);
        for (int table = 0; table < 3; table++) {
            int i = last[table][0];
            int j = last[table][1];
            Sentences.is("set the last", x.set(table, i, j, 4), 100);
            Sentences.is("set it again", x.set(table, i, j, -5), 104);
            Sentences.is("and again", x.set(table, i, j, 0), 95);
            Sentences.is("i too large", x.set(table, i + 1, j, 1), -1);
            Sentences.is("j too large", x.set(table, i, j + 1, 1), -1);
            Sentences.is("i below 0", x.set(table, -1, j, 1), -1);
            Sentences.is("j below 0", x.set(table, i, -1, 1), -1);
            Sentences.is("far off", x.set(table, HIGHEST, LOWEST, 1), -1);
            Sentences.is("v far off", x.set(table, i, j, LOWEST), -1);
            Sentences.is("v far off", x.set(table, i, j, HIGHEST), -1);
        }
        Sentences.is("table -1", x.set(-1, 0, 0, 1), -1);
        Sentences.is("table 3", x.set(3, 0, 0, 1), -1);
        Sentences.of(4, "100, and the entry of a table at i, j. BAD.");
        for (int table = 0; table < 3; table++) {
            int i = last[table][0];
            int j = last[table][1];
            x.set(table, i, j, -5);
            Sentences.is("the last", x.at(table, i, j), 95);
            Sentences.is("i too large", x.at(table, i + 1, j), -1);
            Sentences.is("j too large", x.at(table, i, j + 1), -1);
            Sentences.is("i below 0", x.at(table, -1, j), -1);
            Sentences.is("j below 0", x.at(table, i, -1), -1);
            Sentences.is("far off", x.at(table, LOWEST, HIGHEST), -1);
        }
        Sentences.is("table -1", x.at(-1, 0, 0), -1);
        Sentences.is("table 3", x.at(3, 0, 0), -1);
    }

    private static void det() {
        Sentences.of(5, "The determinant of A (0), B (1). Refused as told: BAD.");
        TwoSidedTables x = Due.told(3, 1, "a 5 5 5,5 -5 5,5 5 -5;b -5;");
        Sentences.is("as large as can be", x.det(0), 500);
        Sentences.is("of 1 by 1", x.det(1), -5);
        Sentences.is("of C", x.det(2), Due.FAR_BAD);
        Sentences.is("of -1", x.det(-1), Due.FAR_BAD);
        Sentences.is("of far off", x.det(LOWEST), Due.FAR_BAD);
        Due.tell(x, "a 5 5 5,5 5 -5,5 -5 5;");
        Sentences.is("as low as can be", x.det(0), -500);
    }

    private static void diagonal() {
        Sentences.of(6, "Refused as told: BAD; STATE: m is not n (C).");
        TwoSidedTables x = Due.told(3, 2, "a 5 0 0,0 5 0,0 0 5;b -5 0,0 -5;c 50 0,0 50,0 0;");
        Sentences.is("A, m is not n", x.diagonal(0), 15);
        Sentences.is("B, m is not n", x.diagonal(1), -10);
        Sentences.is("C, m is not n", x.diagonal(2), Due.FAR_STATE);
        Sentences.is("of 3", x.diagonal(3), Due.FAR_BAD);
        Sentences.is("of -1", x.diagonal(-1), Due.FAR_BAD);
        x = Due.told(3, 3, "c -50 0 0,0 -50 0,0 0 -50;");
        Sentences.is("C as low as can be", x.diagonal(2), -150);
    }

    private static void character() {
        Sentences.of(7, "CHARACTER of A (0), B (1): what x to the k-th power is taken times. Refused as told: BAD.");
        // (x - 1)(x - 2)(x - 3), and x + 4
        TwoSidedTables x = Due.told(3, 1, "a 1 0 0,0 2 0,0 0 3;b -4;");
        long[] a = {-6, 11, -6, 1};
        for (int k = 0; k <= 3; k++) {
            Sentences.is("A, k " + k, x.character(0, k), a[k]);
        }
        Sentences.is("A, k 4", x.character(0, 4), Due.FAR_BAD);
        Sentences.is("A, k -1", x.character(0, -1), Due.FAR_BAD);
        Sentences.is("B, k 0", x.character(1, 0), 4);
        Sentences.is("B, k 1", x.character(1, 1), 1);
        Sentences.is("B, k 2", x.character(1, 2), Due.FAR_BAD);
        Sentences.is("B, far off", x.character(1, LOWEST), Due.FAR_BAD);
        Sentences.is("A, far off", x.character(0, HIGHEST), Due.FAR_BAD);
        Sentences.is("C", x.character(2, 0), Due.FAR_BAD);
        Sentences.is("table -1", x.character(-1, 0), Due.FAR_BAD);
    }

    private static void feed() {
        Sentences.of(8, "n bytes (1 to 8) come to THE TAPE, the lowest of eight first: how many it has. BAD; FULL: more "
            + "than 200.");
        TwoSidedTables x = new TwoSidedTables();
        x.size(1, 1);
        Sentences.is("n 0", x.feed(0x20, 0), -1);
        Sentences.is("n 9", x.feed(0x20, 9), -1);
        Sentences.is("n -1", x.feed(0x20, -1), -1);
        Sentences.is("n far off", x.feed(0x20, LOWEST), -1);
        Sentences.is("n far off", x.feed(0x20, HIGHEST), -1);
        Sentences.is("a refused one feeds nothing", x.many(3), 0);
        // 'b' '-' '3' ';' and what is not told
        Sentences.is("n 4 of eight", x.feed(0x7a7a7a7a3b332d62L, 4), 4);
        Sentences.is("text()", x.text(), 1);
        Sentences.is("at(1, 0, 0)", x.at(1, 0, 0), 97);
        // the eighth byte is above all others: 0xff, no blank
        Sentences.is("n 8", x.feed(0xff2020203b332d62L, 8), 8);
        Sentences.is("text()", x.text(), -107);
        for (int i = 1; i <= 24; i++) {
            x.feed(0x2020202020202020L, 8);
        }
        Sentences.is("8 to 200", x.feed(0x2020202020202020L, 8), 200);
        Sentences.is("one more", x.feed(0x20, 1), -2);
        Sentences.is("eight more", x.feed(0x20, 8), -2);
        Sentences.is("n 9 of a full one: BAD first", x.feed(0x20, 9), -1);
        Sentences.is("many(3)", x.many(3), 200);
    }

    private static void tapeIsUsedUp() {
        Sentences.of(Sentences.TERMS, "THE TAPE takes bytes, 200 at most; text() uses it up.");
        TwoSidedTables x = new TwoSidedTables();
        String most = "a 1 2,3 4;".repeat(19) + "  ";
        Sentences.is("200, the last table without its end", Due.feed(x, most + "     a 1"), 200);
        Sentences.is("no more", x.feed(';', 1), -2);
        Sentences.is("text()", x.text(), -300);
        Sentences.is("used up by a FAULT", x.many(3), 0);
        Due.feed(x, most + "        ");
        Sentences.is("19 tables", x.text(), 19);
        Sentences.is("used up", x.many(3), 0);
        Sentences.is("again", x.text(), 0);
        Sentences.is("feed after", x.feed(';', 1), 1);
        // bytes of an earlier text are no bytes of a later one
        x = new TwoSidedTables();
        Due.tell(x, "a 1 2,3 4;");
        Sentences.is("the end that an earlier text had", Due.tell(x, "a 5 5,5 5"), -109);
        Sentences.is("the rest that an earlier text had", Due.tell(x, "a 5 5,"), -106);
        Sentences.is("it tells nothing", x.at(0, 0, 0), 101);
    }

    private static void numbersOfAText() {
        Sentences.of(Sentences.TERMS, "NUMBERS rows of digits (1 or 2), both as long as they go; blanks (32) part them, "
            + "and stand elsewhere as one likes.");
        told("a 1 2,3 4;", 1, 1);
        told("   a   1   2   ,   3   4   ;   ", 1, 1);
        told("a1 2,3 4;", 1, 1);
        told("a01 02,03 04;", 1, 1);
        told("a 00 2,3 4;", 1, 0);
        told("a - 5 2,3 4;", 1, -5);
        told("a-5-2,-3-4;", 1, -5);
        told("a -0 2,3 4;", 1, 0);
        told("a -05 2,3 4;", 1, -5);
        told("a 1 2,3 4;a 5 2,3 4;", 2, 5);
        told("a 1 2,3 4;b 1 2,3 4;c 1 2,3 4;", 3, 1);
        // what goes on is one NUMBER, or one NAME
        told("a 12,3 4;", -102, 0);
        told("c 123 4,5 6;", -102, 0);
        told("c 12 3,5 6; ab 1 2,3 4;", -112, 0);
        told("c 12 3,5 6; a a 1 2,3 4;", -114, 0);
    }

    /** A text on a new object: what text() answers, and A at 0, 0 after it. */
    private static void told(String text, int answer, int first) {
        TwoSidedTables x = new TwoSidedTables();
        Sentences.is("text '" + text + "'", Due.tell(x, text), answer);
        Sentences.is("A after '" + text + "'", x.at(0, 0, 0), 100 + first);
    }

    private static void faults() {
        Sentences.of(Sentences.TERMS, "FAULT: the place (from 0) of the first byte of the first NAME");
        told("b", -101, 0);
        told("d 1 2,3 4;", -100, 0);
        told("  bc 1 2,3 4;", -102, 0);
        told("z", -100, 0);
        told("b 1 2,a 4;", -106, 0);
        told("b 1 abc,3 4;", -104, 0);
        told("b 1 2,3 4 a;", -110, 0);
        told("b 1 2,3 4; x", -111, 0);
        Sentences.of(Sentences.TERMS, "NUMBER or other byte that can't stand there");
        told("0", -100, 0);
        told(" 12 ", -101, 0);
        told("b 1 2 3,3 4;", -106, 0);
        told("b 1 2 345,3 4;", -106, 0);
        told("b 1 2,3 4 5;", -110, 0);
        told(";", -100, 0);
        told(",", -100, 0);
        told("-", -100, 0);
        told("b,", -101, 0);
        told("b 1 2,3 4,", -109, 0);
        told("b 1 2;", -105, 0);
        told("b 1 2,3;", -107, 0);
        told("b 1 --2,3 4;", -105, 0);
        told("b 1 2 -,3 4;", -106, 0);
        told("b 1 -,3 4;", -105, 0);
        told("b\t1 2,3 4;", -101, 0);
        told("b 1 2,3 4;\n", -110, 0);
        told("b 1 2,3 4;\u0000", -110, 0);
        told("b 1\u00a02,3 4;", -103, 0);
        told("b 1 2,3 4\u00ff;", -109, 0);
        told("B 1 2,3 4;", -100, 0);
        told("`", -100, 0);
        told("{", -100, 0);
        told("b /", -102, 0);
        told("b :", -102, 0);
        Sentences.of(Sentences.TERMS, "or is not as told (a NUMBER of more digits, or of an entry that may not be)");
        told("b 1 000,3 4;", -104, 0);
        told("b 1 - 001,3 4;", -106, 0);
        told("b 5 6,3 4;", -104, 0);
        told("b -5 -6,3 4;", -106, 0);
        told("b 1 10,3 4;", -104, 0);
        told("c 50 51,3 4;", -105, 0);
        told("c -50 -51,3 4;", -107, 0);
        told("c 1 99,3 4;", -104, 0);
        told("c 1 100,3 4;", -104, 0);
        Sentences.of(Sentences.TERMS, "or the end (how many bytes there are), if more must come.");
        told("c", -101, 0);
        told("c  ", -103, 0);
        told("c 1", -103, 0);
        told("c 1 -", -105, 0);
        told("c 1 - ", -106, 0);
        told("c 1 2", -105, 0);
        told("c 1 2,", -106, 0);
        told("c 1 2,3 4", -109, 0);
        told("c 1 2,3 4  ", -111, 0);
        told("c 1 2,3 4;c", -111, 0);
        told("c" + " ".repeat(199), -300, 0);
    }

    private static void text() {
        Sentences.of(9, "THE TAPE tells TABLES (what it does not tell stays): how many times it told one");
        TwoSidedTables x = new TwoSidedTables();
        Sentences.is("an empty TAPE", x.text(), 0);
        Sentences.is("a blank", Due.tell(x, " "), 0);
        x.set(0, 1, 1, 3);
        x.set(1, 1, 1, 4);
        x.set(2, 1, 1, -50);
        Sentences.is("C twice", Due.tell(x, "c 1 2,3 4;c 5 6,7 8;"), 2);
        Sentences.is("C as told last", x.at(2, 1, 1), 108);
        Sentences.is("A stays", x.at(0, 1, 1), 103);
        Sentences.is("B stays", x.at(1, 1, 1), 104);
        x.size(1, 1);
        StringBuilder most = new StringBuilder();
        for (int i = 0; i < 66; i++) {
            most.append(i == 65 ? "b5;" : "b4;");
        }
        Sentences.is("66 times", Due.tell(x, most.toString()), 66);
        Sentences.is("B as told last", x.at(1, 0, 0), 105);
        Sentences.of(9, "-100 less its FAULT.");
        x = Due.told(2, 2, "a 1 2,3 4;");
        Sentences.is("a FAULT at 0", Due.tell(x, "?"), -100);
        Sentences.is("a FAULT at 20", Due.tell(x, "a 5 5,5 5;b 5 5,5 5;?"), -120);
        Sentences.is("tables ahead of it are not told either", x.at(0, 0, 0), 101);
        Sentences.is("nor others", x.at(1, 0, 0), 100);
    }
}
