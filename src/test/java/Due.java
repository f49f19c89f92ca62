/** What the tests share: counting answers that are not the due ones, and telling texts to THE TAPE. */
final class Due {
    static final long FAR_BAD = -4000000000000000001L;
    static final long FAR_NONE = -4000000000000000003L;
    static final long FAR_STATE = -4000000000000000004L;
    static final long FAR_BY_0 = -4000000000000000015L;
    static final long FAR_NO_LONG = -4000000000000000016L;

    private static int wrong = 0;
    private static int asked = 0;

    private Due() {
    }

    static void is(String call, long got, long want) {
        asked++;
        if (got != want) {
            wrong++;
            if (wrong <= 40) {
                System.out.println(call + " answered " + got + ", due is " + want);
            }
        }
    }

    static void end() {
        System.out.println(asked + " answers, " + wrong + " not as due");
        if (wrong != 0) {
            System.exit(1);
        }
    }

    /** Feeds a text, eight bytes a call: how many bytes THE TAPE has then. */
    static int feed(TwoSidedTables x, String text) {
        int had = x.many(3);
        for (int i = 0; i < text.length(); i += 8) {
            int n = Math.min(8, text.length() - i);
            long eight = 0;
            for (int k = n - 1; k >= 0; k--) {
                eight = eight << 8 | text.charAt(i + k) & 0xff;
            }
            had = x.feed(eight, n);
        }
        return had;
    }

    static int tell(TwoSidedTables x, String text) {
        feed(x, text);
        return x.text();
    }

    /** An object of a size with tables told by a text. */
    static TwoSidedTables told(int m, int n, String text) {
        TwoSidedTables x = new TwoSidedTables();
        x.size(m, n);
        int told = tell(x, text);
        if (told < 0) {
            is("a test's own text: " + text, told, 1);
        }
        return x;
    }

    /** The same with one EQUATION, number 0. */
    static TwoSidedTables one(int m, int n, String text, int kind, int shift) {
        TwoSidedTables x = told(m, n, text);
        x.equation(kind, shift);
        return x;
    }

    static void row(TwoSidedTables x, int sheet, int... items) {
        x.sheet(sheet, 2, items.length);
        for (int i = 0; i < items.length; i++) {
            x.put(sheet, i, items[i]);
        }
    }
}
