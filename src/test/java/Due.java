/** What all tests share: it counts answers that are due and tells those that aren't. */
final class Due {
    private int passed = 0;
    private int failed = 0;
    private String promise = "";

    void promise(String name) {
        promise = name;
    }

    void due(String call, long got, long want) {
        if (got == want) {
            passed++;
            return;
        }
        failed++;
        System.out.println(promise + ": " + call + " answered " + got + ", due is " + want);
    }

    /** Reads a text as a house. */
    static int read(CutDeeper x, String text) {
        for (int i = 0; i < text.length(); i++) {
            x.feed(text.charAt(i));
        }
        return x.house();
    }

    static CutDeeper of(String text) {
        CutDeeper x = new CutDeeper();
        if (read(x, text) < 0) {
            throw new IllegalStateException("no house: " + text);
        }
        return x;
    }

    /** Puts a row of longs into a shelf. */
    static void tell(CutDeeper x, int s, long... told) {
        x.row(s, 3, told.length);
        for (int i = 0; i < told.length; i++) {
            x.set(s, i, told[i]);
        }
    }

    void end() {
        System.out.println(passed + " passed, " + failed + " failed");
        if (failed != 0) {
            System.exit(1);
        }
    }
}
