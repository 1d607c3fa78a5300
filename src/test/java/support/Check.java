/** What all tests need: a count of wrong answers, and texts put on the tape. */
final class Check {
    private int asked = 0;
    private int wrong = 0;

    void due(String what, long got, long want) {
        asked++;
        if (got != want) {
            wrong++;
            System.out.println(what + " answered " + got + ", due is " + want);
        }
    }

    void due(String what, boolean got, boolean want) {
        due(what, got ? 1 : 0, want ? 1 : 0);
    }

    /** The READ of an address, or 'thrown' if the document's exception came. */
    static long read(StripeShelf x, int address, long thrown) {
        try {
            return x.read(address);
        } catch (java.util.NoSuchElementException e) {
            return thrown;
        }
    }

    /** The five numbers of each feed that bring a text to the tape. */
    static int[][] words(String text) {
        int[][] feeds = new int[(text.length() + 19) / 20][5];
        for (int i = 0; i < text.length(); i++) {
            feeds[i / 20][i % 20 / 4] |= (text.charAt(i) & 255) << 24 - i % 4 * 8;
        }
        return feeds;
    }

    /** The tape has this text alone. */
    static void tape(StripeShelf x, String text) {
        x.end(0);
        for (int[] w : words(text)) {
            x.feed(w[0], w[1], w[2], w[3], w[4]);
        }
    }

    static int fault(StripeShelf x, int sort, String text) {
        tape(x, text);
        return x.fault(sort);
    }

    static int take(StripeShelf x, int sort, String text) {
        tape(x, text);
        return x.text(sort);
    }

    static StripeShelf shelf(String text) {
        StripeShelf x = new StripeShelf();
        take(x, 0, text);
        return x;
    }

    /** Ends the test: exit code 1 if an answer was wrong. */
    void finish(String name) {
        System.out.println(name + ": " + asked + " answers, " + wrong + " wrong");
        if (wrong != 0) {
            System.exit(1);
        }
    }
}
