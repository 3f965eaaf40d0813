import java.util.NoSuchElementException;

/** Counts what is as due and what is not, and puts texts on tapes. */
final class Check {
    static int passed = 0;
    static int failed = 0;
    private static int edges = 0;
    private static int rowsAtEdge = 0;
    private static String edge = "";

    static void due(String what, long got, long want) {
        if (got == want) {
            passed++;
        } else {
            failed++;
            System.out.println(edge + what + " answered " + got + ", due is " + want);
        }
    }

    /** A test of its own begins: of one sentence of the document, by a promise. */
    static void edge(int promise, String sentence) {
        endEdge();
        edges++;
        edge = "Promise " + promise + ": \"" + sentence + "\": ";
        rowsAtEdge = passed + failed;
    }

    private static void endEdge() {
        if (edges > 0 && rowsAtEdge == passed + failed) {
            due("the test asks something", false, true);
        }
    }

    static void due(String what, boolean got, boolean want) {
        due(what, got ? 1 : 0, want ? 1 : 0);
    }

    static void sourceThrows(SmellMap x, int source, int what) {
        boolean thrown = false;
        try {
            x.source(source, what);
        } catch (NoSuchElementException e) {
            thrown = true;
        }
        due("source(" + source + ", " + what + ") throws", thrown, true);
    }

    /** Twenty bytes of a text as the five numbers that feed() takes. */
    static int[] numbers(String text, int from) {
        int[] numbers = new int[5];
        for (int i = 0; i < 20; i++) {
            int sign = from + i < text.length() ? text.charAt(from + i) : 0;
            numbers[i / 4] |= sign << 24 - 8 * (i % 4);
        }
        return numbers;
    }

    static void put(SmellMap x, String text) {
        x.end(0);
        for (int from = 0; from < text.length(); from += 20) {
            int[] n = numbers(text, from);
            x.feed(n[0], n[1], n[2], n[3], n[4]);
        }
    }

    static SmellMap city(String text) {
        SmellMap x = new SmellMap();
        put(x, text);
        if (x.text(0) < 0) {
            due("text(0) of " + text, -1, 1);
        }
        return x;
    }

    /** One law more, which holds from now on. */
    static void law(SmellMap x, String text) {
        put(x, text);
        int law = x.text(1);
        due("law(" + law + ") of " + text, law >= 0 && x.law(law), true);
    }

    /** A text with ^ ahead of its first wrong byte, or with none if it is right: as a city (0), as a law (1). */
    static void read(int sort, String marked) {
        int want = marked.indexOf('^');
        String text = want < 0 ? marked : marked.substring(0, want) + marked.substring(want + 1);
        SmellMap x = new SmellMap();
        put(x, text);
        due("fault(" + sort + ") of \"" + text + "\"", x.fault(sort), want);
        due("bytes behind fault(" + sort + ") of \"" + text + "\"", x.count(5), text.length());
        due("text(" + sort + ") of \"" + text + "\" is refused", x.text(sort) == SmellMap.NONE, want >= 0);
        due("bytes behind text(" + sort + ") of \"" + text + "\"", x.count(5), want < 0 ? 0 : text.length());
    }

    static int cityFault(String text) {
        SmellMap x = new SmellMap();
        put(x, text);
        return x.fault(0);
    }

    static int lawFault(String text) {
        SmellMap x = new SmellMap();
        put(x, text);
        return x.fault(1);
    }

    static void close(String name) {
        endEdge();
        edge = "";
        if (edges > 0) {
            System.out.println(name + ": " + edges + " sentences");
        }
        System.out.println(name + ": " + passed + " as due, " + failed + " not");
        if (failed != 0) {
            System.exit(1);
        }
    }

    private Check() {
    }
}
