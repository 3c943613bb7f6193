import java.nio.charset.StandardCharsets;

/** What the tests share: due answers, and texts put on the tape. */
final class Check {
    private static int asked = 0;
    private static int wrong = 0;
    private static String words = "";

    private Check() {
    }

    /** The document's own words, told with every wrong answer from here on. */
    static void says(String itsWords) {
        words = " (the document: " + itsWords + ")";
    }

    static void due(String call, long got, long want) {
        asked++;
        if (got != want) {
            wrong++;
            System.out.println(call + " answered " + got + ", due is " + want + words);
        }
    }

    static void holds(String claim, boolean is) {
        due(claim, is ? 1 : 0, 1);
    }

    /** Puts a text on the tape, which must be empty: eight bytes a call, then the tape is cut. */
    static void lay(SavedThird x, String text) {
        byte[] bytes = text.getBytes(StandardCharsets.ISO_8859_1);
        int laid = 0;
        while (laid < bytes.length) {
            long eight = 0;
            for (int i = 0; i < 8; i++) {
                int b = laid + i < bytes.length ? bytes[laid + i] & 255 : 0;
                eight = eight << 8 | b;
            }
            laid += 8;
            due("feed for: " + text, x.feed(eight), laid);
        }
        due("end for: " + text, x.end(bytes.length), laid);
    }

    static void told(SavedThird x, String text, int lines) {
        lay(x, text);
        due("text() of: " + text, x.text(), lines);
        due("fault() of: " + text, x.fault(), 0);
        due("the tape behind: " + text, x.count(8), 0);
        due("lines of: " + text, x.count(6), lines);
    }

    static void faulty(SavedThird x, String text, int fault, int place) {
        int lines = x.count(6);
        lay(x, text);
        due("text() of: " + text, x.text(), -10 - place);
        due("fault() of: " + text, x.fault(), fault);
        due("the tape behind: " + text, x.count(8), 0);
        due("lines behind: " + text, x.count(6), lines);
    }

    static void months(SavedThird x, int n) {
        for (int i = 0; i < n; i++) {
            x.month();
        }
    }

    /** The same water in all months of the year. */
    static void flood(SavedThird x, int m, int v) {
        for (int month = 0; month < 12; month++) {
            x.water(m, month, v);
        }
    }

    static void close(String name) {
        System.out.println(name + ": " + asked + " answers, " + wrong + " not as due");
        if (wrong != 0) {
            System.exit(1);
        }
    }
}
