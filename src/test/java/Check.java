/** What the tests share: texts fed to an object, answers compared, the exit code. */
final class Check {
    private int wrong;

    /** A new object with the archive of a text. */
    AsOfPages with(String text) {
        AsOfPages x = new AsOfPages();
        int lines = load(x, text);
        if (lines < 0) {
            wrong++;
            System.out.println("a text is refused: fault " + x.fault(0) + " at " + x.fault(1) + " of " + text);
        }
        return x;
    }

    static int load(AsOfPages x, String text) {
        feedText(x, text);
        return x.archive();
    }

    static void feedText(AsOfPages x, String text) {
        int had = x.count(7);
        for (int at = 0; at < text.length(); at += 20) {
            x.feed(four(text, at), four(text, at + 4), four(text, at + 8), four(text, at + 12), four(text, at + 16));
        }
        x.end(had + text.length());
    }

    static int four(String text, int at) {
        int number = 0;
        for (int i = at; i < at + 4; i++) {
            number = number << 8 | (i < text.length() ? text.charAt(i) & 255 : 32);
        }
        return number;
    }

    static String out(AsOfPages x) {
        StringBuilder told = new StringBuilder();
        for (int i = 0; x.octet(i) >= 0; i++) {
            told.append((char) x.octet(i));
        }
        return told.toString();
    }

    void due(String what, long got, long want) {
        if (got != want) {
            wrong++;
            System.out.println(what + " answered " + got + ", due is " + want);
        }
    }

    void due(String what, String got, String want) {
        if (!got.equals(want)) {
            wrong++;
            System.out.println(what + " answered '" + got + "', due is '" + want + "'");
        }
    }

    void wrong(String what) {
        wrong++;
        System.out.println(what);
    }

    boolean isClean() {
        return wrong == 0;
    }

    void finish() {
        System.out.println(wrong == 0 ? "all answers are as due" : wrong + " answers are not as due");
        if (wrong != 0) {
            System.exit(1);
        }
    }
}
