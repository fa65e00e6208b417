/** What the tests share: texts fed to an object, answers compared, the exit code. */
final class Check {
    private int wrong;

    /** A new object with the archive of a text. */
    AsOfPages with(String text) {
        AsOfPages x = new AsOfPages();
        int lines = load(x, text);
        if (lines < 0) {
            wrong++;
            System.out.println("a text is refused: fault " + x.fault(0) + " at " + x.fault(1) + " of " + text);
        }
        return x;
    }

    static int load(AsOfPages x, String text) {
        feedText(x, text);
        return x.archive();
    }

    static void feedText(AsOfPages x, String text) {
        int had = x.count(7);
        for (int at = 0; at < text.length(); at += 20) {
            x.feed(four(text, at), four(text, at + 4), four(text, at + 8), four(text, at + 12), four(text, at + 16));
        }
        x.end(had + text.length());
    }

    static int four(String text, int at) {
        int number = 0;
        for (int i = at; i < at + 4; i++) {
            number = number << 8 | (i < text.length() ? text.charAt(i) & 255 : 32);
        }
        return number;
    }

    static String out(AsOfPages x) {
        StringBuilder told = new StringBuilder();
        for (int i = 0; x.octet(i) >= 0; i++) {
            told.append((char) x.octet(i));
        }
        return told.toString();
    }

    /** All that an object tells of its archive, acts, views and OUT, but for its TAPE and its latest fault. */
    static String look(AsOfPages x) {
        StringBuilder seen = new StringBuilder();
        for (int what = 0; what <= 8; what++) {
            seen.append(what == 7 ? "" : x.count(what) + " ");
        }
        for (int s = 0; s <= x.count(4); s++) {
            seen.append("\n").append(x.shot(s, 0)).append(' ').append(x.shot(s, 1)).append(' ').append(x.shot(s, 2))
                .append(' ').append(x.shot(s, 3)).append(' ').append(x.shot(s, 4));
        }
        for (int b = 0; b <= x.count(3); b++) {
            seen.append("\n").append(x.body(b, 0)).append(' ').append(x.body(b, 1)).append(' ').append(x.body(b, 2))
                .append(' ').append(x.body(b, 3)).append(' ').append(x.body(b, 10)).append(' ').append(x.body(b, 20));
        }
        for (int p = 0; p <= x.count(2); p++) {
            seen.append("\n").append(x.shots(p)).append(' ').append(x.follow(p, 100, 0)).append(' ')
                .append(x.judged(p, 100)).append(' ').append(x.changes(p));
        }
        return seen.append('\n').append(out(x)).toString();
    }

    /** A text is refused by a fault of this kind at this place, and empties the tape. */
    AsOfPages fails(String text, int kind, int place) {
        AsOfPages x = new AsOfPages();
        due("archive of '" + text + "'", load(x, text), -4);
        due("fault(0) of '" + text + "'", x.fault(0), kind);
        due("fault(1) of '" + text + "'", x.fault(1), place);
        due("fault(2)", x.fault(2), -1);
        due("fault(-1)", x.fault(-1), -1);
        due("tape behind '" + text + "'", x.count(7), 0);
        return x;
    }

    /** The fault lies where a bar stands in the text (the bar is taken out). */
    AsOfPages failsAt(String text, int kind) {
        return fails(text.replace("|", ""), kind, text.indexOf('|'));
    }

    /** A text tells an archive of so many lines. */
    AsOfPages tells(String text, int lines) {
        AsOfPages x = new AsOfPages();
        due("archive of '" + text + "'", load(x, text), lines);
        due("fault(0) of '" + text + "'", x.fault(0), 0);
        due("fault(1) of '" + text + "'", x.fault(1), -1);
        due("count(6) of '" + text + "'", x.count(6), lines);
        due("tape behind '" + text + "'", x.count(7), 0);
        return x;
    }

    void due(String what, long got, long want) {
        if (got != want) {
            wrong++;
            System.out.println(what + " answered " + got + ", due is " + want);
        }
    }

    void due(String what, String got, String want) {
        if (!got.equals(want)) {
            wrong++;
            System.out.println(what + " answered '" + got + "', due is '" + want + "'");
        }
    }

    void wrong(String what) {
        wrong++;
        System.out.println(what);
    }

    boolean isClean() {
        return wrong == 0;
    }

    void finish() {
        System.out.println(wrong == 0 ? "all answers are as due" : wrong + " answers are not as due");
        if (wrong != 0) {
            System.exit(1);
        }
    }
}
