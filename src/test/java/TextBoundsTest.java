/**
 * The bounds that term I and promises 2 to 5 name, a method for each sentence: at the bound, one below, one above,
 * with nothing, with all that there may be.
 */
public final class TextBoundsTest {
    private static final Check CHECK = new Check();
    private static final String HEAD = "archive law 0 carry 0;";
    private static final String ONE = HEAD + "page a;body k weight 1;";
    private static final int BLANKS = 0x20202020;

    private static void due(String what, long got, long want) {
        CHECK.due(what, got, want);
    }

    private static String pages(int n) {
        StringBuilder text = new StringBuilder(HEAD);
        for (int p = 0; p < n; p++) {
            text.append("page ").append((char) ('a' + p)).append(';');
        }
        return text.toString();
    }

    private static String bodies(int n) {
        StringBuilder text = new StringBuilder(HEAD);
        for (int b = 0; b < n; b++) {
            text.append("body ").append((char) ('k' + b)).append(" weight ").append(b + 1).append(';');
        }
        return text.toString();
    }

    /** SHOTS of all kinds, SHOT s on DAY 9 s. */
    private static String shots(int n) {
        String[] words = {"shot a at # is k;", "same a at #;", "move a at # to a;", "gone a at #;"};
        StringBuilder text = new StringBuilder(ONE);
        for (int s = 0; s < n; s++) {
            text.append(words[s % 4].replace("#", String.valueOf(9 * s)));
        }
        return text.toString();
    }

    // Term I, the lines.

    /** "TEXT: {LINE ;}": none, one, the sign behind each. */
    private static void lines() {
        CHECK.tells("", 0);
        CHECK.tells(HEAD, 1);
        CHECK.tells(HEAD + "page a;", 2);
        CHECK.failsAt("|;", 1);
        CHECK.failsAt(HEAD + "|;", 1);
        CHECK.failsAt("archive law 0 carry 0|", 1);
        CHECK.failsAt("archive law 0 carry 0 |page a;", 1);
        CHECK.failsAt(HEAD + "page a|", 1);
        CHECK.failsAt(HEAD + "page a;|;", 1);
    }

    /** "archive is the first LINE and no other". */
    private static void archiveFirst() {
        for (String line : new String[] {"page a;", "body k weight 1;", "shot a at 1 is k;", "same a at 1;",
            "move a at 1 to a;", "gone a at 1;"}) {
            CHECK.failsAt("|" + line + HEAD, 1);
        }
        CHECK.failsAt(HEAD + "|" + HEAD, 1);
        CHECK.failsAt(ONE + "gone a at 1;|" + HEAD, 1);
    }

    /** "L 0 .. 2". */
    private static void law() {
        for (int law = 0; law <= 2; law++) {
            AsOfPages x = CHECK.tells("archive law " + law + " carry 0;", 1);
            due("LAW " + law, x.count(0), law);
            due("CARRY beside LAW " + law, x.count(1), 0);
        }
        CHECK.failsAt("archive law |3 carry 0;", 2);
        CHECK.failsAt("archive law |-1 carry 0;", 1);
    }

    /** "K 0, 1". */
    private static void carry() {
        for (int carry = 0; carry <= 1; carry++) {
            AsOfPages x = CHECK.tells("archive law 0 carry " + carry + ";", 1);
            due("CARRY " + carry, x.count(1), carry);
            due("LAW beside CARRY " + carry, x.count(0), 0);
        }
        CHECK.failsAt("archive law 0 carry |2;", 2);
        CHECK.failsAt("archive law 0 carry |-1;", 1);
    }

    /** "PAGES 0 .. 7", "a ninth page .. at its word". */
    private static void pageCounts() {
        for (int n = 0; n <= 8; n++) {
            AsOfPages x = CHECK.tells(pages(n), n + 1);
            due("PAGES of " + n, x.count(2), n);
            due("the last of " + n + " PAGES", x.shots(n - 1), n == 0 ? -2 : 0);
            due("behind the last of " + n + " PAGES", x.shots(n), -2);
        }
        CHECK.failsAt(pages(8) + "|page i;", 3);
        CHECK.failsAt(pages(8) + "body k weight 1;|page i;", 3);
    }

    /** "BODIES 0 .. 9", "an eleventh body .. at its word". */
    private static void bodyCounts() {
        for (int n = 0; n <= 10; n++) {
            AsOfPages x = CHECK.tells(bodies(n), n + 1);
            due("BODIES of " + n, x.count(3), n);
            due("the last of " + n + " BODIES", x.body(n - 1, 0), n == 0 ? -2 : n);
            due("behind the last of " + n + " BODIES", x.body(n, 0), -2);
        }
        CHECK.failsAt(bodies(10) + "|body u weight 1;", 3);
        CHECK.failsAt(bodies(10) + "page a;|body u weight 1;", 3);
    }

    /** "SHOTS 0 .. 39 (shot, same, move, gone), as they stand", "a 41st SHOT .. at its word". */
    private static void shotCounts() {
        for (int n : new int[] {0, 1, 39, 40}) {
            AsOfPages x = CHECK.tells(shots(n), n + 3);
            due("SHOTS of " + n, x.count(4), n);
            due("the last of " + n + " SHOTS", x.shot(n - 1, 1), n == 0 ? -2 : 9 * n - 9);
            due("behind the last of " + n + " SHOTS", x.shot(n, 1), -2);
        }
        AsOfPages all = CHECK.tells(shots(40), 43);
        for (int s = 0; s < 40; s++) {
            due("kind of SHOT " + s, all.shot(s, 2), s % 4);
        }
        for (String line : new String[] {"shot a at 1 is k;", "same a at 1;", "move a at 1 to a;", "gone a at 1;"}) {
            CHECK.tells(shots(39) + line, 43);
            CHECK.failsAt(shots(40) + "|" + line, 3);
        }
        CHECK.tells(shots(40) + "page b;body l weight 1;", 45);
    }

    /** "W 1 .. 999". */
    private static void weights() {
        for (int weight : new int[] {1, 2, 998, 999}) {
            due("WEIGHT " + weight, CHECK.tells(HEAD + "body k weight " + weight + ";", 2).body(0, 0), weight);
        }
        CHECK.failsAt(HEAD + "body k weight |0;", 2);
        CHECK.failsAt(HEAD + "body k weight |1000;", 2);
        CHECK.failsAt(HEAD + "body k weight |-1;", 1);
    }

    /** "part, link: of a PAGE told ahead". */
    private static void toldAhead() {
        CHECK.tells(HEAD + "page a;body k weight 1 part a link a;", 3);
        CHECK.failsAt(HEAD + "body k weight 1 part |a;page a;", 2);
        CHECK.failsAt(HEAD + "body k weight 1 link |a;page a;", 2);
        CHECK.failsAt(HEAD + "body l weight 1;body k weight 1 part |l;", 2);
        CHECK.failsAt(HEAD + "body k weight 1 link |k;", 2);
    }

    /** "4 each at most", "a fifth part, link, at its word". */
    private static void fourEach() {
        for (int n = 0; n <= 4; n++) {
            AsOfPages x = CHECK.tells(ONE + "body l weight 1" + " part a".repeat(n) + " link a".repeat(4 - n) + ";", 4);
            due(n + " PARTS", x.body(1, 1), n);
            due(4 - n + " LINKS", x.body(1, 2), 4 - n);
        }
        AsOfPages all = CHECK.tells(ONE + "body l weight 1" + " part a".repeat(4) + " link a".repeat(4) + ";", 4);
        due("four PARTS", all.body(1, 1), 4);
        due("four LINKS", all.body(1, 2), 4);
        CHECK.failsAt(ONE + "body l weight 1" + " part a".repeat(4) + " |part a;", 3);
        CHECK.failsAt(ONE + "body l weight 1" + " link a".repeat(4) + " |link a;", 3);
        CHECK.failsAt(ONE + "body l weight 1" + " part a".repeat(4) + " link a".repeat(4) + " |link a;", 3);
        // Each BODY has its own four.
        CHECK.tells(ONE + ("body l weight 1" + " part a".repeat(4) + ";") + ("body m weight 1" + " part a".repeat(4) + ";"), 5);
    }

    /** "shot, same, move, gone: of a PAGE; is: a BODY; to: a PAGE (itself, too): all told ahead". */
    private static void shotsOf() {
        CHECK.tells(ONE + "shot a at 1 is k;same a at 2;move a at 3 to a;gone a at 4;", 7);
        for (String word : new String[] {"shot |b at 1 is k", "same |b at 1", "move |b at 1 to a", "gone |b at 1",
            "move a at 1 to |b"}) {
            CHECK.failsAt(ONE + word + ";page b;", 2);
            CHECK.failsAt(ONE + word.replace("|b", "|k") + ";", 2);
            CHECK.tells(ONE + "page b;" + word.replace("|", "") + ";", 5);
        }
        CHECK.failsAt(ONE + "shot a at 1 is |l;body l weight 1;", 2);
        CHECK.failsAt(ONE + "shot a at 1 is |a;", 2);
        CHECK.tells(ONE + "body l weight 1;shot a at 1 is l;", 5);
        due("a move to itself", CHECK.tells(ONE + "move a at 1 to a;", 4).shot(0, 4), 0);
    }

    /** "D: a DAY 0 .. 365". */
    private static void daysOfShots() {
        for (int day : new int[] {0, 1, 364, 365}) {
            for (String line : new String[] {"shot a at # is k;", "same a at #;", "move a at # to a;", "gone a at #;"}) {
                due("DAY " + day, CHECK.tells(ONE + line.replace("#", String.valueOf(day)), 4).shot(0, 1), day);
            }
        }
        for (String line : new String[] {"shot a at |# is k;", "same a at |#;", "move a at |# to a;", "gone a at |#;"}) {
            CHECK.failsAt(ONE + line.replace("#", "366"), 2);
            CHECK.failsAt(ONE + line.replace("#", "-1"), 1);
        }
    }

    /** "a PAGE has one SHOT a DAY", "a DAY on which the PAGE has a SHOT (at D)". */
    private static void oneShotADay() {
        CHECK.tells(ONE + "page b;gone a at 7;gone b at 7;gone a at 6;gone a at 8;", 8);
        for (String line : new String[] {"shot a at |7 is k;", "same a at |7;", "move a at |7 to a;", "gone a at |7;"}) {
            CHECK.failsAt(ONE + "gone a at 7;" + line, 2);
            CHECK.failsAt(ONE + line.replace("|", "") + "gone a at |7;", 2);
            CHECK.failsAt(ONE + "gone a at 0;" + line.replace("7", "0"), 2);
            CHECK.failsAt(ONE + "gone a at 365;" + line.replace("7", "365"), 2);
        }
        // The fault lies at D, not at what is wrong behind it.
        CHECK.failsAt(ONE + "gone a at 7;shot a at |7 is zz;", 2);
    }

    // Term I, the tokens.

    /** "blanks (32, 10) aside": these alone, as many as one likes. */
    private static void blanks() {
        CHECK.tells(" \n", 0);
        CHECK.tells("\n archive \n\n law 0carry  1\n;\n page a \n ; \n", 2);
        for (int sign : new int[] {0, 9, 11, 13, 31, 33, 127, 128, 138, 160, 255}) {
            CHECK.failsAt("|" + (char) sign + HEAD, 1);
            CHECK.failsAt("archive|" + (char) sign + "law 0 carry 0;", 1);
            CHECK.failsAt(HEAD + "|" + (char) sign, 1);
        }
    }

    /** "words (a .. z), numbers (digits), the sign ;": what lies just outside of each. */
    private static void signs() {
        for (char sign : new char[] {'`', '{', '/', ':', '<', 'A', 'Z', '@', '['}) {
            CHECK.failsAt(HEAD + "page |" + sign + ";", 1);
            CHECK.failsAt(HEAD + "page a|" + sign + ";", 1);
            CHECK.failsAt(HEAD + "body k weight 1|" + sign + ";", 1);
        }
        CHECK.tells(HEAD + "page az;page za;", 3);
        CHECK.tells(HEAD + "body k weight 09;body l weight 90;", 3);
    }

    /** "the longest": a token goes on as long as it can. */
    private static void longest() {
        CHECK.tells("archive law0carry0;page a;body k weight1part a link a;shot a at9is k;", 4);
        CHECK.failsAt("|archivelaw 0 carry 0;", 1);
        CHECK.failsAt(HEAD + "|pagea;", 1);
        CHECK.failsAt("archive law |00000000000000000000000000000000000000003 carry 0;", 2);
        CHECK.failsAt("archive law 0 |1 carry 0;", 1);
        CHECK.failsAt(HEAD + "page a |b;", 1);
        due("zeros ahead", CHECK.tells(HEAD + "body k weight 000999;", 2).body(0, 0), 999);
        for (String number : new String[] {"2147483648", "4294967297", "18446744073709551617", "1".repeat(900)}) {
            CHECK.failsAt(HEAD + "body k weight |" + number + ";", 2);
        }
    }

    /** "NAMES: words of at most 6 letters". */
    private static void nameLengths() {
        for (int n = 1; n <= 6; n++) {
            String name = "z".repeat(n);
            CHECK.tells(HEAD + "page " + name + ";gone " + name + " at 1;", 3);
            CHECK.tells(HEAD + "body " + name + " weight 1;", 2);
        }
        for (int n : new int[] {7, 8, 300}) {
            CHECK.failsAt(HEAD + "page |" + "z".repeat(n) + ";", 2);
            CHECK.failsAt(HEAD + "body |" + "z".repeat(n) + " weight 1;", 2);
        }
        // One that is told is found whole alone.
        CHECK.failsAt(HEAD + "page zzzzzz;gone |zzzzz at 1;", 2);
        CHECK.failsAt(HEAD + "page zzzzzz;gone |zzzzzzz at 1;", 2);
    }

    /** "none of archive, page, body, shot, same, move, gone, part, link". */
    private static void wordsThatAreNoNames() {
        for (String word : "archive page body shot same move gone part link".split(" ")) {
            CHECK.failsAt(HEAD + "page |" + word + ";", 2);
            CHECK.failsAt(HEAD + "body |" + word + " weight 1;", 2);
            CHECK.failsAt(ONE + "same |" + word + " at 1;", 2);
            if (word.length() < 6) {
                CHECK.tells(HEAD + "page " + word + "s;body x" + word + " weight 1;", 3);
            }
        }
        CHECK.tells(HEAD + "page law;page carry;page weight;page at;body is weight 1 part weight link law;"
            + "body to weight 1;shot at at 1 is is;move carry at 1 to at;", 9);
    }

    /** "none twice (PAGES and BODIES together)". */
    private static void namesTwice() {
        for (String line : new String[] {"page |a;", "page |k;", "body |a weight 1;", "body |k weight 1;"}) {
            CHECK.failsAt(ONE + line, 2);
            CHECK.tells(ONE + line.replace("a ", "aa ").replace("a;", "aa;").replace("k", "kk").replace("|", ""), 4);
        }
        CHECK.failsAt(pages(8) + "body |h weight 1;", 2);
        CHECK.failsAt(bodies(10) + "page |t;", 2);
        CHECK.failsAt(bodies(9) + "body |k weight 1;", 2);
        CHECK.failsAt(pages(7) + "page |g;", 2);
    }

    /** "not told, of the other sort": with all PAGES and BODIES told, and behind another text that told the NAME. */
    private static void namesOfTheOtherSort() {
        String all = pages(8) + bodies(10).substring(HEAD.length());
        for (char body = 'k'; body <= 't'; body++) {
            CHECK.failsAt(all + "gone |" + body + " at 1;", 2);
            CHECK.failsAt(all + "move a at 1 to |" + body + ";", 2);
            CHECK.failsAt(pages(8) + bodies(9).substring(HEAD.length()) + "body z weight 1 part |" + body + ";", 2);
        }
        for (char page = 'a'; page <= 'h'; page++) {
            CHECK.failsAt(all + "shot a at 1 is |" + page + ";", 2);
            CHECK.tells(all + "gone " + page + " at 1;move a at 2 to " + page + ";", 21);
        }
        String[] others = {"gone |b at 1;", "move z at 1 to |h;", "shot z at 1 is |k;", "gone |k at 1;",
            "body y weight 1 link |c;", "body y weight 1;shot z at 1 is |t;"};
        for (String other : others) {
            AsOfPages x = CHECK.with(all);
            String text = HEAD + "page z;" + other;
            due("a NAME of another text", Check.load(x, text.replace("|", "")), -4);
            due("its FAULT", x.fault(0), 2);
            due("its place", x.fault(1), text.indexOf('|'));
            due("NAMES of another text are free", Check.load(x, HEAD + "body a weight 1;page k;shot k at 1 is a;"), 4);
        }
    }

    // Term I, the faults.

    /** "the first by its place": whatever kind stands behind it. */
    private static void firstByPlace() {
        CHECK.failsAt(HEAD + "page |7;page abcdefg;", 1);
        CHECK.failsAt(HEAD + "page |abcdefg 7;", 2);
        CHECK.failsAt(pages(8) + "|page 7;", 3);
        CHECK.failsAt(ONE + "body l weight 1" + " part a".repeat(4) + " |part zz 7;", 3);
        CHECK.failsAt(HEAD + "page |abcdefg #", 2);
        CHECK.failsAt("archive law |9 carry 9;", 2);
        CHECK.failsAt("|# archive law 9", 1);
    }

    /** "a TOKEN's first byte; the end's". */
    private static void placeOfTheEnd() {
        String text = ONE + "shot a at 1 is k";
        CHECK.fails(text, 1, text.length());
        CHECK.fails(text + " \n ", 1, text.length() + 3);
        CHECK.fails("archive", 1, 7);
        CHECK.fails("archive law", 1, 11);
        CHECK.fails("archive law 0", 1, 13);
        CHECK.fails("archive law 0 carry", 1, 19);
        CHECK.fails(ONE + "move a at 3 to", 1, ONE.length() + 14);
        String full = HEAD + " ".repeat(1200 - HEAD.length() - 1) + "a";
        CHECK.fails(full, 1, 1199);
        CHECK.fails(HEAD + "body k weight " + "1".repeat(1200 - HEAD.length() - 14), 2, HEAD.length() + 14);
        CHECK.fails(HEAD + "body k weight " + "0".repeat(1200 - HEAD.length() - 15) + "1", 1, 1200);
        CHECK.fails(HEAD + " ".repeat(1200 - HEAD.length() - 6) + "page a", 1, 1200);
        CHECK.fails(HEAD + "page a" + " ".repeat(1200 - HEAD.length() - 6), 1, 1200);
    }

    /** "a TOKEN's first byte": not that of the blanks ahead of it, nor where the token ahead ends. */
    private static void placeOfAToken() {
        CHECK.failsAt("archive \n  |lax 0 carry 0;", 1);
        CHECK.failsAt(" \n|archiv", 1);
        CHECK.failsAt("archive law  |3  carry 0;", 2);
        CHECK.failsAt(HEAD + "page  |abcdefg  ;", 2);
        CHECK.failsAt(pages(8) + "  |page  i;", 3);
        CHECK.failsAt(HEAD + "page a|1;", 1);
        CHECK.failsAt(HEAD + "page |1a;", 1);
        CHECK.failsAt(HEAD + "body k weight 1|x;", 1);
        CHECK.failsAt(HEAD + "body k weight |x;", 1);
        CHECK.failsAt(HEAD + "body k weight |;", 1);
        CHECK.failsAt(HEAD + "page |;", 1);
        CHECK.failsAt(ONE + "shot a at 1 is k |is k;", 1);
        CHECK.failsAt(ONE + "same a at 1 |is k;", 1);
        CHECK.failsAt(ONE + "gone a at 1 |to a;", 1);
        CHECK.failsAt(ONE + "move a at 1 |is k;", 1);
        CHECK.failsAt(ONE + "shot a at 1 |to a;", 1);
        CHECK.failsAt(ONE + "shot a |1 is k;", 1);
    }

    /** "of one place the least": a fifth part that can't stand there. */
    private static void leastOfOnePlace() {
        CHECK.failsAt(ONE + "body l weight 1" + " part a".repeat(4) + " link a |part a;", 1);
        CHECK.failsAt(ONE + "body l weight 1" + " part a".repeat(4) + " link a".repeat(4) + " |part a;", 1);
        CHECK.failsAt(ONE + "body l weight 1" + " link a".repeat(4) + " |part a;", 1);
    }

    /** "archive behind the first LINE, another word ahead of it; any word may stand for a NAME". */
    private static void archiveAndNames() {
        CHECK.failsAt(HEAD + "page a;|archive law 0 carry 0;", 1);
        CHECK.failsAt("|law 0 carry 0;", 1);
        CHECK.failsAt("|archiv law 0 carry 0;", 1);
        CHECK.failsAt("|archives law 0 carry 0;", 1);
        CHECK.failsAt("|brchive law 0 carry 0;", 1);
        CHECK.failsAt("|archivf law 0 carry 0;", 1);
        CHECK.failsAt(HEAD + "page |archive;", 2);
        CHECK.failsAt(ONE + "shot a at 1 is |archive;", 2);
        CHECK.failsAt(ONE + "shot |is at 1 is k;", 2);
    }

    // Promises 2 to 5.

    /** "Twenty bytes come behind the TAPE, .. how many it has; NONE, and none come, if .. more than 1200". */
    private static void feedUpToTheEnd() {
        AsOfPages x = new AsOfPages();
        for (int i = 1; i <= 60; i++) {
            due("feed " + i, x.feed(BLANKS, BLANKS, BLANKS, BLANKS, BLANKS), 20 * i);
        }
        due("feed onto 1200", x.feed(BLANKS, BLANKS, BLANKS, BLANKS, BLANKS), -1);
        due("1200 stay", x.count(7), 1200);
        int[] lengths = {1179, 1180, 1181, 1199, 1200};
        for (int n : lengths) {
            AsOfPages y = new AsOfPages();
            Check.feedText(y, " ".repeat(1200));
            due("end(" + n + ")", y.end(n), n);
            due("feed onto " + n, y.feed(0, 0, 0, 0, 0), n <= 1180 ? n + 20 : -1);
            due("bytes behind feed onto " + n, y.count(7), n <= 1180 ? n + 20 : n);
            due("archive behind feed onto " + n, y.archive(), n <= 1180 ? -4 : 0);
            due("its first byte", y.fault(1), n <= 1180 ? n : -1);
        }
    }

    /** "NONE, and none come": a full tape that tells an archive still does, behind a refused feed. */
    private static void refusedFeed() {
        String text = HEAD + "page a;" + " ".repeat(1200 - HEAD.length() - 8) + "\n";
        AsOfPages x = new AsOfPages();
        Check.feedText(x, text);
        due("a full tape", x.count(7), 1200);
        due("feed", x.feed(-1, -1, -1, -1, -1), -1);
        due("a full tape still", x.count(7), 1200);
        due("archive", x.archive(), 2);
        String longer = " ".repeat(1200 - HEAD.length()) + HEAD;
        due("a text up to the last byte", CHECK.tells(longer, 1).count(2), 0);
    }

    /** "four of each number, the highest first". */
    private static void feedOrder() {
        AsOfPages x = new AsOfPages();
        x.feed(0x61726368, 0x69766520, 0x6c617720, 0x32206361, 0x72727920);
        x.feed(0x313b7061, 0x67652061, 0x3b626f64, 0x79206b20, 0x77656967);
        x.feed(0x68742031, 0x32333b20, 0x20202020, 0x20202020, 0x20202020);
        due("LINES of three feeds", x.archive(), 3);
        due("LAW", x.count(0), 2);
        due("CARRY", x.count(1), 1);
        due("the WEIGHT's digits in their order", x.body(0, 0), 123);
        for (int place = 0; place < 20; place++) {
            int[] five = {BLANKS, BLANKS, BLANKS, BLANKS, BLANKS};
            five[place / 4] ^= 0x80 << 8 * (3 - place % 4);
            AsOfPages y = new AsOfPages();
            due("feed", y.feed(five[0], five[1], five[2], five[3], five[4]), 20);
            due("a byte above 127", y.archive(), -4);
            due("its place", y.fault(1), place);
        }
    }

    /** "The TAPE has its first n bytes alone: n; NONE, and nothing happens, if it has not so many, or n is below 0". */
    private static void end() {
        AsOfPages x = new AsOfPages();
        due("end(0) of none", x.end(0), 0);
        due("end(1) of none", x.end(1), -1);
        Check.feedText(x, HEAD);
        int n = HEAD.length();
        for (int wrong : new int[] {n + 1, -1, Integer.MAX_VALUE, Integer.MIN_VALUE}) {
            due("end(" + wrong + ")", x.end(wrong), -1);
            due("nothing happens", x.count(7), n);
        }
        due("end(all)", x.end(n), n);
        due("all stay", x.count(7), n);
        due("archive", x.archive(), 1);
        Check.feedText(x, HEAD);
        due("end(all but one)", x.end(n - 1), n - 1);
        due("what is cut off is gone", x.end(n), -1);
        due("archive", x.archive(), -4);
        due("cut short there", x.fault(1), n - 1);
        Check.feedText(x, HEAD);
        due("end(0)", x.end(0), 0);
        due("an empty TAPE", x.archive(), 0);
        // What comes behind stands where the first n bytes end.
        Check.feedText(x, HEAD + "page a;");
        x.end(n);
        Check.feedText(x, "page b;page a;");
        due("behind the first n", x.archive(), 3);
    }

    /** "The TAPE (empty then) tells the ARCHIVE (in place of another), no acts: how many LINES (0: there is none then)". */
    private static void archiveAnew() {
        AsOfPages x = CHECK.with(shots(3));
        x.drop(0);
        x.rule(2, 1);
        due("acts", x.count(5), 2);
        due("another", Check.load(x, pages(3)), 4);
        int[] counts = {0, 0, 3, 0, 0, 0, 4, 0, 0};
        for (int what = 0; what < counts.length; what++) {
            due("count(" + what + ") of another", x.count(what), counts[what]);
        }
        due("no act to take back", x.undo(), -5);
        due("none", x.archive(), 0);
        due("there is none", x.undo(), -2);
        due("there is none", x.stored(0), -2);
        due("there is no PAGE", x.shots(0), -2);
        due("blanks alone", Check.load(x, " \n "), 0);
        due("one LINE is one", Check.load(x, HEAD), 1);
        due("there is one, of nothing", x.stored(0), 0);
    }

    /** "in place of another": again and again, of those ahead nothing is left. */
    private static void archivesInPlaceOfOthers() {
        String[][] rows = {{shots(8).replace("law 0 carry 0", "law 2 carry 1"), pages(8), bodies(10), ""},
            {bodies(10), shots(3), shots(2), HEAD}, {pages(8), shots(3), "", ""}, {shots(3), "", pages(2), shots(4)}};
        boolean acts = true;
        for (String[] texts : rows) {
            AsOfPages x = new AsOfPages();
            for (String text : texts) {
                Check.load(x, text);
                CHECK.due("as if it were the first: '" + text + "'", Check.look(x), Check.look(CHECK.with(text)));
                if (acts) {
                    x.rule(1, 1);
                    x.add(0, 365, 3, 0);
                    x.drop(0);
                }
            }
            acts = !acts;
        }
    }

    /** "-4: a FAULT (all else stays)". */
    private static void faultyArchive() {
        String[] texts = {"#", "archive law 3 carry 0;", pages(8) + "page i;", pages(1) + "page a", HEAD + HEAD};
        for (String text : texts) {
            AsOfPages x = CHECK.with(shots(4).replace("law 0 carry 0", "law 1 carry 1"));
            x.add(0, 300, 3, 0);
            x.image(1);
            x.drop(4);
            x.tell(0, 0);
            String ahead = Check.look(x);
            due("archive of '" + text + "'", Check.load(x, text), -4);
            CHECK.due("all else behind '" + text + "'", Check.look(x), ahead);
            due("acts", x.undo(), 1);
            due("the image", x.back(1), 0);
            due("its SHOTS", x.count(4), 5);
            due("no other image", x.back(0), -6);
        }
        // Without an ARCHIVE there is none behind a FAULT, either.
        AsOfPages none = CHECK.fails(HEAD + "page a;page b;page", 1, HEAD.length() + 18);
        due("no ARCHIVE", none.unused(), -2);
        due("no PAGES", none.count(2), 0);
        due("no LINES", none.count(6), 0);
    }

    /** "Of the latest archive(), .. 0 without, .. (NONE without). NONE for another what, and ahead of any (what 1)". */
    private static void fault() {
        AsOfPages x = new AsOfPages();
        due("fault(0) ahead of any", x.fault(0), 0);
        due("fault(1) ahead of any", x.fault(1), -1);
        for (int what : new int[] {-1, 2, Integer.MAX_VALUE, Integer.MIN_VALUE}) {
            due("fault(" + what + ") ahead of any", x.fault(what), -1);
        }
        due("a FAULT at place 0", Check.load(x, "3"), -4);
        due("fault(0)", x.fault(0), 1);
        due("fault(1), place 0", x.fault(1), 0);
        due("fault(2)", x.fault(2), -1);
        Check.feedText(x, HEAD);
        due("not by feed, end", x.fault(0), 1);
        due("none", x.archive(), 1);
        due("fault(0) without", x.fault(0), 0);
        due("fault(1) without", x.fault(1), -1);
        due("a FAULT", Check.load(x, "archive law 5 carry 0;"), -4);
        due("another FAULT", Check.load(x, pages(8) + "page i;"), -4);
        due("fault(0) of the latest", x.fault(0), 3);
        due("fault(1) of the latest", x.fault(1), pages(8).length());
        x.undo();
        x.back(0);
        due("by archive() alone", x.fault(0), 3);
        due("an empty one", x.archive(), 0);
        due("fault(0) of an empty one", x.fault(0), 0);
        due("fault(1) of an empty one", x.fault(1), -1);
    }

    public static void main(String[] args) {
        lines();
        archiveFirst();
        law();
        carry();
        pageCounts();
        bodyCounts();
        shotCounts();
        weights();
        toldAhead();
        fourEach();
        shotsOf();
        daysOfShots();
        oneShotADay();
        blanks();
        signs();
        longest();
        nameLengths();
        wordsThatAreNoNames();
        namesTwice();
        namesOfTheOtherSort();
        firstByPlace();
        placeOfTheEnd();
        placeOfAToken();
        leastOfOnePlace();
        archiveAndNames();
        feedUpToTheEnd();
        refusedFeed();
        feedOrder();
        end();
        archiveAnew();
        archivesInPlaceOfOthers();
        faultyArchive();
        fault();
        CHECK.finish();
    }
}
