/** Promises 2 to 5: the tape, the texts that tell an archive, the texts that do not, and where they fail. */
public final class FaultsTest {
    private static final String HEAD = "archive law 0 carry 0;";
    private static final String TWO = HEAD + "page p;body q weight 1;";
    private static final Check CHECK = new Check();

    private static String times(int n, String text) {
        return text.repeat(n);
    }

    private static void fails(String text, int kind, int place) {
        CHECK.fails(text, kind, place);
    }

    private static void failsAt(String text, int kind) {
        CHECK.failsAt(text, kind);
    }

    private static void tells(String text, int lines) {
        CHECK.tells(text, lines);
    }

    private static void texts() {
        tells("", 0);
        tells(" \n \n", 0);
        tells(HEAD, 1);
        tells("\narchive\nlaw2carry 1 ;\n", 1);
        tells("archive law 002 carry 00000000000000000000001;", 1);
        tells(HEAD + "page law;page carry;page at;page is;page to;body weight weight 999;"
            + "shot at at 365 is weight;move to at 0 to to;", 9);
        tells(TWO + "page abcdef;", 4);
        tells(TWO + "page az;page zz;page za;page a;gone za at 09;gone az at 90;", 9);
        tells(TWO + "body r weight 1 part p part p part p part p link p link p link p link p;", 4);
        tells(TWO + "body r weight 1 link p;", 4);
        tells(TWO + "page pp;shot p at 1 is q;same pp at 1;gone p at 2;move pp at 2 to p;", 8);
        tells(HEAD + "page a;page b;page c;page d;page e;page f;page g;page h;", 9);
        tells(HEAD + "body a weight 1;body b weight 1;body c weight 1;body d weight 1;body e weight 1;"
            + "body f weight 1;body g weight 1;body h weight 1;body i weight 1;body j weight 1;", 11);
        StringBuilder forty = new StringBuilder(TWO);
        for (int i = 0; i < 40; i++) {
            forty.append("gone p at ").append(i).append(';');
        }
        tells(forty.toString(), 43);
        failsAt(forty + "|gone p at 40;", 3);
        failsAt(forty + "|shot zz;", 3);
        failsAt(forty + "|same 3;", 3);
        failsAt(forty + "|move", 3);
        tells(forty + "page r;", 44);
    }

    private static void misplaced() {
        failsAt("|page p;", 1);
        failsAt("|;", 1);
        failsAt("|0", 1);
        failsAt("|Archive law 0 carry 0;", 1);
        failsAt("|archivelaw 0 carry 0;", 1);
        failsAt("archive |carry 0 law 0;", 1);
        failsAt("archive law |carry 0;", 1);
        failsAt("archive law |;", 1);
        failsAt("archive law 0 |;", 1);
        failsAt("archive law 0 carry |;", 1);
        failsAt("archive law 0 carry 0|", 1);
        failsAt("archive law 0 carry 0 |0;", 1);
        failsAt("archive law 0 carry 0   \n |", 1);
        failsAt(HEAD + "|archive law 0 carry 0;", 1);
        failsAt(HEAD + "|;", 1);
        failsAt(HEAD + "|7;", 1);
        failsAt(HEAD + "|find p;", 1);
        failsAt(HEAD + "|cage p;", 1);
        failsAt(HEAD + "|pages p;", 1);
        failsAt(HEAD + "|pag p;", 1);
        failsAt(HEAD + "|pagf p;", 1);
        failsAt(HEAD + "|part p;", 1);
        failsAt(HEAD + "page |7;", 1);
        failsAt(HEAD + "page |;", 1);
        failsAt(HEAD + "page |", 1);
        failsAt(HEAD + "page p |q;", 1);
        failsAt(HEAD + "page p|\t;", 1);
        failsAt(HEAD + "page p|\r;", 1);
        failsAt(HEAD + "page p|,", 1);
        failsAt(HEAD + "page p|" + (char) 225 + ";", 1);
        failsAt(HEAD + "page p|" + (char) 0 + ";", 1);
        failsAt(HEAD + "page p|P;", 1);
        failsAt(HEAD + "body |3 weight 1;", 1);
        failsAt(HEAD + "body q |1;", 1);
        failsAt(HEAD + "body q weight |p;", 1);
        failsAt(HEAD + "body q weight |-1;", 1);
        failsAt(TWO + "body r weight 1 |is p;", 1);
        failsAt(TWO + "body r weight 1 part |1;", 1);
        failsAt(TWO + "body r weight 1 part p |p;", 1);
        failsAt(TWO + "body r weight 1 link p |part p;", 1);
        failsAt(TWO + "body r weight 1 part p part p part p part p link p |part p;", 1);
        failsAt(TWO + "shot |1 at 1 is q;", 1);
        failsAt(TWO + "shot p |is q at 1;", 1);
        failsAt(TWO + "shot p at |q is q;", 1);
        failsAt(TWO + "shot p at 1 |to q;", 1);
        failsAt(TWO + "shot p at 1|;", 1);
        failsAt(TWO + "shot p at 1 is |1;", 1);
        failsAt(TWO + "shot p at 1 is q|", 1);
        failsAt(TWO + "same p at 1 |is q;", 1);
        failsAt(TWO + "move p at 1 |is p;", 1);
        failsAt(TWO + "move p at 1 to |;", 1);
        failsAt(TWO + "gone p at 1 |to p;", 1);
    }

    private static void notAsSaid() {
        failsAt("archive law |3 carry 0;", 2);
        failsAt("archive law |4294967296 carry 0;", 2);
        failsAt("archive law 0 carry |2;", 2);
        failsAt(TWO + "page |p;", 2);
        failsAt(TWO + "page |q;", 2);
        failsAt(TWO + "body |p weight 1;", 2);
        failsAt(TWO + "body |q weight 1;", 2);
        failsAt(TWO + "page |abcdefg;", 2);
        failsAt(TWO + "body |abcdefg weight 1;", 2);
        for (String word : "archive page body shot same move gone part link".split(" ")) {
            failsAt(TWO + "page |" + word + ";", 2);
            failsAt(TWO + "body |" + word + " weight 1;", 2);
            failsAt(TWO + "gone |" + word + " at 1;", 2);
        }
        failsAt(TWO + "body r weight |0;", 2);
        failsAt(TWO + "body r weight |1000;", 2);
        failsAt(TWO + "body r weight |99999999999999999999;", 2);
        failsAt(TWO + "body r weight 1 part |x;", 2);
        failsAt(TWO + "body r weight 1 part |q;", 2);
        failsAt(TWO + "body r weight 1 part |r;", 2);
        failsAt(TWO + "body r weight 1 link |x;", 2);
        failsAt(TWO + "body r weight 1 link |q;", 2);
        failsAt(TWO + "body r weight 1 link |part;", 2);
        failsAt(TWO + "shot |q at 1 is q;", 2);
        failsAt(TWO + "shot |x at 1 is q;", 2);
        failsAt(TWO + "same |x at 1;", 2);
        failsAt(TWO + "move |q at 1 to p;", 2);
        failsAt(TWO + "gone |pp at 1;", 2);
        failsAt(TWO + "shot p at |366 is q;", 2);
        failsAt(TWO + "shot p at 1 is |p;", 2);
        failsAt(TWO + "shot p at 1 is |x;", 2);
        failsAt(TWO + "move p at 1 to |q;", 2);
        failsAt(TWO + "move p at 1 to |x;page x;", 2);
        for (String line : "shot p at 8 is q,same p at 8,move p at 8 to p,gone p at 8".split(",")) {
            failsAt(TWO + line + ";same p at |8;", 2);
            failsAt(TWO + "gone p at 8;" + line.replace("8", "|008") + ";", 2);
        }
    }

    private static void tooMany() {
        failsAt(HEAD + "page a;page b;page c;page d;page e;page f;page g;page h;|page i;", 3);
        failsAt(HEAD + "page a;page b;page c;page d;page e;page f;page g;page h;|page a", 3);
        failsAt(HEAD + "body a weight 1;body b weight 1;body c weight 1;body d weight 1;body e weight 1;"
            + "body f weight 1;body g weight 1;body h weight 1;body i weight 1;body j weight 1;|body", 3);
        failsAt(TWO + "body r weight 1" + times(4, " part p") + " |part p;", 3);
        failsAt(TWO + "body r weight 1" + times(4, " link p") + " |link 3;", 3);
        failsAt(TWO + "body r weight 1" + times(4, " part p") + times(4, " link p") + " |link p;", 3);
    }

    private static void tape() {
        AsOfPages x = new AsOfPages();
        CHECK.due("end(0) of none", x.end(0), 0);
        CHECK.due("end(1) of none", x.end(1), -1);
        CHECK.due("fault(0) ahead of any", x.fault(0), 0);
        CHECK.due("fault(1) ahead of any", x.fault(1), -1);
        for (int i = 1; i <= 60; i++) {
            CHECK.due("feed " + i, x.feed(0x20202020, 0x20202020, 0x20202020, 0x20202020, 0x20202020), 20 * i);
        }
        CHECK.due("feed 61", x.feed(0, 0, 0, 0, 0), -1);
        CHECK.due("count(7) full", x.count(7), 1200);
        CHECK.due("end(-1)", x.end(-1), -1);
        CHECK.due("end(1201)", x.end(1201), -1);
        CHECK.due("count(7) still full", x.count(7), 1200);
        CHECK.due("end(1181)", x.end(1181), 1181);
        CHECK.due("feed onto 1181", x.feed(0, 0, 0, 0, 0), -1);
        CHECK.due("count(7)", x.count(7), 1181);
        CHECK.due("end(1180)", x.end(1180), 1180);
        CHECK.due("feed onto 1180", x.feed(0x20202020, 0x20202020, 0x20202020, 0x20202020, 0x2020203b), 1200);
        CHECK.due("a full tape", x.archive(), -4);
        CHECK.due("fault(1) of a full tape", x.fault(1), 1199);
        CHECK.due("count(7) behind a fault", x.count(7), 0);
        Check.feedText(x, "archive law ");
        Check.feedText(x, "1 carry 1;");
        CHECK.due("archive told in two", x.archive(), 1);
        CHECK.due("fault(1) is gone", x.fault(1), -1);
        CHECK.due("LAW told in two", x.count(0), 1);
        CHECK.due("CARRY told in two", x.count(1), 1);
        CHECK.due("feed below 0", x.feed(-1, 0x61616161, 0, 0, 0), 20);
        CHECK.due("archive of bytes 255", x.archive(), -4);
        CHECK.due("fault(0) of bytes 255", x.fault(0), 1);
        CHECK.due("fault(1) of bytes 255", x.fault(1), 0);
    }

    /** What was cut off the TAPE must not be read. */
    private static void cutTape() {
        for (String text : new String[] {HEAD + "page pqr;", HEAD + "page p;gone p at 12;", HEAD + "page p;"}) {
            for (int n = HEAD.length() + 1; n < text.length(); n++) {
                AsOfPages x = new AsOfPages();
                Check.feedText(x, text);
                CHECK.due("end", x.end(n), n);
                boolean whole = text.charAt(n - 1) == ';';
                CHECK.due("'" + text + "' cut at " + n, x.archive(), whole ? 2 : -4);
                CHECK.due("'" + text + "' cut at " + n + ", place", x.fault(1), whole ? -1 : cutPlace(text, n));
            }
        }
        fails(HEAD + "page " + times(1200 - 5 - HEAD.length(), "p"), 2, HEAD.length() + 5);
        fails(HEAD + times(1200 - HEAD.length(), "7"), 1, HEAD.length());
    }

    /** A word (of the first, at) cut short is the fault itself, all else that stands there lacks what is behind it. */
    private static int cutPlace(String text, int n) {
        int line = text.lastIndexOf(';', n - 1) + 1;
        return n - line < 4 ? line : text.startsWith(" at", n - 2) ? n - 1 : n;
    }

    private static void whatStays() {
        AsOfPages x = CHECK.with("archive law 1 carry 1;page p;body q weight 7;shot p at 3 is q;");
        x.add(0, 9, 3, 0);
        x.image(1);
        x.tell(0, 3);
        CHECK.due("a faulty archive", Check.load(x, HEAD + "page p;page p;"), -4);
        CHECK.due("LAW stays", x.count(0), 1);
        CHECK.due("SHOTS stay", x.count(4), 2);
        CHECK.due("acts stay", x.count(5), 1);
        CHECK.due("LINES stay", x.count(6), 4);
        CHECK.due("OUT stays", Check.out(x), "p0@3");
        CHECK.due("a view stays", x.view(0, 3), 1);
        CHECK.due("another archive", Check.load(x, HEAD + "page p;"), 2);
        CHECK.due("no acts then", x.count(5), 0);
        CHECK.due("no act to undo", x.undo(), -5);
        CHECK.due("no SHOTS then", x.count(4), 0);
        CHECK.due("no BODIES then", x.count(3), 0);
        CHECK.due("OUT stays still", Check.out(x), "p0@3");
        CHECK.due("the image stays", x.back(1), 0);
        CHECK.due("its acts", x.count(5), 1);
        CHECK.due("no archive", x.archive(), 0);
        for (int what = 0; what <= 7; what++) {
            CHECK.due("count(" + what + ") without", x.count(what), 0);
        }
        CHECK.due("anew without", x.anew(), -2);
        CHECK.due("unused without", x.unused(), -2);
    }

    public static void main(String[] args) {
        tape();
        cutTape();
        texts();
        misplaced();
        notAsSaid();
        tooMany();
        whatStays();
        CHECK.finish();
    }
}
