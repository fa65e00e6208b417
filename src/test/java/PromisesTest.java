/**
 * The promises one by one, with answers worked out by hand from the document. (Promises 2 to 5 are FaultsTest's
 * too; OracleTest compares all calls with a second, literal program.)
 */
public final class PromisesTest {
    private static final Check CHECK = new Check();

    /** SHOTS 0 .. 8; NEAREST turns on DAYS 106, 131 (a), 106 (b), 31, 56 (d). */
    private static final String SITE = "archive law 0 carry 0;page a;page b;page c;page d;"
        + "body u weight 10 part b part c link b link d;body v weight 20;body w weight 20;body t weight 5 part a link c;"
        + "shot a at 100 is u;same a at 110;gone a at 150;shot b at 90 is v;shot b at 120 is w;move c at 95 to b;"
        + "same d at 10;shot d at 50 is t;same d at 60;";

    /** a and b move to one another, c ahead of DAY 28 has parts, then moves to e, of which there is no SHOT. */
    private static final String LOOPS = "archive law 0 carry 1;page a;page b;page c;page e;"
        + "body k weight 1 part e part a part b;"
        + "move a at 10 to b;move b at 20 to a;shot c at 5 is k;move c at 50 to e;";

    /** By CARRY 1 a leads to DAY 40 by b, c there is one that came behind DAY 30: too late for a. */
    private static final String CLASH = "archive law 0 carry 1;page a;page b;page c;page e;"
        + "body k weight 1 part b;body m weight 2 part c part e;body n weight 3;body o weight 4;"
        + "shot a at 10 is k;gone a at 20;shot b at 40 is m;gone c at 30;shot c at 45 is n;shot e at 41 is o;";

    private static void due(String what, long got, long want) {
        CHECK.due(what, got, want);
    }

    private static String told(AsOfPages x, int page, int day) {
        int length = x.tell(page, day);
        String out = Check.out(x);
        due("tell(" + page + ", " + day + ")", length, out.length());
        due("count(8)", x.count(8), length);
        return out;
    }

    private static void p1New() {
        AsOfPages x = new AsOfPages();
        for (int what = 0; what <= 8; what++) {
            due("p1 count(" + what + ")", x.count(what), 0);
        }
        due("p1 view", x.view(0, 0), -2);
        due("p1 shots", x.shots(0), -2);
        due("p1 stored", x.stored(0), -2);
        due("p1 unused", x.unused(), -2);
        due("p1 dead", x.dead(0), -2);
        due("p1 spare", x.spare(), -2);
        due("p1 octet", x.octet(0), -1);
        due("p1 rule", x.rule(1, 1), -2);
        due("p1 drop", x.drop(0), -2);
        due("p1 image", x.image(0), -2);
        due("p1 back", x.back(2), -6);
        due("p1 undo", x.undo(), -2);
        due("p1 anew", x.anew(), -2);
    }

    private static void p2to5Tape() {
        AsOfPages x = new AsOfPages();
        due("p2 feed", x.feed(0x61726368, 0x69766520, 0x6c617720, 0x32206361, 0x72727920), 20);
        due("p2 feed more", x.feed(0x313b2020, 0x20202020, 0x20202020, 0x20202020, 0x2020203f), 40);
        due("p3 end", x.end(41), -1);
        due("p3 end", x.end(39), 39);
        due("p4 archive", x.archive(), 1);
        due("p5 fault", x.fault(0), 0);
        due("p4 LAW", x.count(0), 2);
        due("p4 CARRY", x.count(1), 1);
        due("p4 none", x.archive(), 0);
        due("p4 LAW of none", x.count(0), 0);
    }

    private static void p6Count() {
        AsOfPages x = CHECK.with(SITE.replace("law 0 carry 0", "law 2 carry 1"));
        int[] counts = {2, 1, 4, 4, 9, 0, 18, 0, 0};
        for (int what = 0; what < counts.length; what++) {
            due("p6 count(" + what + ")", x.count(what), counts[what]);
        }
        due("p6 count(9)", x.count(9), -1);
        due("p6 count(-1)", x.count(-1), -1);
        x.add(0, 0, 3, 0);
        x.drop(0);
        x.add(0, 100, 3, 0);
        x.feed(0, 0, 0, 0, 0);
        x.tell(0, 100);
        due("p6 SHOTS by acts", x.count(4), 10);
        due("p6 acts", x.count(5), 3);
        due("p6 LINES", x.count(6), 18);
        due("p6 TAPE", x.count(7), 20);
        due("p6 OUT", x.count(8), "p0@100!".length());
    }

    private static void p7Shot() {
        AsOfPages x = CHECK.with(SITE);
        int[][] rows = {{0, 100, 0, 0, -1}, {0, 110, 1, 0, -1}, {0, 150, 3, -1, -1}, {1, 90, 0, 1, -1},
            {1, 120, 0, 2, -1}, {2, 95, 2, -1, 1}, {3, 10, 1, -1, -1}, {3, 50, 0, 3, -1}, {3, 60, 1, 3, -1}};
        for (int s = 0; s < rows.length; s++) {
            for (int what = 0; what < 5; what++) {
                due("p7 shot(" + s + ", " + what + ")", x.shot(s, what), rows[s][what]);
            }
        }
        due("p7 shot(9, 0)", x.shot(9, 0), -2);
        due("p7 shot(-1, 0)", x.shot(-1, 0), -2);
        due("p7 shot(0, 5)", x.shot(0, 5), -2);
        due("p7 shot(0, -1)", x.shot(0, -1), -2);
        x.add(0, 160, 1, 0);
        x.add(2, 100, 1, 0);
        x.add(0, 111, 1, 0);
        due("p7 same behind gone", x.shot(9, 3), -1);
        due("p7 same behind move", x.shot(10, 3), -1);
        due("p7 same behind same", x.shot(11, 3), 0);
    }

    private static void p8Body() {
        AsOfPages x = CHECK.with(SITE);
        int[][] rows = {{0, 10}, {1, 2}, {2, 2}, {3, 0}, {10, 1}, {11, 2}, {12, -1}, {13, -1}, {14, -2}, {20, 1},
            {21, 3}, {22, -1}, {23, -1}, {24, -2}, {4, -2}, {9, -2}, {15, -2}, {19, -2}, {-1, -2}};
        for (int[] row : rows) {
            due("p8 body(0, " + row[0] + ")", x.body(0, row[0]), row[1]);
        }
        due("p8 body(2, 3)", x.body(2, 3), 1);
        due("p8 body(3, 3)", x.body(3, 3), 3);
        due("p8 body(4, 0)", x.body(4, 0), -2);
        due("p8 body(-1, 0)", x.body(-1, 0), -2);
        AsOfPages y = CHECK.with("archive law 0 carry 0;page a;page b;body k weight 1 part a part b;"
            + "body l weight 1 part b part a;body m weight 1 part a link b;body n weight 2 part a part b;"
            + "body o weight 1 part a part b;body p weight 1 link a link b;");
        int[] least = {0, 1, 2, 3, 0, 5};
        for (int b = 0; b < least.length; b++) {
            due("p8 least of " + b, y.body(b, 3), least[b]);
        }
        AsOfPages z = CHECK.with("archive law 0 carry 0;page a;page b;body k weight 1 link a link b;"
            + "body l weight 1 link b link b;body m weight 1 link a link a;body n weight 1 link a;body o weight 1;"
            + "body p weight 1 part a;body q weight 1 part b;body r weight 1 part a link a;body s weight 1 link a link b;"
            + "body t weight 1;");
        int[] more = {0, 1, 2, 3, 4, 5, 6, 7, 0, 4};
        for (int b = 0; b < more.length; b++) {
            due("p8 least by LINKS of " + b, z.body(b, 3), more[b]);
        }
    }

    private static void p9p10Shots() {
        AsOfPages x = CHECK.with(SITE + "page e;");
        due("p9 shots(0)", x.shots(0), 3);
        due("p9 shots(2)", x.shots(2), 1);
        due("p9 shots(4)", x.shots(4), 0);
        due("p9 shots(5)", x.shots(5), -2);
        due("p9 shots(-1)", x.shots(-1), -2);
        due("p10 byDay(3, 1)", x.byDay(3, 1), 7);
        due("p10 byDay(3, 3)", x.byDay(3, 3), -1);
        due("p10 byDay(3, -1)", x.byDay(3, -1), -2);
        due("p10 byDay(5, 0)", x.byDay(5, 0), -2);
        due("p10 byDay(4, 0)", x.byDay(4, 0), -1);
        x.add(3, 55, 3, 0);
        due("p9 shots(3)", x.shots(3), 4);
        due("p10 byDay of an added one", x.byDay(3, 2), 9);
        due("p10 byDay behind it", x.byDay(3, 3), 8);
    }

    private static void p11Nearest() {
        AsOfPages x = CHECK.with(SITE + "page e;");
        int[][] byLaw0 = {{0, 0}, {105, 0}, {106, 1}, {130, 1}, {131, 2}, {365, 2}};
        int[][] byLaw1 = {{0, 0}, {104, 0}, {105, 1}, {129, 1}, {130, 2}, {365, 2}};
        int[][] byLaw2 = {{0, 0}, {99, 0}, {100, 0}, {109, 0}, {110, 1}, {149, 1}, {150, 2}, {365, 2}};
        int[][][] laws = {byLaw0, byLaw1, byLaw2};
        for (int law = 0; law <= 2; law++) {
            x.rule(law, 0);
            for (int[] row : laws[law]) {
                due("p11 nearest(0, " + row[0] + ") by LAW " + law, x.nearest(0, row[0]), row[1]);
            }
        }
        due("p11 without SHOTS", x.nearest(4, 7), -1);
        due("p11 nearest(0, 366)", x.nearest(0, 366), -2);
        due("p11 nearest(0, -1)", x.nearest(0, -1), -2);
        due("p11 nearest(5, 0)", x.nearest(5, 0), -2);
        AsOfPages y = CHECK.with("archive law 0 carry 0;page a;gone a at 9;gone a at 4;");
        due("p11 odd, by LAW 0", y.nearest(0, 6), 1);
        due("p11 odd, by LAW 0", y.nearest(0, 7), 0);
        y.rule(1, 0);
        due("p11 odd, by LAW 1", y.nearest(0, 6), 1);
        due("p11 odd, by LAW 1", y.nearest(0, 7), 0);
        y.rule(2, 0);
        due("p11 the first one by DAYS", y.nearest(0, 3), 1);
    }

    private static void p12p13Follow() {
        AsOfPages x = CHECK.with(SITE + "page e;");
        int[][] rows = {{0, 100, 0, 1, 0}, {0, 150, 2, 1, 1}, {3, 0, 6, 1, 2}, {4, 0, -1, 0, 3}, {2, 100, 3, 2, 0},
            {2, 120, 4, 2, 0}};
        for (int[] row : rows) {
            for (int what = 0; what < 3; what++) {
                due("p12 follow " + row[0] + " " + row[1] + " " + what, x.follow(row[0], row[1], what), row[2 + what]);
            }
        }
        due("p13 followed", x.followed(2, 120, 0), 5);
        due("p13 followed", x.followed(2, 120, 1), 4);
        due("p13 followed", x.followed(2, 120, 2), -1);
        due("p13 followed", x.followed(2, 120, -1), -2);
        due("p13 followed", x.followed(2, 366, 0), -2);
        due("p13 followed", x.followed(5, 0, 0), -2);
        due("p12 what 3", x.follow(0, 0, 3), -2);
        due("p12 what -1", x.follow(0, 0, -1), -2);
        due("p12 no DAY", x.follow(0, -1, 0), -2);
        due("p12 no PAGE", x.follow(5, 0, 0), -2);
        x.rule(0, 1);
        due("p12 by CARRY 1", x.follow(2, 120, 0), 3);
        AsOfPages y = CHECK.with(LOOPS);
        due("p12 ROUND", y.follow(0, 0, 2), 4);
        due("p12 ROUND ENDS nowhere", y.follow(0, 0, 0), -1);
        due("p12 ROUND goes over", y.follow(0, 0, 1), 2);
        due("p13 ROUND", y.followed(0, 0, 1), 1);
        due("p13 ROUND, no more", y.followed(0, 0, 2), -1);
        due("p12 LOST behind a move", y.follow(2, 50, 2), 3);
        due("p12 LOST goes over", y.follow(2, 50, 1), 1);
        due("p13 LOST", y.followed(2, 50, 0), 3);
        AsOfPages z = CHECK.with("archive law 0 carry 0;page a;page b;page c;page d;page e;page f;page g;page h;"
            + "body k weight 1;move a at 1 to b;move b at 1 to c;move c at 1 to d;move d at 1 to e;move e at 1 to f;"
            + "move f at 1 to g;move g at 1 to h;shot h at 1 is k;");
        due("p12 over all PAGES", z.follow(0, 0, 1), 8);
        due("p12 over all PAGES", z.follow(0, 0, 2), 0);
        z.drop(7);
        z.add(7, 9, 2, 7);
        due("p12 all moves", z.follow(0, 0, 1), 8);
        due("p12 all moves", z.follow(0, 0, 2), 4);
    }

    private static void p14p15View() {
        AsOfPages x = CHECK.with(SITE);
        due("p14 view", x.view(3, 40), 4);
        int[][] rows = {{3, 7, 0, 0, -1, 5}, {0, 0, 0, 1, 0, 10}, {1, 3, 0, 2, 1, 20}, {2, 3, 0, 2, 1, 20}};
        for (int i = 0; i < rows.length; i++) {
            for (int what = 0; what < 6; what++) {
                due("p15 element " + i + " " + what, x.element(3, 40, i, what), rows[i][what]);
            }
        }
        due("p15 not so many", x.element(3, 40, 4, 0), -1);
        due("p15 what 6", x.element(3, 40, 4, 6), -2);
        due("p15 what -1", x.element(3, 40, 0, -1), -2);
        due("p15 i -1", x.element(3, 40, -1, 0), -2);
        due("p15 no PAGE", x.element(4, 40, 0, 0), -2);
        due("p15 no DAY", x.element(3, 366, 0, 0), -2);
        due("p14 no PAGE", x.view(4, 0), -2);
        due("p14 no DAY", x.view(0, -1), -2);
        due("p15 gone, WEIGHT", x.element(0, 150, 0, 5), 0);
        due("p15 gone, STATE", x.element(0, 150, 0, 2), 1);
        due("p15 BROKEN, SHOT", x.element(3, 0, 0, 1), 6);
        due("p15 BROKEN, STATE", x.element(3, 0, 0, 2), 2);
        AsOfPages y = CHECK.with("archive law 0 carry 0;page a;page b;body k weight 1 part b;body l weight 1;"
            + "shot a at 10 is k;shot b at 12 is l;shot b at 50 is l;");
        due("p15 PART by CARRY 0", y.element(0, 60, 1, 1), 2);
        y.rule(0, 1);
        due("p15 PART by CARRY 1", y.element(0, 60, 1, 1), 1);
        AsOfPages z = CHECK.with("archive law 0 carry 0;page a;page b;page c;page d;page e;page f;"
            + "body k weight 1 part b part c part d part e;body l weight 1 part f part f part f part f;"
            + "body m weight 1 part a part a part a part a;body n weight 1 part c part d part e part f;"
            + "shot a at 1 is k;shot b at 1 is n;shot c at 1 is l;shot d at 1 is l;shot e at 1 is l;shot f at 1 is m;");
        due("p14 three deep", z.view(0, 1), 1 + 4 + (4 + 4 + 4 + 4) + (3 * 4 + 4) + 3 * 4 * 4);
    }

    private static void p15Nested() {
        AsOfPages x = CHECK.with("archive law 0 carry 0;page a;page b;page c;body k weight 1 part b;"
            + "shot b at 5 is k;move c at 5 to b;");
        CHECK.due("p15 NESTED as asked", told(x, 2, 0), "p2@5[p1@5[p1^]]");
        due("p15 NESTED, STATE", x.element(2, 0, 2, 2), 5);
        due("p15 NESTED, SHOT", x.element(2, 0, 2, 1), -1);
        due("p15 NESTED, in", x.element(2, 0, 2, 4), 1);
        due("p16 NESTED aside", x.whole(2, 0), 1);
        AsOfPages y = CHECK.with("archive law 0 carry 0;page a;page b;page c;body k weight 1 part b part b;"
            + "body l weight 1 part c;body m weight 1 part a part b part c;"
            + "shot a at 1 is k;shot b at 1 is l;shot c at 1 is m;");
        CHECK.due("p15 NESTED in all around", told(y, 0, 0), "p0@1[p1@1[p2@1[p0^ p1^ p2^]] p1@1[p2@1[p0^ p1^ p2^]]]");
    }

    private static void p16p17p18Judged() {
        AsOfPages x = CHECK.with(SITE);
        due("p16 whole", x.whole(3, 40), 1);
        due("p16 gone", x.whole(3, 131), 0);
        due("p16 BROKEN", x.whole(3, 0), 0);
        due("p16 no PAGE", x.whole(4, 0), -2);
        due("p16 no DAY", x.whole(0, 366), -2);
        due("p17 OPEN", x.judged(0, 100), 1);
        due("p17 PROVED", x.judged(1, 100), 2);
        due("p17 without SPANS", x.judged(3, 0), 2);
        due("p17 no PAGE", x.judged(-1, 0), -2);
        due("p17 no DAY", x.judged(0, 366), -2);
        int[] common = {-1, -1, 0, 149};
        int[] ofB = {90, 120, 0, 365};
        int[] none = {0, 365, 0, 365};
        for (int what = 0; what < 4; what++) {
            due("p18 common " + what, x.common(0, 100, what), common[what]);
            due("p18 common of b " + what, x.common(1, 100, what), ofB[what]);
            due("p18 without SPANS " + what, x.common(3, 0, what), none[what]);
        }
        due("p18 what 4", x.common(0, 100, 4), -2);
        due("p18 what -1", x.common(0, 100, -1), -2);
        due("p18 no DAY", x.common(0, 366, 0), -2);
        AsOfPages y = CHECK.with(LOOPS);
        due("p16 LOST, ROUND", y.whole(2, 0), 0);
        due("p18 LOST, ROUND have no SPANS", y.common(2, 0, 0), 5);
        due("p18 LOST, ROUND have no SPANS", y.common(2, 0, 3), 49);
        AsOfPages z = CHECK.with("archive law 0 carry 0;page a;page b;body k weight 1;"
            + "move a at 10 to b;move a at 20 to b;gone a at 40;shot b at 15 is k;gone b at 90;");
        due("p18 a move's SPANS", z.common(0, 12, 1), 15);
        due("p18 a move's SPANS", z.common(0, 12, 3), 39);
        z.add(1, 2, 1, 0);
        z.drop(3);
        due("p18 a move to a BROKEN one", z.follow(0, 8, 2), 2);
        due("p18 has none", z.common(0, 8, 3), 365);
    }

    private static void p19p20Clash() {
        AsOfPages x = CHECK.with(CLASH);
        CHECK.due("p19 the view", told(x, 0, 10), "p0@10[p1@40[p2@45 p3@41]]");
        due("p17 IMPOSSIBLE", x.judged(0, 10), 0);
        due("p18 IMPOSSIBLE", x.common(0, 10, 2), -1);
        due("p19 clash", x.clash(0, 10), 2);
        due("p20 culprit", x.culprit(0, 10), 0);
        due("p19 no clash", x.clash(1, 10), -1);
        due("p20 no culprit", x.culprit(1, 10), -1);
        due("p19 no PAGE", x.clash(4, 0), -2);
        due("p20 no PAGE", x.culprit(4, 0), -2);
        due("p19 no DAY", x.clash(0, 366), -2);
        due("p20 no DAY", x.culprit(0, -1), -2);
        x.add(3, 42, 3, 0);
        CHECK.due("p20 e ENDS ahead of 42", told(x, 0, 10), "p0@10[p1@40[p2@45 p3@41]]");
        due("p20 a is it still", x.culprit(0, 10), 0);
        AsOfPages y = CHECK.with(CLASH.replace("part c part e", "part e part c").replace("shot e at 41", "shot e at 26")
            + "gone e at 28;gone e at 80;");
        CHECK.due("p20 the view", told(y, 0, 10), "p0@10[p1@40[p3@28! p2@45]]");
        due("p19 the least", y.clash(0, 10), 2);
        AsOfPages z = CHECK.with(CLASH.replace("part c part e", "part e part c part e part c")
            .replace("page e", "page f;page e").replace("shot e at 41 is o;", "shot e at 39 is o;gone e at 70;"));
        due("p19 not the first with SPANS apart", z.clash(0, 10), 3);
        due("p20 one at either side", z.culprit(0, 10), 0);
        z.add(0, 5, 0, 0);
        due("p20 as ahead", z.culprit(0, 10), 0);
    }

    private static void p20NoCulprit() {
        // f, in a by itself, ENDS on DAY 12, and is another from DAY 26 on: c clashes with a and with f, twice each.
        String text = "archive law 0 carry 1;page a;page b;page c;page f;"
            + "body k weight 1 part b part f;body m weight 2 part c part c;body n weight 3;"
            + "shot a at 10 is k;gone a at 20;shot b at 40 is m;gone c at 30;shot c at 45 is n;"
            + "shot f at 12 is n;gone f at 26;";
        AsOfPages x = CHECK.with(text);
        CHECK.due("p20 the view", told(x, 0, 10), "p0@10[p1@40[p2@45 p2@45] p3@12]");
        due("p19 the least", x.clash(0, 10), 2);
        due("p20 none such", x.culprit(0, 10), -1);
        AsOfPages y = CHECK.with(text.replace("part c part c", "part c"));
        due("p20 c alone", y.culprit(0, 10), 2);
        due("p19 a and c", y.clash(0, 10), 2);
        // One ELEMENT whose own SPANS have nothing in common.
        AsOfPages z = CHECK.with("archive law 0 carry 1;page a;page b;page c;page d;body n weight 3;"
            + "body k weight 4 part d part a;move a at 10 to b;gone a at 20;move b at 40 to c;gone c at 30;"
            + "shot c at 45 is n;shot d at 10 is k;");
        due("p17 one ELEMENT", z.judged(0, 10), 0);
        due("p14 one ELEMENT", z.view(0, 10), 1);
        due("p19 one is not two", z.clash(0, 10), -1);
        due("p20 one ELEMENT", z.culprit(0, 10), 0);
        due("p19 SPANS of one alone are apart", z.clash(3, 10), -1);
        due("p20 that one", z.culprit(3, 10), 2);
    }

    private static void p21toP23() {
        AsOfPages x = CHECK.with(SITE);
        due("p21 spread", x.spread(3, 40), 50);
        due("p21 spread, gone", x.spread(3, 131), 90);
        due("p21 spread of one", x.spread(0, 200), 0);
        due("p21 BROKEN ENDS", x.spread(3, 0), 0);
        due("p21 no PAGE", x.spread(4, 0), -2);
        due("p21 no DAY", x.spread(0, 366), -2);
        due("p22 farthest", x.farthest(3, 40), 1);
        due("p22 the first of several", x.farthest(0, 95), 0);
        due("p22 from the DAY asked for", x.farthest(0, 0), 0);
        due("p22 later", x.farthest(3, 96), 0);
        due("p22 no PAGE", x.farthest(4, 0), -2);
        due("p22 no DAY", x.farthest(0, 366), -2);
        due("p23 heavy", x.heavy(3, 40), 35);
        due("p23 gone", x.heavy(0, 150), 0);
        due("p23 no PAGE", x.heavy(4, 0), -2);
        due("p23 no DAY", x.heavy(0, 366), -2);
        AsOfPages y = CHECK.with(LOOPS);
        due("p21 none ENDS", y.spread(0, 0), -1);
        due("p22 none ENDS", y.farthest(0, 0), -1);
        due("p23 none ENDS", y.heavy(0, 0), 0);
        AsOfPages z = CHECK.with("archive law 0 carry 0;page a;page b;page c;body k weight 7 part b part c;"
            + "body l weight 7;body m weight 7;body n weight 9;shot a at 5 is k;shot b at 5 is l;shot c at 5 is m;");
        due("p23 EQUAL ones once", z.heavy(0, 5), 14);
        z.drop(2);
        z.add(2, 5, 0, 3);
        due("p23 unequal ones", z.heavy(0, 5), 23);
        z.add(2, 1, 1, 0);
        due("p23 BROKEN weighs nothing", z.heavy(2, 1), 0);
    }

    private static void p24Run() {
        AsOfPages x = CHECK.with(SITE);
        int[][] rows = {{100, 110, 0, 149, 2}, {100, 110, 0, 149, 2}, {150, 150, 111, 365, 1}, {90, 120, 0, 365, 2},
            {90, 120, 0, 365, 2}, {95, 95, 0, 365, 1}, {-1, -1, -1, -1, -1}, {50, 60, 11, 365, 2}, {50, 60, 11, 365, 2}};
        for (int s = 0; s < rows.length; s++) {
            for (int what = 0; what < 5; what++) {
                due("p24 run(" + s + ", " + what + ")", x.run(s, what), rows[s][what]);
            }
        }
        due("p24 what 5", x.run(0, 5), -2);
        due("p24 BROKEN, what 5", x.run(6, 5), -2);
        due("p24 what -1", x.run(0, -1), -2);
        due("p24 no SHOT", x.run(9, 0), -2);
        due("p24 no SHOT", x.run(-1, 0), -2);
        AsOfPages y = CHECK.with("archive law 0 carry 0;page a;page b;gone a at 5;gone a at 6;same a at 7;gone a at 8;"
            + "move a at 10 to b;move a at 11 to b;move a at 20 to a;gone b at 0;gone b at 365;");
        int[][] more = {{5, 6, 0, 6, 2}, {5, 6, 0, 6, 2}, {-1, -1, -1, -1, -1}, {8, 8, 8, 9, 1}, {10, 11, 9, 19, 2},
            {10, 11, 9, 19, 2}, {20, 20, 12, 365, 1}, {0, 365, 0, 365, 2}};
        for (int s = 0; s < more.length; s++) {
            for (int what = 0; what < 5; what++) {
                due("p24 more, run(" + s + ", " + what + ")", y.run(s, what), more[s][what]);
            }
        }
    }

    private static void p25toP28Days() {
        AsOfPages x = CHECK.with(SITE);
        due("p25 PROVED", x.days(3, 2), 31);
        due("p25 OPEN", x.days(3, 1), 335);
        due("p25 IMPOSSIBLE", x.days(3, 0), 0);
        due("p25 no such", x.days(3, 3), -2);
        due("p25 no such", x.days(3, -1), -2);
        due("p25 no PAGE", x.days(4, 0), -2);
        due("p26 PROVED", x.firstDay(3, 2), 0);
        due("p26 OPEN", x.firstDay(3, 1), 31);
        due("p26 IMPOSSIBLE", x.firstDay(3, 0), -1);
        due("p26 no such", x.firstDay(3, 3), -2);
        due("p26 no PAGE", x.firstDay(-1, 0), -2);
        due("p27 changes", x.changes(3), 4);
        int[] days = {31, 56, 106, 131, -1};
        for (int k = 0; k < days.length; k++) {
            due("p28 change " + k, x.change(3, k), days[k]);
        }
        due("p27 of c by b alone", x.changes(2), 1);
        due("p27 no PAGE", x.changes(4), -2);
        due("p28 no PAGE", x.change(4, 0), -2);
        due("p28 k -1", x.change(3, -1), -2);
        AsOfPages y = CHECK.with(CLASH);
        due("p25 IMPOSSIBLE", y.days(0, 0), 16);
        due("p26 IMPOSSIBLE", y.firstDay(0, 0), 0);
        due("p26 PROVED", y.firstDay(0, 2), 16);
        AsOfPages z = CHECK.with("archive law 2 carry 0;page a;gone a at 0;gone a at 1;gone a at 365;page b;");
        due("p27 on DAYS 1, 365", z.changes(0), 2);
        due("p28 on DAY 1", z.change(0, 0), 1);
        due("p28 on DAY 365", z.change(0, 1), 365);
        due("p27 without SHOTS", z.changes(1), 0);
        due("p25 without SHOTS", z.days(1, 2), 366);
        AsOfPages w = CHECK.with("archive law 2 carry 0;page z;");
        due("p25 none at all", w.days(0, 2), 366);
        due("p26 none at all", w.firstDay(0, 2), 0);
        due("p33 none at all", w.bothOn(0, 0, 2), 0);
    }

    /** a leads to b, which on DAY 365 alone is as in a. */
    private static void lastDay() {
        AsOfPages x = CHECK.with("archive law 2 carry 0;page a;page b;body k weight 1 part b;body l weight 2;"
            + "shot a at 9 is k;same a at 365;gone b at 1;shot b at 365 is l;");
        due("p25 on the last DAY", x.days(0, 2), 1);
        due("p26 on the last DAY", x.firstDay(0, 2), 365);
        due("p33 on the last DAY", x.bothOn(0, 1, 2), 365);
        due("p35 on the last DAY", x.bestDay(0), 365);
        due("p28 on the last DAY", x.change(0, x.changes(0) - 1), 365);
        due("p41 on the last DAY", x.spare(), 2);
    }

    /** MAY SPANS of one DAY, and such as meet on one. */
    private static void oneDay() {
        AsOfPages x = CHECK.with("archive law 0 carry 0;page a;page b;body k weight 1 part b;body l weight 2;"
            + "gone a at 9;shot a at 10 is k;gone a at 12;gone b at 10;shot b at 14 is l;same b at 20;");
        due("p18 a one-day MAY", x.common(1, 9, 3), 13);
        x.add(0, 11, 3, 0);
        due("p18 a one-day MAY, first", x.common(0, 10, 2), 10);
        due("p18 a one-day MAY, last", x.common(0, 10, 3), 10);
        AsOfPages y = CHECK.with("archive law 0 carry 1;page a;page b;page c;body k weight 1 part b;"
            + "body l weight 2 part c;body m weight 3;"
            + "shot a at 10 is k;gone a at 20;shot b at 40 is l;gone c at 18;shot c at 45 is m;");
        CHECK.due("p17 the view", told(y, 0, 0), "p0@10[p1@40[p2@45]]");
        due("p17 MAY on DAY 19 alone", y.judged(0, 0), 1);
        due("p18 the one", y.common(0, 0, 2), 19);
        due("p18 the one", y.common(0, 0, 3), 19);
        due("p19 they meet", y.clash(0, 0), -1);
        due("p20 they meet", y.culprit(0, 0), -1);
        due("p32 they meet", y.both(0, 2, 0), 1);
        AsOfPages z = CHECK.with("archive law 0 carry 1;page a;page b;page c;body k weight 1 part b;"
            + "body l weight 2 part c;body m weight 3;"
            + "gone a at 18;shot a at 40 is k;shot b at 10 is l;shot c at 5 is m;gone c at 20;");
        CHECK.due("p19 the view", told(z, 0, 40), "p0@40[p1@10[p2@5]]");
        due("p17 MAY on DAY 19 alone", z.judged(0, 40), 1);
        due("p19 they meet", z.clash(0, 40), -1);
        z.add(2, 19, 3, 0);
        due("p17 no more", z.judged(0, 40), 0);
        due("p19 no more", z.clash(0, 40), 2);
    }

    private static void p29toP31Stored() {
        AsOfPages x = CHECK.with(SITE);
        int[] runs = {1, 1, 0, 1};
        for (int p = 0; p < runs.length; p++) {
            due("p29 runs(" + p + ")", x.runs(p), runs[p]);
        }
        due("p29 no PAGE", x.runs(4), -2);
        due("p30 all", x.stored(0), 70);
        due("p30 once", x.stored(1), 35);
        due("p30 no such", x.stored(2), -2);
        due("p30 no such", x.stored(-1), -2);
        due("p31 unused", x.unused(), 0);
        x.drop(4);
        due("p31 EQUAL is not the same", x.unused(), 4);
        x.add(0, 105, 3, 0);
        x.add(0, 107, 0, 0);
        due("p29 gone between", x.runs(0), 2);
        AsOfPages y = CHECK.with("archive law 0 carry 0;");
        due("p30 nothing", y.stored(0), 0);
        due("p31 nothing", y.unused(), 0);
        AsOfPages z = CHECK.with("archive law 0 carry 0;page a;body k weight 3;body l weight 50;body m weight 700;"
            + "shot a at 1 is k;same a at 2;same a at 3;shot a at 4 is l;");
        due("p30 all", z.stored(0), 59);
        due("p30 once", z.stored(1), 53);
        due("p31 the third", z.unused(), 4);
        z.drop(1);
        z.drop(1);
        due("p31 by one SHOT alone", z.unused(), 4);
        due("p40 nothing", y.dead(0), 0);
        due("p41 nothing", y.spare(), 0);
    }

    private static void p32p33Both() {
        AsOfPages x = CHECK.with(SITE);
        due("p32 OPEN", x.both(1, 2, 100), 2);
        due("p32 apart", x.both(0, 3, 20), 1);
        due("p32 a, d", x.both(1, 3, 40), 1);
        due("p32 one and itself", x.both(1, 1, 40), 2);
        due("p32 no PAGE", x.both(4, 0, 0), -2);
        due("p32 no PAGE", x.both(0, 4, 0), -2);
        due("p32 no DAY", x.both(0, 0, 366), -2);
        due("p33 first", x.bothOn(1, 3, 2), 0);
        due("p33 OPEN", x.bothOn(1, 3, 1), 31);
        due("p33 none", x.bothOn(1, 3, 0), -1);
        due("p33 no such", x.bothOn(1, 3, 3), -2);
        due("p33 no such", x.bothOn(1, 3, -1), -2);
        due("p33 no PAGE", x.bothOn(4, 0, 0), -2);
        due("p33 no PAGE", x.bothOn(0, 4, 0), -2);
        AsOfPages y = CHECK.with(CLASH);
        due("p32 IMPOSSIBLE", y.both(0, 3, 5), 0);
        due("p33 IMPOSSIBLE", y.bothOn(3, 0, 0), 0);
        // Neither is IMPOSSIBLE alone: a leads to b as of DAY 10, f leads to c as of DAY 45.
        AsOfPages z = CHECK.with("archive law 0 carry 1;page a;page c;page f;body n weight 3;"
            + "shot a at 10 is n;gone a at 20;gone c at 30;shot c at 45 is n;move f at 60 to c;");
        due("p32 each alone", z.judged(0, 5) + z.judged(2, 5), 3);
        due("p32 together", z.both(0, 2, 5), 0);
        due("p33 together", z.bothOn(0, 2, 1), 16);
    }

    private static void p34p35Drift() {
        AsOfPages x = CHECK.with(SITE);
        due("p34 drift", x.drift(3, 40), 170);
        due("p34 drift", x.drift(3, 90), 40);
        due("p34 BROKEN, too", x.drift(3, 4), 6);
        due("p34 gone, too", x.drift(0, 160), 10);
        due("p34 no PAGE", x.drift(4, 0), -2);
        due("p34 no DAY", x.drift(0, 366), -2);
        due("p35 bestDay", x.bestDay(3), 90);
        due("p35 of b", x.bestDay(1), 90);
        due("p35 no PAGE", x.bestDay(4), -2);
        AsOfPages y = CHECK.with(LOOPS);
        due("p34 none ENDS", y.drift(0, 0), 0);
        due("p35 never whole", y.bestDay(0), -1);
        AsOfPages z = CHECK.with("archive law 0 carry 0;page a;page b;body k weight 1 part b;body l weight 2;"
            + "shot a at 10 is k;shot a at 50 is l;shot b at 11 is l;");
        due("p35 PROVED ahead of near", z.bestDay(0), 50);
        z.drop(1);
        due("p35 the first of least drift", z.bestDay(0), 10);
    }

    private static void p36toP40Clicks() {
        AsOfPages x = CHECK.with(SITE);
        due("p36 to", x.click(0, 99, 0, 0), 1);
        due("p36 to", x.click(0, 99, 1, 0), 3);
        due("p36 on", x.click(0, 99, 1, 1), 99);
        due("p36 not so many", x.click(0, 99, 2, 0), -1);
        due("p36 gone", x.click(0, 150, 0, 0), -1);
        due("p36 BROKEN", x.click(3, 0, 0, 1), -1);
        due("p36 i -1", x.click(0, 99, -1, 0), -2);
        due("p36 what 2", x.click(0, 99, 0, 2), -2);
        due("p36 what -1", x.click(0, 99, 0, -1), -2);
        due("p36 no PAGE", x.click(4, 99, 0, 0), -2);
        due("p36 no DAY", x.click(0, 366, 0, 0), -2);
        int[] reach = {1, 11, 15, 15};
        for (int n = 0; n < reach.length; n++) {
            due("p37 reach " + n, x.reach(0, 100, n), reach[n]);
        }
        due("p37 n 6", x.reach(3, 40, 6), 12);
        due("p37 n 7", x.reach(0, 100, 7), -2);
        due("p37 n -1", x.reach(0, 100, -1), -2);
        due("p37 no PAGE", x.reach(4, 100, 1), -2);
        due("p37 no DAY", x.reach(0, -1, 1), -2);
        int[] clicks = {0, 1, 2, 1};
        for (int to = 0; to < clicks.length; to++) {
            due("p38 clicks to " + to, x.clicks(0, 100, to), clicks[to]);
        }
        due("p38 not by 6", x.clicks(1, 100, 0), -1);
        due("p38 no PAGE", x.clicks(4, 0, 0), -2);
        due("p38 no PAGE", x.clicks(0, 0, 4), -2);
        due("p38 no DAY", x.clicks(0, 366, 0), -2);
        due("p39 linking", x.linking(2, 40), 8);
        due("p39 linking", x.linking(2, 0), 0);
        due("p39 linking", x.linking(3, 100), 1);
        due("p39 no PAGE", x.linking(4, 0), -2);
        due("p39 no DAY", x.linking(0, 366), -2);
        due("p40 dead", x.dead(0), 8);
        due("p40 none dead", x.dead(100), 0);
        due("p40 no DAY", x.dead(366), -2);
        due("p40 no DAY", x.dead(-1), -2);
        x.rule(0, 1);
        due("p36 on, by CARRY 1", x.click(0, 99, 0, 1), 100);
        due("p40 by CARRY 1", x.dead(0), 0);
    }

    private static void p37p38FarClicks() {
        StringBuilder text = new StringBuilder("archive law 0 carry 0;");
        for (int p = 0; p < 8; p++) {
            text.append("page ").append((char) ('a' + p)).append(';');
        }
        for (int p = 0; p < 7; p++) {
            text.append("body ").append((char) ('k' + p)).append(" weight 1 link ").append((char) ('b' + p)).append(';')
                .append("shot ").append((char) ('a' + p)).append(" at 9 is ").append((char) ('k' + p)).append(';');
        }
        AsOfPages x = CHECK.with(text.toString());
        due("p38 six", x.clicks(0, 0, 6), 6);
        due("p38 seven", x.clicks(0, 0, 7), -1);
        due("p37 six", x.reach(0, 0, 6), 127);
        due("p37 five", x.reach(0, 0, 5), 63);
        due("p40 the last", x.dead(0), 128);
        AsOfPages y = CHECK.with("archive law 0 carry 1;page a;page b;page c;body k weight 1 link b;"
            + "body l weight 1 link c;body m weight 1;shot a at 10 is k;shot b at 12 is l;shot b at 100 is m;");
        due("p37 by CARRY 1", y.reach(0, 100, 2), 7);
        due("p40 by CARRY 1", y.dead(100), 0);
        due("p40 by CARRY 1", y.dead(12), 4);
        y.rule(0, 0);
        due("p37 by CARRY 0", y.reach(0, 100, 2), 3);
        // The fewest, though most LINKS lead back.
        StringBuilder crowd = new StringBuilder("archive law 0 carry 0;");
        for (char p = 'a'; p <= 'h'; p++) {
            crowd.append("page ").append(p).append(';');
        }
        for (char p = 'a'; p <= 'g'; p++) {
            crowd.append("body x" + p + " weight 1 link " + p + " link " + p + " link " + p + " link " + (char) (p + 1)
                + ";shot " + p + " at 9 is x" + p + ";");
        }
        AsOfPages w = CHECK.with(crowd.toString());
        due("p38 in a crowd", w.clicks(0, 0, 6), 6);
        due("p38 in a crowd, again", w.clicks(0, 0, 7), -1);
        due("p37 in a crowd", w.reach(0, 0, 6), 127);
        w.rule(0, 1);
        due("p38 in a crowd, by CARRY 1", w.clicks(0, 0, 6), 6);
        AsOfPages v = CHECK.with("archive law 0 carry 1;page a;page b;page c;page d;body k weight 1 link b;"
            + "body l weight 1 link d;body m weight 1 link c;shot a at 10 is k;shot b at 12 is l;shot b at 200 is m;"
            + "shot d at 150 is k;");
        due("p38 b on two DAYS", v.clicks(0, 0, 2), 4);
        due("p38 b on two DAYS, again", v.clicks(0, 0, 2), 4);
        AsOfPages u = CHECK.with("archive law 0 carry 0;page a;page b;body k weight 1 link a;shot b at 1 is k;");
        due("p37 to PAGE 0", u.reach(1, 0, 1), 3);
        due("p37 to PAGE 0, again", u.reach(1, 0, 1), 3);
        // A PAGE come to a second time on another DAY leads on from there.
        AsOfPages z = CHECK.with("archive law 0 carry 1;page a;page b;page c;body k weight 1 link b;body l weight 1 link a;"
            + "body m weight 1 link c;shot a at 10 is k;shot b at 90 is l;shot a at 91 is m;");
        due("p38 twice by a", z.clicks(0, 0, 2), 3);
        due("p39 by a PAGE that moves", z.linking(0, 0), 2);
        z.add(2, 3, 2, 1);
        due("p39 by a PAGE that moves", z.linking(0, 0), 6);
    }

    private static void p41p42p43() {
        AsOfPages x = CHECK.with(SITE + "page e;");
        due("p41 spare", x.spare(), 8 + 16 + 256);
        AsOfPages y = CHECK.with("archive law 0 carry 0;page a;page b;body k weight 1;body l weight 1;"
            + "shot a at 3 is k;shot a at 5 is l;gone b at 7;gone b at 8;same b at 90;same b at 95;");
        due("p41 EQUAL, gone, BROKEN", y.spare(), 1 + 2 + 4 + 32);
        y.drop(0);
        due("p41 not the only one", y.spare(), 2 + 16);
        StringBuilder many = new StringBuilder("archive law 0 carry 0;page a;");
        for (int i = 0; i < 40; i++) {
            many.append("gone a at ").append(i).append(';');
        }
        AsOfPages z = CHECK.with(many.toString());
        for (int i = 0; i < 20; i++) {
            z.add(0, 365 - i, 3, 0);
        }
        due("p41 sixty", z.spare(), (1L << 60) - 1);
        due("p42 blank", x.blank(0), 365);
        due("p42 blank", x.blank(3), 365);
        due("p42 no SHOT", x.blank(4), -1);
        due("p42 no PAGE", x.blank(5), -2);
        due("p42 between", z.blank(0), 192);
        AsOfPages w = CHECK.with("archive law 0 carry 0;page a;gone a at 100;gone a at 300;");
        due("p42 the first of several", w.blank(0), 0);
        w.drop(0);
        due("p42 of one SHOT", w.blank(0), 0);
        w.undo();
        w.add(0, 1, 3, 0);
        due("p42 between", w.blank(0), 200);
        due("p43 as it is", x.by(0, 100, 0, 0), x.judged(0, 100));
        AsOfPages v = CHECK.with(CLASH);
        due("p43 by CARRY 0", v.by(0, 10, 0, 0), 1);
        due("p43 by CARRY 1", v.by(0, 10, 0, 1), 0);
        due("p43 by LAW 2", v.by(0, 16, 2, 1), 1);
        due("p43 by LAW 0", v.by(0, 16, 0, 1), 2);
        due("p43 changes nothing", v.judged(0, 10), 0);
        due("p43 changes nothing", v.count(0), 0);
        due("p43 LAW 3", v.by(0, 10, 3, 0), -2);
        due("p43 LAW -1", v.by(0, 10, -1, 0), -2);
        due("p43 CARRY 2", v.by(0, 10, 0, 2), -2);
        due("p43 CARRY -1", v.by(0, 10, 0, -1), -2);
        due("p43 no PAGE", v.by(4, 10, 0, 0), -2);
        due("p43 no DAY", v.by(0, 366, 0, 0), -2);
    }

    private static void p44p45Tell() {
        AsOfPages x = CHECK.with(SITE);
        CHECK.due("p44 told", told(x, 3, 40), "p3@50[p0@100[p1@90 p2@90]]");
        due("p44 no PAGE", x.tell(4, 0), -2);
        due("p44 no DAY", x.tell(0, 366), -2);
        CHECK.due("p44 OUT stays", Check.out(x), "p3@50[p0@100[p1@90 p2@90]]");
        due("p45 octet(0)", x.octet(0), 'p');
        due("p45 octet(25)", x.octet(25), ']');
        due("p45 octet(26)", x.octet(26), -1);
        due("p45 octet(-1)", x.octet(-1), -1);
        CHECK.due("p44 BROKEN", told(x, 3, 0), "p3?");
        due("p45 shorter", x.octet(3), -1);
        CHECK.due("p44 gone", told(x, 3, 131), "p3@60[p0@150!]");
        CHECK.due("p44 LOST, ROUND", told(CHECK.with(LOOPS), 2, 0), "p2@5[p3- p0~ p1~]");
        AsOfPages y = CHECK.with("archive law 0 carry 0;page a;page b;page c;page d;page e;body k weight 1 part b part e;"
            + "body l weight 1 part c part e;body m weight 1 part d part e;body n weight 1 part e part e;"
            + "body o weight 1;shot a at 0 is k;shot b at 9 is l;shot c at 10 is m;shot d at 99 is n;shot e at 365 is o;");
        CHECK.due("p44 less than 3 deep", told(y, 0, 0), "p0@0[p1@9[p2@10[p3@99 p4@365] p4@365] p4@365]");
    }

    private static void p46Add() {
        AsOfPages x = CHECK.with(SITE);
        due("p46 add shot", x.add(1, 0, 0, 3), 9);
        due("p46 its PAGE", x.shot(9, 0), 1);
        due("p46 its DAY", x.shot(9, 1), 0);
        due("p46 its kind", x.shot(9, 2), 0);
        due("p46 its BODY", x.shot(9, 3), 3);
        due("p46 add same", x.add(1, 365, 1, 99), 10);
        due("p46 its BODY", x.shot(10, 3), 2);
        due("p46 add move", x.add(1, 5, 2, 1), 11);
        due("p46 to", x.shot(11, 4), 1);
        due("p46 add gone", x.add(1, 6, 3, -7), 12);
        due("p46 kind", x.shot(12, 2), 3);
        due("p46 to none", x.shot(12, 4), -1);
        due("p46 acts", x.count(5), 4);
        due("p46 no PAGE", x.add(4, 7, 3, 0), -2);
        due("p46 no PAGE", x.add(-1, 7, 3, 0), -2);
        due("p46 no DAY", x.add(0, 366, 3, 0), -2);
        due("p46 no DAY", x.add(0, -1, 3, 0), -2);
        due("p46 no kind", x.add(0, 7, 4, 0), -2);
        due("p46 no kind", x.add(0, 7, -1, 0), -2);
        due("p46 no BODY", x.add(0, 7, 0, 4), -2);
        due("p46 no BODY", x.add(0, 7, 0, -1), -2);
        due("p46 no PAGE to move to", x.add(0, 7, 2, 4), -2);
        due("p46 no PAGE to move to", x.add(0, 7, 2, -1), -2);
        due("p46 -2 ahead of -5", x.add(1, 6, 0, 4), -2);
        due("p46 that DAY", x.add(1, 6, 3, 0), -5);
        due("p46 no act of these", x.count(5), 4);
        for (int i = 0; i < 16; i++) {
            due("p46 more", x.add(2, i, 3, 0), 13 + i);
        }
        due("p46 twenty acts", x.add(2, 200, 3, 0), -5);
        due("p47 twenty acts", x.drop(0), -5);
        due("p48 twenty acts", x.rule(1, 1), -5);
        due("p47 -2 ahead of -5", x.drop(29), -2);
        due("p48 -2 ahead of -5", x.rule(3, 1), -2);
        due("p51 undo", x.undo(), 19);
        due("p46 again", x.add(2, 200, 3, 0), 28);
    }

    private static void p47p48DropRule() {
        AsOfPages x = CHECK.with(SITE);
        due("p47 drop", x.drop(3), 8);
        due("p47 one less", x.shot(3, 1), 120);
        due("p47 the last", x.shot(7, 1), 60);
        due("p47 none such", x.shot(8, 0), -2);
        due("p47 no SHOT", x.drop(8), -2);
        due("p47 no SHOT", x.drop(-1), -2);
        due("p47 acts", x.count(5), 1);
        due("p47 nearest", x.nearest(1, 0), 3);
        due("p48 rule", x.rule(1, 1), 0);
        due("p48 LAW", x.count(0), 1);
        due("p48 CARRY", x.count(1), 1);
        due("p48 both so", x.rule(1, 1), -5);
        due("p48 one other", x.rule(1, 0), 0);
        due("p48 one other", x.rule(2, 0), 0);
        due("p48 acts", x.count(5), 4);
        due("p48 LAW 3", x.rule(3, 0), -2);
        due("p48 LAW -1", x.rule(-1, 0), -2);
        due("p48 CARRY 2", x.rule(0, 2), -2);
        due("p48 CARRY -1", x.rule(0, -1), -2);
    }

    private static void p49p50Images() {
        AsOfPages x = CHECK.with(SITE);
        due("p50 nothing", x.back(0), -6);
        due("p50 no such", x.back(3), -2);
        due("p50 no such", x.back(-1), -2);
        due("p49 no such", x.image(3), -2);
        due("p49 no such", x.image(-1), -2);
        x.drop(0);
        x.rule(2, 1);
        due("p49 image", x.image(0), 0);
        x.undo();
        x.add(0, 1, 3, 0);
        due("p49 image", x.image(2), 0);
        Check.load(x, "archive law 1 carry 0;page z;");
        due("p50 still nothing", x.back(1), -6);
        due("p50 back", x.back(0), 0);
        due("p50 LAW", x.count(0), 2);
        due("p50 CARRY", x.count(1), 1);
        due("p50 LINES", x.count(6), 18);
        due("p50 SHOTS", x.count(4), 8);
        due("p50 acts", x.count(5), 2);
        due("p50 BODIES", x.body(0, 11), 2);
        due("p50 nearest", x.nearest(0, 0), 0);
        due("p51 acts of the image", x.undo(), 1);
        due("p51 LAW", x.count(0), 0);
        due("p51 and more", x.undo(), 0);
        due("p51 SHOTS", x.count(4), 9);
        due("p51 in its place", x.shot(0, 1), 100);
        due("p50 once more", x.back(0), 0);
        due("p50 as kept", x.count(4), 8);
        due("p50 the other", x.back(2), 0);
        due("p50 SHOTS", x.count(4), 9);
        due("p50 LAW", x.count(0), 0);
        due("p50 the added one", x.shot(8, 1), 1);
        x.image(0);
        x.drop(0);
        due("p49 kept anew", x.back(0), 0);
        due("p49 kept anew", x.count(4), 9);
        x.drop(8);
        due("p50 ahead", x.nearest(0, 0), 0);
        x.back(0);
        due("p50 behind", x.nearest(0, 0), 8);
        Check.load(x, "archive law 0 carry 0;page a;gone a at 3;gone a at 1;");
        due("p4 another", x.nearest(0, 0), 1);
        x.archive();
        due("p49 no ARCHIVE", x.image(0), -2);
        due("p50 back from none", x.back(0), 0);
        due("p50 there it is", x.count(4), 9);
    }

    private static void p51p52Undo() {
        AsOfPages x = CHECK.with(SITE);
        due("p51 none", x.undo(), -5);
        due("p52 none", x.anew(), 0);
        x.add(0, 1, 3, 0);
        x.drop(4);
        x.drop(0);
        x.rule(1, 0);
        x.rule(1, 1);
        due("p51 rule", x.undo(), 4);
        due("p51 CARRY", x.count(1), 0);
        due("p51 LAW", x.count(0), 1);
        due("p51 rule", x.undo(), 3);
        due("p51 LAW", x.count(0), 0);
        due("p51 drop", x.undo(), 2);
        due("p51 SHOT 0", x.shot(0, 1), 100);
        due("p51 SHOT 1", x.shot(1, 1), 110);
        due("p51 its BODY", x.shot(1, 3), 0);
        due("p51 drop", x.undo(), 1);
        due("p51 SHOT 4", x.shot(4, 1), 120);
        due("p51 its BODY", x.shot(4, 3), 2);
        due("p51 SHOT 9", x.shot(9, 1), 1);
        due("p51 add", x.undo(), 0);
        due("p51 SHOTS", x.count(4), 9);
        due("p51 no more", x.undo(), -5);
        x.drop(5);
        x.rule(2, 1);
        x.add(2, 95, 3, 0);
        due("p52 anew", x.anew(), 3);
        due("p52 acts", x.count(5), 0);
        due("p52 LAW", x.count(0), 0);
        due("p52 CARRY", x.count(1), 0);
        due("p52 SHOT 5", x.shot(5, 4), 1);
        due("p52 SHOTS", x.count(4), 9);
        due("p52 again", x.anew(), 0);
        x.add(0, 0, 3, 0);
        due("p52 ahead", x.shots(0), 4);
        x.anew();
        due("p52 behind", x.shots(0), 3);
    }

    public static void main(String[] args) {
        p1New();
        p2to5Tape();
        p6Count();
        p7Shot();
        p8Body();
        p9p10Shots();
        p11Nearest();
        p12p13Follow();
        p14p15View();
        p15Nested();
        p16p17p18Judged();
        p19p20Clash();
        p20NoCulprit();
        p21toP23();
        p24Run();
        p25toP28Days();
        lastDay();
        oneDay();
        p29toP31Stored();
        p32p33Both();
        p34p35Drift();
        p36toP40Clicks();
        p37p38FarClicks();
        p41p42p43();
        p44p45Tell();
        p46Add();
        p47p48DropRule();
        p49p50Images();
        p51p52Undo();
        CHECK.finish();
    }
}
