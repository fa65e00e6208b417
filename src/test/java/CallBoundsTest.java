/**
 * The bounds that terms II to V and promises 1 and 6 to 45 name, a method for each sentence or a few that belong
 * together: at the bound, one below, one above, with nothing, with all that there may be. (Acts: ActBoundsTest.)
 */
public final class CallBoundsTest {
    private static final Check CHECK = new Check();
    private static final String HEAD = "archive law 0 carry 0;";
    private static final int[] NO_DAYS = {-1, 366, Integer.MIN_VALUE, Integer.MAX_VALUE};
    private static final int[] NOT_UP_TO_ZERO = {-1, -2, Integer.MIN_VALUE};

    /** 85 ELEMENTS, all that a VIEW can have: a, four b, four c in each, four d in each of these; all on DAY 365. */
    private static final String CROWD = HEAD + "page a;page b;page c;page d;"
        + "body k weight 999 part b part b part b part b;body l weight 998 part c part c part c part c;"
        + "body m weight 997 part d part d part d part d;"
        + "shot a at 365 is k;shot b at 365 is l;shot c at 365 is m;gone d at 365;";

    /** PAGES 0 .. 5 on any DAY: with a BODY, gone, BROKEN, LOST, ROUND, with one that is NESTED in it. */
    private static final String STATES = HEAD + "page a;page b;page c;page d;page e;page f;"
        + "body k weight 7;body l weight 8 part f;"
        + "shot a at 9 is k;gone b at 9;same c at 9;move e at 9 to e;shot f at 9 is l;";

    private interface OfPageAndDay {
        long ask(AsOfPages x, int page, int day);
    }

    private interface OfPage {
        long ask(AsOfPages x, int page);
    }

    private static void due(String what, long got, long want) {
        CHECK.due(what, got, want);
    }

    private static void answers(String what, int[] want, OfPage call, AsOfPages x) {
        for (int i = 0; i < want.length; i++) {
            due(what + ", " + i, call.ask(x, i), want[i]);
        }
    }

    private static String told(AsOfPages x, int page, int day) {
        int length = x.tell(page, day);
        due("bytes of OUT", x.count(8), length);
        return Check.out(x);
    }

    private static String pages(int n) {
        StringBuilder text = new StringBuilder(HEAD);
        for (int p = 0; p < n; p++) {
            text.append("page ").append((char) ('a' + p)).append(';');
        }
        return text.toString();
    }

    /** One PAGE, so many SHOTS of it, all gone, on the first DAYS. */
    private static String goneDays(int n) {
        StringBuilder text = new StringBuilder(HEAD + "page a;");
        for (int day = 0; day < n; day++) {
            text.append("gone a at ").append(day).append(';');
        }
        return text.toString();
    }

    // "-2: there are none such", of PAGES and DAYS.

    private static void noSuch(String name, OfPageAndDay call) {
        due(name + " without an ARCHIVE", call.ask(new AsOfPages(), 0, 0), -2);
        due(name + " without PAGES", call.ask(CHECK.with(HEAD), 0, 0), -2);
        for (int n : new int[] {1, 2, 8}) {
            AsOfPages x = CHECK.with(pages(n) + "gone a at 9;");
            for (int day : NO_DAYS) {
                due(name + " on DAY " + day, call.ask(x, 0, day), -2);
            }
            for (int page : new int[] {-1, n, Integer.MIN_VALUE, Integer.MAX_VALUE}) {
                due(name + " of PAGE " + page + " of " + n, call.ask(x, page, 9), -2);
            }
            for (int day : new int[] {0, 365}) {
                if (call.ask(x, 0, day) == -2 || call.ask(x, n - 1, day) == -2) {
                    CHECK.wrong(name + " of the first, the last PAGE of " + n + " on DAY " + day + " answered -2");
                }
            }
        }
    }

    private static void noSuchPageOrDay() {
        noSuch("nearest", (x, page, day) -> x.nearest(page, day));
        noSuch("follow", (x, page, day) -> x.follow(page, day, 1));
        noSuch("followed", (x, page, day) -> x.followed(page, day, 0));
        noSuch("view", (x, page, day) -> x.view(page, day));
        noSuch("element", (x, page, day) -> x.element(page, day, 0, 0));
        noSuch("element behind the last", (x, page, day) -> x.element(page, day, 99, 5));
        noSuch("whole", (x, page, day) -> x.whole(page, day));
        noSuch("judged", (x, page, day) -> x.judged(page, day));
        noSuch("common", (x, page, day) -> x.common(page, day, 0));
        noSuch("clash", (x, page, day) -> x.clash(page, day));
        noSuch("culprit", (x, page, day) -> x.culprit(page, day));
        noSuch("spread", (x, page, day) -> x.spread(page, day));
        noSuch("farthest", (x, page, day) -> x.farthest(page, day));
        noSuch("heavy", (x, page, day) -> x.heavy(page, day));
        noSuch("both", (x, page, day) -> x.both(page, 0, day));
        noSuch("both with", (x, page, day) -> x.both(0, page, day));
        noSuch("drift", (x, page, day) -> x.drift(page, day));
        noSuch("click", (x, page, day) -> x.click(page, day, 0, 0));
        noSuch("reach", (x, page, day) -> x.reach(page, day, 0));
        noSuch("clicks", (x, page, day) -> x.clicks(page, day, 0));
        noSuch("clicks to", (x, page, day) -> x.clicks(0, day, page));
        noSuch("linking", (x, page, day) -> x.linking(page, day));
        noSuch("by", (x, page, day) -> x.by(page, day, 0, 0));
        noSuch("tell", (x, page, day) -> x.tell(page, day));
    }

    private static void noSuch(String name, OfPage call) {
        due(name + " without an ARCHIVE", call.ask(new AsOfPages(), 0), -2);
        due(name + " without PAGES", call.ask(CHECK.with(HEAD), 0), -2);
        for (int n : new int[] {1, 2, 8}) {
            AsOfPages x = CHECK.with(pages(n) + "gone a at 9;");
            for (int page : new int[] {-1, n, Integer.MIN_VALUE, Integer.MAX_VALUE}) {
                due(name + " of PAGE " + page + " of " + n, call.ask(x, page), -2);
            }
            if (call.ask(x, 0) == -2 || call.ask(x, n - 1) == -2) {
                CHECK.wrong(name + " of the first, the last PAGE of " + n + " answered -2");
            }
        }
    }

    private static void noSuchPage() {
        noSuch("shots", (x, page) -> x.shots(page));
        noSuch("byDay", (x, page) -> x.byDay(page, 0));
        noSuch("days", (x, page) -> x.days(page, 0));
        noSuch("firstDay", (x, page) -> x.firstDay(page, 0));
        noSuch("changes", (x, page) -> x.changes(page));
        noSuch("change", (x, page) -> x.change(page, 0));
        noSuch("runs", (x, page) -> x.runs(page));
        noSuch("bothOn", (x, page) -> x.bothOn(page, 0, 0));
        noSuch("bothOn with", (x, page) -> x.bothOn(0, page, 0));
        noSuch("bestDay", (x, page) -> x.bestDay(page));
        noSuch("blank", (x, page) -> x.blank(page));
    }

    /** A number out of its bounds is refused, all within them are not; of a PAGE with or without what is asked for. */
    private static void within(String name, int first, int last, OfPage call) {
        AsOfPages x = CHECK.with(STATES);
        for (int number = first; number <= last; number++) {
            if (call.ask(x, number) == -2) {
                CHECK.wrong(name + " " + number + " answered -2");
            }
        }
        for (int number : new int[] {first - 1, last + 1, Integer.MIN_VALUE, Integer.MAX_VALUE}) {
            due(name + " " + number, call.ask(x, number), -2);
        }
    }

    private static void noSuchNumber() {
        within("shot what", 0, 4, (x, what) -> x.shot(0, what));
        within("run what", 0, 4, (x, what) -> x.run(0, what));
        within("run what of a BROKEN one", 0, 4, (x, what) -> x.run(2, what));
        within("follow what", 0, 2, (x, what) -> x.follow(0, 0, what));
        within("follow what of a LOST one", 0, 2, (x, what) -> x.follow(3, 0, what));
        within("element what", 0, 5, (x, what) -> x.element(0, 0, 0, what));
        within("element what behind the last", 0, 5, (x, what) -> x.element(0, 0, 1, what));
        within("common what", 0, 3, (x, what) -> x.common(0, 0, what));
        within("days judged", 0, 2, (x, judged) -> x.days(0, judged));
        within("firstDay judged", 0, 2, (x, judged) -> x.firstDay(0, judged));
        within("bothOn judged", 0, 2, (x, judged) -> x.bothOn(0, 1, judged));
        within("stored what", 0, 1, (x, what) -> x.stored(what));
        within("click what", 0, 1, (x, what) -> x.click(0, 0, 0, what));
        within("click what of a gone one", 0, 1, (x, what) -> x.click(1, 0, 0, what));
        within("reach n", 0, 6, (x, n) -> x.reach(0, 0, n));
        within("dead day", 0, 365, (x, day) -> x.dead(day));
        within("by LAW", 0, 2, (x, law) -> x.by(0, 0, law, 0));
        within("by CARRY", 0, 1, (x, carry) -> x.by(0, 0, 0, carry));
    }

    /** "No ARCHIVE": what the calls that want none of a PAGE answer then; so they do behind an archive() of 0 LINES. */
    private static void newObject() {
        AsOfPages left = CHECK.with(CROWD);
        left.archive();
        for (AsOfPages x : new AsOfPages[] {new AsOfPages(), left}) {
            for (int what = 0; what <= 8; what++) {
                due("count(" + what + ") without an ARCHIVE", x.count(what), 0);
            }
            due("shot", x.shot(0, 0), -2);
            due("body", x.body(0, 0), -2);
            due("body, a PART", x.body(0, 10), -2);
            due("run", x.run(0, 0), -2);
            due("stored(0)", x.stored(0), -2);
            due("stored(1)", x.stored(1), -2);
            due("unused", x.unused(), -2);
            due("dead", x.dead(0), -2);
            due("spare", x.spare(), -2);
            due("octet", x.octet(0), -1);
        }
        // An ARCHIVE of nothing is one.
        AsOfPages x = CHECK.with(HEAD);
        due("stored of nothing", x.stored(0) + x.stored(1), 0);
        due("unused of nothing", x.unused(), 0);
        due("dead of nothing", x.dead(365), 0);
        due("spare of nothing", x.spare(), 0);
        due("shot of nothing", x.shot(0, 0), -2);
        due("body of nothing", x.body(0, 0), -2);
    }

    /** "count .. NONE for others": with nothing, with all that there may be. */
    private static void count() {
        AsOfPages x = CHECK.with(goneDays(40) + pages(8).substring(HEAD.length() + "page a;".length()));
        for (int i = 0; i < 20; i++) {
            x.add(7, i, 3, 0);
        }
        Check.feedText(x, " ".repeat(1200));
        x.tell(0, 0);
        int[] full = {0, 0, 8, 0, 60, 20, 49, 1200, 5};
        answers("count of all", full, (y, what) -> y.count(what), x);
        for (int what : new int[] {-1, 9, Integer.MIN_VALUE, Integer.MAX_VALUE}) {
            due("count(" + what + ")", x.count(what), -1);
            due("count(" + what + ") without an ARCHIVE", new AsOfPages().count(what), -1);
        }
    }

    // Term II, and what tells of it.

    /** "of same that of the latest SHOT of its PAGE on an earlier DAY that is not a same, if that is a shot". */
    private static void bodiesOfSame() {
        AsOfPages x = CHECK.with(HEAD + "page a;page b;body k weight 1;body l weight 2;"
            + "same a at 0;same a at 9;shot a at 8 is l;same a at 10;gone a at 11;same a at 12;same a at 13;"
            + "move a at 14 to b;same a at 15;shot a at 16 is k;same a at 17;shot b at 1 is l;same b at 0;same b at 365;");
        int[] bodies = {-1, 1, 1, 1, -1, -1, -1, -1, -1, 0, 0, 1, -1, 1};
        answers("BODY of SHOT", bodies, (y, s) -> y.shot(s, 3), x);
        int[] moves = {-1, -1, -1, -1, -1, -1, -1, 1, -1, -1, -1, -1, -1, -1};
        answers("PAGE to which SHOT moves", moves, (y, s) -> y.shot(s, 4), x);
        due("behind the last SHOT", x.shot(14, 3), -2);
        for (int s : NOT_UP_TO_ZERO) {
            due("SHOT " + s, x.shot(s, 0), -2);
            due("RUN of SHOT " + s, x.run(s, 0), -2);
            due("BODY " + s, x.body(s, 0), -2);
        }
        due("SHOT MAX", x.shot(Integer.MAX_VALUE, 0), -2);
        due("RUN of SHOT MAX", x.run(Integer.MAX_VALUE, 0), -2);
        due("BODY MAX", x.body(Integer.MAX_VALUE, 0), -2);
        due("the last SHOT's PAGE", x.shot(13, 0), 1);
        due("BODY behind the last", x.body(2, 0), -2);
        due("RUN behind the last", x.run(14, 0), -2);
    }

    /** "EQUAL, if WEIGHT, PARTS, LINKS (in order) are the same": by one alone they are not; the least, itself maybe. */
    private static void equalBodies() {
        AsOfPages x = CHECK.with(HEAD + "page a;page b;"
            + "body k weight 5 part a part a part a part b link b link b link b link a;"
            + "body l weight 6 part a part a part a part b link b link b link b link a;"
            + "body m weight 5 part a part a part a part a link b link b link b link a;"
            + "body n weight 5 part a part a part a part b link b link b link b link b;"
            + "body o weight 5 part b part a part a part a link b link b link b link a;"
            + "body p weight 5 part a part a part a link b link b link b link a;"
            + "body q weight 5 part a part a part a part b link b link b link b;"
            + "body r weight 5 part a part a part a part b link b link b link b link a;"
            + "body s weight 6 part a part a part a part b link b link b link b link a;body t weight 5 part a part a part a part b link a link b link b link a;");
        int[] least = {0, 1, 2, 3, 4, 5, 6, 0, 1, 9};
        answers("the least EQUAL one of", least, (y, b) -> y.body(b, 3), x);
        due("the last PART", x.body(0, 13), 1);
        due("the last LINK", x.body(0, 23), 0);
    }

    /** The same where there are not as many PARTS as LINKS. */
    private static void equalBodiesUneven() {
        AsOfPages x = CHECK.with(HEAD + "page a;page b;body k weight 5 part a part b link a;body l weight 5 part a part b link a;"
            + "body m weight 5 part a part a link a;body n weight 5 part a link a link b;body o weight 5 part a link a link b;"
            + "body p weight 5 part a link a link a;body q weight 5 part a;body r weight 5 link a;body s weight 5;"
            + "body t weight 5 part a part b;");
        answers("the least EQUAL one of", new int[] {0, 0, 2, 3, 3, 5, 6, 7, 8, 9}, (y, b) -> y.body(b, 3), x);
        answers("PARTS of", new int[] {2, 2, 2, 1, 1, 1, 1, 0, 0, 2}, (y, b) -> y.body(b, 1), x);
        answers("LINKS of", new int[] {1, 1, 1, 2, 2, 2, 0, 1, 0, 0}, (y, b) -> y.body(b, 2), x);
        for (int b = 0; b < 10; b++) {
            int of = b;
            answers("PARTS are as many, of " + b, new int[] {x.body(b, 1), x.body(b, 2)},
                (y, sort) -> (y.body(of, 10 + 10 * sort) < 0 ? 0 : 1) + (y.body(of, 11 + 10 * sort) < 0 ? 0 : 1)
                    + (y.body(of, 12 + 10 * sort) < 0 ? 0 : 1), x);
        }
    }

    /** BODIES of one WEIGHT are not EQUAL by that. */
    private static void bodiesOfOneWeight() {
        AsOfPages x = CHECK.with(pages(4) + "body k weight 5;body l weight 5 part b;body m weight 5 link b;"
            + "body n weight 5 part a part b;shot a at 1 is k;shot a at 2 is l;shot a at 3 is m;shot c at 1 is n;"
            + "shot b at 1 is m;");
        runOf(x, 0, 1, 1, 0, 1, 1);
        runOf(x, 1, 2, 2, 2, 2, 1);
        runOf(x, 2, 3, 3, 3, 365, 1);
        due("runs", x.runs(0), 3);
        due("stored(1)", x.stored(1), 20);
        due("stored(0)", x.stored(0), 25);
        due("heavy", x.heavy(2, 1), 15);
        due("spare", x.spare(), 0);
    }

    /** "10 and more: PARTS, 20 and more: LINKS. NONE: it has not so many (10 .. 13, 20 .. 23); -2: .. none such". */
    private static void partsOfBodies() {
        AsOfPages x = CHECK.with(HEAD + "page a;page b;body k weight 5;body l weight 6 part b part a part b part a"
            + " link a link b link a link b;body m weight 7 part b link a;");
        int[] whats = {-1, 4, 9, 14, 15, 19, 24, 25, Integer.MIN_VALUE, Integer.MAX_VALUE};
        for (int body = 0; body < 3; body++) {
            for (int what : whats) {
                due("body(" + body + ", " + what + ")", x.body(body, what), -2);
            }
        }
        for (int i = 0; i < 4; i++) {
            due("PART " + i + " of none", x.body(0, 10 + i), -1);
            due("LINK " + i + " of none", x.body(0, 20 + i), -1);
            due("PART " + i + " of four", x.body(1, 10 + i), 1 - i % 2);
            due("LINK " + i + " of four", x.body(1, 20 + i), i % 2);
            due("PART " + i + " of one", x.body(2, 10 + i), i == 0 ? 1 : -1);
            due("LINK " + i + " of one", x.body(2, 20 + i), i == 0 ? 0 : -1);
        }
        int[] counts = {0, 4, 1};
        answers("PARTS of", counts, (y, b) -> y.body(b, 1), x);
        answers("LINKS of", counts, (y, b) -> y.body(b, 2), x);
    }

    /** "Its k-th SHOT (from 0) by DAYS. NONE: it has not so many; -2 (k below 0, too)". */
    private static void byDay() {
        AsOfPages x = CHECK.with(HEAD + "page a;page b;page c;gone c at 1;gone a at 365;gone a at 0;gone c at 2;gone a at 7;");
        int[] ofA = {2, 4, 1, -1, -1};
        answers("byDay of a", ofA, (y, k) -> y.byDay(0, k), x);
        due("byDay of none", x.byDay(1, 0), -1);
        due("byDay of c", x.byDay(2, 1), 3);
        due("byDay of c, not so many", x.byDay(2, 2), -1);
        due("byDay of MAX", x.byDay(0, Integer.MAX_VALUE), -1);
        for (int k : NOT_UP_TO_ZERO) {
            due("byDay of " + k, x.byDay(0, k), -2);
            due("byDay of none, " + k, x.byDay(1, k), -2);
        }
        int[] shots = {3, 0, 2, -2};
        answers("shots", shots, (y, page) -> y.shots(page), x);
        AsOfPages full = CHECK.with(goneDays(40));
        for (int i = 0; i < 20; i++) {
            full.add(0, 365 - i, 3, 0);
        }
        due("shots, all", full.shots(0), 60);
        due("byDay, the last of all", full.byDay(0, 59), 40);
        due("byDay, behind all", full.byDay(0, 60), -1);
    }

    /** "by LAW 0, 1 the SHOT the fewest DAYS off, of two the earlier by LAW 0, the later by LAW 1; by LAW 2 ..". */
    private static void nearest() {
        String shots = "page a;page b;gone a at 20;gone a at 10;gone a at 31;";
        int[] days = {0, 9, 10, 14, 15, 16, 19, 20, 25, 26, 30, 31, 365};
        int[][] due = {{1, 1, 1, 1, 1, 0, 0, 0, 0, 2, 2, 2, 2}, {1, 1, 1, 1, 0, 0, 0, 0, 0, 2, 2, 2, 2},
            {1, 1, 1, 1, 1, 1, 1, 0, 0, 0, 0, 2, 2}};
        for (int law = 0; law <= 2; law++) {
            AsOfPages x = CHECK.with("archive law " + law + " carry 0;" + shots);
            for (int i = 0; i < days.length; i++) {
                due("NEAREST to DAY " + days[i] + " by LAW " + law, x.nearest(0, days[i]), due[law][i]);
            }
            due("NEAREST of no SHOT", x.nearest(1, 0), -1);
        }
        AsOfPages ends = CHECK.with(HEAD + "page a;gone a at 0;gone a at 365;");
        int[][] rows = {{0, 0}, {182, 0}, {183, 1}, {365, 1}};
        for (int[] row : rows) {
            due("NEAREST of the first, the last DAY to " + row[0], ends.nearest(0, row[0]), row[1]);
        }
        ends.rule(2, 0);
        due("by LAW 2 up to DAY 364", ends.nearest(0, 364), 0);
        due("by LAW 2 on DAY 365", ends.nearest(0, 365), 1);
        // Two SHOTS on DAYS one behind the other: no DAY lies between.
        AsOfPages close = CHECK.with(HEAD + "page a;gone a at 10;gone a at 11;");
        for (int law = 0; law <= 2; law++) {
            close.rule(law, 0);
            due("close, DAY 10", close.nearest(0, 10), 0);
            due("close, DAY 11", close.nearest(0, 11), 1);
        }
    }

    private static void followedSo(AsOfPages x, int page, int day, int ends, int over, int state) {
        String what = "of PAGE " + page + " from DAY " + day;
        due("where it ENDS, " + what, x.follow(page, day, 0), ends);
        due("SHOTS it goes over, " + what, x.follow(page, day, 1), over);
        due("STATE, " + what, x.follow(page, day, 2), state);
        due("the first, " + what, x.followed(page, day, 0), over == 0 ? -1 : x.nearest(page, day));
        due("behind the last, " + what, x.followed(page, day, over), -1);
        due("MAX, " + what, x.followed(page, day, Integer.MAX_VALUE), -1);
        for (int i : NOT_UP_TO_ZERO) {
            due("followed " + i + ", " + what, x.followed(page, day, i), -2);
        }
        if (ends >= 0) {
            due("the last, " + what, x.followed(page, day, over - 1), ends);
        }
    }

    /** "It ENDS at the first one that is no move; LOST, if a PAGE has no SHOT, ROUND, if a PAGE comes a second time". */
    private static void follow() {
        AsOfPages x = CHECK.with(STATES);
        followedSo(x, 0, 365, 0, 1, 0);
        followedSo(x, 1, 0, 1, 1, 1);
        followedSo(x, 2, 0, 2, 1, 2);
        followedSo(x, 3, 0, -1, 0, 3);
        followedSo(x, 4, 0, -1, 1, 4);
        String chain = pages(8) + "body k weight 1;move a at 1 to b;move b at 1 to c;move c at 1 to d;move d at 1 to e;"
            + "move e at 1 to f;move f at 1 to g;move g at 1 to h;";
        followedSo(CHECK.with(chain + "shot h at 1 is k;"), 0, 9, 7, 8, 0);
        followedSo(CHECK.with(chain + "gone h at 1;"), 0, 9, 7, 8, 1);
        followedSo(CHECK.with(chain + "same h at 1;"), 0, 9, 7, 8, 2);
        followedSo(CHECK.with(chain), 0, 9, -1, 7, 3);
        for (char to = 'a'; to <= 'h'; to++) {
            followedSo(CHECK.with(chain + "move h at 1 to " + to + ";"), 0, 9, -1, 8, 4);
        }
    }

    /** "to d by CARRY 0, to the DAY of the move by CARRY 1"; a PAGE comes a second time, whichever SHOT it were. */
    private static void carried() {
        AsOfPages x = CHECK.with(HEAD + "page a;page b;page c;body k weight 1;move a at 50 to b;move b at 20 to c;"
            + "gone c at 9;gone c at 20;gone c at 50;gone c at 90;");
        followedSo(x, 0, 90, 5, 3, 1);
        x.rule(0, 1);
        followedSo(x, 0, 90, 3, 3, 1);
        followedSo(x, 2, 90, 5, 1, 1);
        AsOfPages y = CHECK.with("archive law 0 carry 1;page a;page b;body k weight 1;move a at 50 to b;"
            + "move b at 90 to a;shot a at 91 is k;");
        followedSo(y, 0, 50, -1, 2, 4);
        followedSo(y, 0, 91, 2, 1, 0);
        followedSo(y, 1, 50, 2, 2, 0);
        due("followed, the first call of all", CHECK.with(STATES).followed(0, 0, 0), 0);
    }

    /** "behind each ELEMENT that ENDS at a SHOT with a BODY, and lies less than 3 deep, its PARTS in order". */
    private static void depths() {
        AsOfPages x = CHECK.with(pages(5) + "body k weight 1 part b;body l weight 1 part c;body m weight 1 part d;"
            + "body n weight 1 part e;body o weight 1;"
            + "shot a at 1 is k;shot b at 1 is l;shot c at 1 is m;shot d at 1 is n;shot e at 1 is o;");
        int[] sizes = {4, 4, 3, 2, 1};
        answers("ELEMENTS of PAGE", sizes, (y, page) -> y.view(page, 1), x);
        for (int i = 0; i < 4; i++) {
            due("depth of " + i, x.element(0, 1, i, 3), i);
            due("in which " + i + " lies", x.element(0, 1, i, 4), i - 1);
        }
        due("none 4 deep", x.element(0, 1, 4, 3), -1);
        CHECK.due("none 4 deep, TOLD", told(x, 0, 1), "p0@1[p1@1[p2@1[p3@1]]]");
        // Of gone, BROKEN, LOST, ROUND ones none has PARTS, though another SHOT of the PAGE has a BODY.
        AsOfPages y = CHECK.with(pages(2) + "body k weight 1 part b;gone a at 1;same a at 5;move a at 9 to a;"
            + "shot a at 20 is k;move a at 40 to b;");
        for (int day : new int[] {1, 5, 9, 40}) {
            due("without a BODY on DAY " + day, y.view(0, day), 1);
        }
        due("with a BODY", y.view(0, 20), 2);
    }

    /** All 85 ELEMENTS, "NONE: there are not so many (what 0 .. 5)", "-2: .. i is below 0". */
    private static void crowd() {
        AsOfPages x = CHECK.with(CROWD);
        due("view, all", x.view(0, 0), 85);
        int[] last = {3, 3, 1, 3, 80, 0};
        int[] first = {0, 0, 0, 0, -1, 999};
        answers("element 84", last, (y, what) -> y.element(0, 0, 84, what), x);
        answers("element 0", first, (y, what) -> y.element(0, 0, 0, what), x);
        for (int what = 0; what <= 5; what++) {
            due("element 85, what " + what, x.element(0, 0, 85, what), -1);
            due("element MAX, what " + what, x.element(0, 0, Integer.MAX_VALUE, what), -1);
            for (int i : NOT_UP_TO_ZERO) {
                due("element " + i + ", what " + what, x.element(0, 0, i, what), -2);
            }
        }
        due("element 85, what 6", x.element(0, 0, 85, 6), -2);
        due("whole, with gone ones", x.whole(0, 0), 0);
        due("judged, all", x.judged(0, 0), 2);
        int[] common = {365, 365, 0, 365};
        answers("common, all", common, (y, what) -> y.common(0, 0, what), x);
        due("clash, none", x.clash(0, 0), -1);
        due("culprit, none", x.culprit(0, 0), -1);
        due("heavy, all", x.heavy(0, 0), 999 + 998 + 997);
        due("drift, all", x.drift(0, 0), 85 * 365);
        due("drift, none", x.drift(0, 365), 0);
        due("spread, none", x.spread(0, 0), 0);
        due("farthest, the first of all", x.farthest(0, 0), 0);
        due("tell, all", x.tell(0, 0), 21 * 6 + 64 * 7 + 21 * 2 + 21 * 3);
        due("octet, the last", x.octet(678), ']');
        due("octet, behind the last", x.octet(679), -1);
        due("octet, ahead of that", x.octet(675), '!');
    }

    private static void turnsOn(String what, int before, int behind, OfPage call, AsOfPages x) {
        due(what + " on DAY 15", call.ask(x, 15), before);
        due(what + " on DAY 16", call.ask(x, 16), behind);
    }

    /** PAGE 1 has another SHOT from DAY 16 on, with other PARTS and LINKS. */
    private static final String TURN = HEAD + "page z;page a;page b;page c;page d;body k weight 3 part b link c;"
        + "body l weight 5 part c part d link b link d;body m weight 7;"
        + "shot a at 10 is k;shot a at 20 is l;shot b at 10 is m;shot c at 300 is m;gone z at 100;";

    /** Each call that names a DAY: on the last one of a SHOT, on the first one of the next. */
    private static void onTheDayOfATurn() {
        AsOfPages x = CHECK.with(TURN);
        turnsOn("nearest", 0, 1, (y, day) -> y.nearest(1, day), x);
        turnsOn("follow", 0, 1, (y, day) -> y.follow(1, day, 0), x);
        turnsOn("followed", 0, 1, (y, day) -> y.followed(1, day, 0), x);
        turnsOn("view", 2, 3, (y, day) -> y.view(1, day), x);
        turnsOn("element", 2, 3, (y, day) -> y.element(1, day, 1, 0), x);
        turnsOn("element behind the last", -1, 4, (y, day) -> y.element(1, day, 2, 0), x);
        turnsOn("whole", 1, 0, (y, day) -> y.whole(1, day), x);
        turnsOn("judged", 2, 1, (y, day) -> y.judged(1, day), x);
        turnsOn("common SURE", 10, -1, (y, day) -> y.common(1, day, 0), x);
        turnsOn("common MAY", 0, 11, (y, day) -> y.common(1, day, 2), x);
        turnsOn("common MAY, the last", 19, 365, (y, day) -> y.common(1, day, 3), x);
        turnsOn("spread", 0, 280, (y, day) -> y.spread(1, day), x);
        turnsOn("farthest", 0, 1, (y, day) -> y.farthest(1, day), x);
        turnsOn("heavy", 3 + 7, 5 + 7, (y, day) -> y.heavy(1, day), x);
        turnsOn("drift", 5 + 5, 4 + 284, (y, day) -> y.drift(1, day), x);
        turnsOn("both", 2, 1, (y, day) -> y.both(1, 2, day), x);
        turnsOn("both, the other", 2, 1, (y, day) -> y.both(2, 1, day), x);
        turnsOn("by CARRY 1", 2, 1, (y, day) -> y.by(1, day, 0, 1), x);
        turnsOn("by LAW 1, a DAY ahead", 2, 1, (y, day) -> y.by(1, day - 1, 1, 0), x);
        turnsOn("by LAW 2, four behind", 2, 1, (y, day) -> y.by(1, day + 4, 2, 0), x);
        turnsOn("click", 3, 2, (y, day) -> y.click(1, day, 0, 0), x);
        turnsOn("click on the second LINK", -1, 4, (y, day) -> y.click(1, day, 1, 0), x);
        turnsOn("click, DAY", 15, 16, (y, day) -> y.click(1, day, 0, 1), x);
        turnsOn("reach", 2 + 8, 2 + 4 + 16, (y, day) -> y.reach(1, day, 6), x);
        turnsOn("clicks", 1, -1, (y, day) -> y.clicks(1, day, 3), x);
        turnsOn("clicks to d", -1, 1, (y, day) -> y.clicks(1, day, 4), x);
        turnsOn("linking", 2, 0, (y, day) -> y.linking(3, day), x);
        turnsOn("linking to d", 0, 2, (y, day) -> y.linking(4, day), x);
        turnsOn("dead", 0, 16, (y, day) -> y.dead(day), x);
        turnsOn("tell", 12, 17, (y, day) -> y.tell(1, day), x);
        CHECK.due("TOLD on DAY 15", told(x, 1, 15), "p1@10[p2@10]");
        CHECK.due("TOLD on DAY 16", told(x, 1, 16), "p1@20[p3@300 p4-]");
        answers("days", new int[] {0, 350, 16}, (y, judged) -> y.days(1, judged), x);
        answers("firstDay", new int[] {-1, 16, 0}, (y, judged) -> y.firstDay(1, judged), x);
        answers("bothOn", new int[] {-1, 16, 0}, (y, judged) -> y.bothOn(1, 2, judged), x);
        answers("bothOn, the other", new int[] {-1, 16, 0}, (y, judged) -> y.bothOn(2, 1, judged), x);
        answers("change", new int[] {16, -1}, (y, k) -> y.change(1, k), x);
        due("bestDay", x.bestDay(1), 10);
        AsOfPages y = CHECK.with(apart(19));
        turnsOn("IMPOSSIBLE", 0, 2, (z, day) -> z.judged(0, day), y);
        turnsOn("clash", 2, -1, (z, day) -> z.clash(0, day), y);
        turnsOn("culprit", 0, -1, (z, day) -> z.culprit(0, day), y);
    }

    /** A SHOT that is NEAREST to one DAY alone, in the midst of the year: on that DAY alone the VIEW is another. */
    private static void forOneDay() {
        AsOfPages x = CHECK.with("archive law 2 carry 0;page z;page a;page b;body k weight 1 part b;body m weight 2;"
            + "shot a at 50 is k;same a at 100;gone b at 10;shot b at 100 is m;gone b at 101;");
        answers("days", new int[] {0, 365, 1}, (y, judged) -> y.days(1, judged), x);
        answers("firstDay", new int[] {-1, 0, 100}, (y, judged) -> y.firstDay(1, judged), x);
        answers("bothOn", new int[] {-1, 0, 100}, (y, judged) -> y.bothOn(1, 2, judged), x);
        answers("bothOn, the other", new int[] {-1, 0, 100}, (y, judged) -> y.bothOn(2, 1, judged), x);
        answers("change", new int[] {100, 101, -1}, (y, k) -> y.change(1, k), x);
        due("bestDay", x.bestDay(1), 100);
        answers("whole on DAY 99 and behind", new int[] {0, 1, 0}, (y, i) -> y.whole(1, 99 + i), x);
        answers("judged on DAY 99 and behind", new int[] {1, 2, 1}, (y, i) -> y.judged(1, 99 + i), x);
        // Without the same a has its BODY all the same; without any other some DAY is another.
        due("spare", x.spare(), 2);
    }

    /** "on to NEAREST of the PAGE to which it moves, to d by CARRY 0": on the DAY of that one's turn. */
    private static void movesOnTheDayOfATurn() {
        AsOfPages x = CHECK.with(TURN);
        due("a move", x.add(0, 50, 2, 1), 5);
        x.drop(4);
        turnsOn("follow", 0, 1, (y, day) -> y.follow(0, day, 0), x);
        turnsOn("followed", 0, 1, (y, day) -> y.followed(0, day, 1), x);
        turnsOn("a PART", 2, 3, (y, day) -> y.element(0, day, 1, 0), x);
        turnsOn("click", 3, 2, (y, day) -> y.click(0, day, 0, 0), x);
        due("to the DAY of the move by CARRY 1", x.rule(0, 1), 0);
        turnsOn("follow by CARRY 1", 1, 1, (y, day) -> y.follow(0, day, 0), x);
        // A PART in a, moved to b, on the DAY of a turn of b.
        AsOfPages part = CHECK.with(HEAD + "page a;page b;page c;body k weight 1 part c;shot a at 0 is k;move c at 0 to b;"
            + "gone b at 10;gone b at 20;");
        turnsOn("a PART that moves", 2, 3, (y, day) -> y.element(0, day, 1, 1), part);
    }

    /** "A PART that is the PAGE (as asked, not as FOLLOWED to) of an ELEMENT in which it lies is NESTED". */
    private static void nested() {
        CHECK.due("in itself", told(CHECK.with(STATES), 5, 9), "p5@9[p5^]");
        String three = pages(3) + "body k weight 1 part b;body l weight 1 part c;body m weight 1 part #;"
            + "shot a at 1 is k;shot b at 1 is l;shot c at 1 is m;";
        CHECK.due("3 deep, in the first", told(CHECK.with(three.replace("#", "a")), 0, 1), "p0@1[p1@1[p2@1[p0^]]]");
        CHECK.due("3 deep, in the second", told(CHECK.with(three.replace("#", "b")), 0, 1), "p0@1[p1@1[p2@1[p1^]]]");
        CHECK.due("3 deep, in the third", told(CHECK.with(three.replace("#", "c")), 0, 1), "p0@1[p1@1[p2@1[p2^]]]");
        AsOfPages twice = CHECK.with(pages(2) + "body k weight 1 part b part b part a;body l weight 1;"
            + "shot a at 1 is k;shot b at 1 is l;");
        CHECK.due("beside one another is not in", told(twice, 0, 1), "p0@1[p1@1 p1@1 p0^]");
        AsOfPages moved = CHECK.with(pages(2) + "body k weight 1 part b;shot a at 5 is k;move b at 5 to a;");
        CHECK.due("FOLLOWED to a, not asked", told(moved, 0, 5), "p0@5[p1@5[p1^]]");
        CHECK.due("asked, though not FOLLOWED to it", told(moved, 1, 5), "p1@5[p1^]");
        // NESTED is not FOLLOWED: it ENDS nowhere, has no SPANS, no WEIGHT.
        int[] row = {1, -1, 5, 2, 1, 0};
        answers("the NESTED one", row, (x, what) -> x.element(0, 5, 2, what), moved);
        due("whole, NESTED aside", moved.whole(0, 5), 1);
    }

    /** "each .. FOLLOWED from d by CARRY 0, from the DAY of that SHOT by CARRY 1", one deeper again. */
    private static void partsCarried() {
        AsOfPages x = CHECK.with(pages(3) + "body k weight 1 part b;body l weight 1 part c;"
            + "shot a at 50 is k;shot b at 20 is l;gone c at 9;gone c at 20;gone c at 50;gone c at 90;");
        CHECK.due("by CARRY 0", told(x, 0, 90), "p0@50[p1@20[p2@90!]]");
        x.rule(0, 1);
        CHECK.due("by CARRY 1", told(x, 0, 90), "p0@50[p1@20[p2@20!]]");
        // The DAY of the SHOT at which it ENDS, not of a move ahead of that.
        AsOfPages y = CHECK.with("archive law 0 carry 1;" + pages(3).substring(HEAD.length())
            + "body k weight 1 part c;move a at 50 to b;shot b at 20 is k;gone c at 20;gone c at 50;");
        CHECK.due("behind a move", told(y, 0, 90), "p0@20[p2@20!]");
    }

    /** "whole: 1 if all ELEMENTS have a BODY (NESTED ones aside), else 0"; STATES 0 .. 5. */
    private static void states() {
        AsOfPages x = CHECK.with(STATES);
        int[] states = {0, 1, 2, 3, 4, 0};
        answers("STATE of PAGE", states, (y, page) -> y.element(page, 0, 0, 2), x);
        int[] shots = {0, 1, 2, -1, -1, 4};
        answers("SHOT of PAGE", shots, (y, page) -> y.element(page, 0, 0, 1), x);
        int[] whole = {1, 0, 0, 0, 0, 1};
        answers("whole PAGE", whole, (y, page) -> y.whole(page, 0), x);
        int[] weights = {7, 0, 0, 0, 0, 8};
        answers("WEIGHT of PAGE", weights, (y, page) -> y.element(page, 0, 0, 5), x);
        answers("heavy PAGE", weights, (y, page) -> y.heavy(page, 0), x);
        int[] spread = {0, 0, 0, -1, -1, 0};
        answers("spread PAGE", spread, (y, page) -> y.spread(page, 0), x);
        answers("farthest of PAGE", spread, (y, page) -> y.farthest(page, 0), x);
        int[] drift = {9, 9, 9, 0, 0, 9};
        answers("drift of PAGE", drift, (y, page) -> y.drift(page, 0), x);
        int[] judged = {2, 2, 2, 2, 2, 2};
        answers("judged PAGE", judged, (y, page) -> y.judged(page, 0), x);
        int[] firstSure = {9, 9, 0, 0, 0, 9};
        int[] lastSure = {9, 9, 365, 365, 365, 9};
        answers("the first SURE DAY of PAGE", firstSure, (y, page) -> y.common(page, 0, 0), x);
        answers("the last SURE DAY of PAGE", lastSure, (y, page) -> y.common(page, 0, 1), x);
        String[] tolds = {"p0@9", "p1@9!", "p2?", "p3-", "p4~", "p5@9[p5^]"};
        for (int page = 0; page < tolds.length; page++) {
            CHECK.due("PAGE " + page + " TOLD", told(x, page, 0), tolds[page]);
        }
        // One that has no BODY among others is enough.
        AsOfPages parts = CHECK.with(pages(4) + "body k weight 1 part b part c;body l weight 1;"
            + "shot a at 1 is k;shot b at 1 is l;shot c at 1 is l;");
        due("whole with PARTS", parts.whole(0, 1), 1);
        parts.drop(2);
        due("whole but for the last", parts.whole(0, 1), 0);
        parts.undo();
        parts.drop(1);
        due("whole but for the first", parts.whole(0, 1), 0);
        due("whole, of fewer ELEMENTS", parts.whole(2, 1), 1);
    }

    // Term III.

    /** "RUN .. SURE .. MAY: from the DAY behind the SHOT ahead of the RUN (0 without) to .. (365 without)". */
    private static void runOf(AsOfPages x, int shot, int... want) {
        answers("run of SHOT " + shot, want, (y, what) -> y.run(shot, what), x);
    }

    private static void runBounds() {
        AsOfPages alone = CHECK.with(STATES);
        runOf(alone, 0, 9, 9, 0, 365, 1);
        runOf(alone, 2, -1, -1, -1, -1, -1);
        AsOfPages ends = CHECK.with(HEAD + "page a;gone a at 0;gone a at 365;");
        runOf(ends, 0, 0, 365, 0, 365, 2);
        runOf(ends, 1, 0, 365, 0, 365, 2);
        AsOfPages close = CHECK.with(HEAD + "page a;body k weight 1;shot a at 0 is k;gone a at 1;shot a at 2 is k;"
            + "gone a at 364;shot a at 365 is k;");
        runOf(close, 0, 0, 0, 0, 0, 1);
        runOf(close, 1, 1, 1, 1, 1, 1);
        runOf(close, 2, 2, 2, 2, 363, 1);
        runOf(close, 3, 364, 364, 3, 364, 1);
        runOf(close, 4, 365, 365, 365, 365, 1);
    }

    /** "that are like it: with EQUAL BODIES; moves to one PAGE; gone ones (a BROKEN one is like none)". */
    private static void runsOfLike() {
        AsOfPages x = CHECK.with(HEAD + "page a;page b;body k weight 1;body l weight 1;body m weight 2;"
            + "shot a at 10 is k;same a at 20;shot a at 30 is l;shot a at 40 is m;move a at 50 to a;move a at 60 to a;"
            + "move a at 70 to b;gone a at 80;gone a at 90;same a at 100;same a at 110;gone a at 120;shot b at 20 is k;");
        runOf(x, 0, 10, 30, 0, 39, 3);
        runOf(x, 1, 10, 30, 0, 39, 3);
        runOf(x, 2, 10, 30, 0, 39, 3);
        runOf(x, 3, 40, 40, 31, 49, 1);
        runOf(x, 4, 50, 60, 41, 69, 2);
        runOf(x, 5, 50, 60, 41, 69, 2);
        runOf(x, 6, 70, 70, 61, 79, 1);
        runOf(x, 7, 80, 90, 71, 99, 2);
        runOf(x, 9, -1, -1, -1, -1, -1);
        runOf(x, 10, -1, -1, -1, -1, -1);
        runOf(x, 11, 120, 120, 111, 365, 1);
        runOf(x, 12, 20, 20, 0, 365, 1);
        int[] runs = {2, 1, -2};
        answers("runs of PAGE", runs, (y, page) -> y.runs(page), x);
        due("runs of PAGES without a BODY", CHECK.with(STATES).runs(1), 0);
        due("runs of BROKEN ones", CHECK.with(STATES).runs(2), 0);
        due("runs of no SHOT", CHECK.with(STATES).runs(3), 0);
        due("runs of a move", CHECK.with(STATES).runs(4), 0);
        AsOfPages apart = CHECK.with(HEAD + "page a;body k weight 1;shot a at 10 is k;gone a at 11;shot a at 12 is k;"
            + "move a at 13 to a;shot a at 14 is k;same a at 15;");
        due("runs of one BODY, three times", apart.runs(0), 3);
        AsOfPages broken = CHECK.with(HEAD + "page a;body k weight 1;same a at 1;shot a at 2 is k;");
        runOf(broken, 1, 2, 2, 2, 365, 1);
        due("runs behind a BROKEN one", broken.runs(0), 1);
        AsOfPages all = CHECK.with(goneDays(40));
        runOf(all, 39, 0, 39, 0, 365, 40);
        // SHOTS "of its PAGE": those of others, ahead and behind, are none of the RUN.
        AsOfPages three = CHECK.with(pages(3) + "body k weight 1;shot a at 1 is k;shot b at 2 is k;shot c at 3 is k;");
        for (int page = 0; page < 3; page++) {
            due("runs of PAGE " + page + " alone", three.runs(page), 1);
            runOf(three, page, page + 1, page + 1, 0, 365, 1);
        }
    }

    /** "2 PROVED, if there is a DAY in all SURE SPANS": one is enough, none by one DAY. */
    private static void provedByOneDay() {
        String text = HEAD + "page a;page b;body k weight 1 part b;body l weight 1;"
            + "shot a at 10 is k;same a at 20;shot b at # is l;same b at 30;";
        int[][] rows = {{19, 2, 19, 20}, {20, 2, 20, 20}, {21, 1, -1, -1}};
        for (int[] row : rows) {
            AsOfPages x = CHECK.with(text.replace("#", String.valueOf(row[0])));
            due("judged, b from " + row[0], x.judged(0, 20), row[1]);
            due("the first SURE DAY, b from " + row[0], x.common(0, 20, 0), row[2]);
            due("the last SURE DAY, b from " + row[0], x.common(0, 20, 1), row[3]);
            due("both, b from " + row[0], x.both(1, 0, 20), row[1]);
            due("the first MAY DAY, b from " + row[0], x.common(0, 20, 2), 0);
            due("the last MAY DAY, b from " + row[0], x.common(0, 20, 3), 365);
        }
    }

    /** "BROKEN, LOST, ROUND, NESTED ELEMENTS have none", a move ahead of that neither; "Without SPANS 0, 365", "2". */
    private static void withoutSpans() {
        AsOfPages x = CHECK.with(pages(5) + "same b at 9;move c at 9 to c;move d at 9 to a;move e at 9 to b;"
            + "gone c at 20;gone d at 20;gone e at 20;");
        answers("STATE of PAGE", new int[] {3, 2, 4, 3, 2}, (y, page) -> y.follow(page, 0, 2), x);
        for (int page = 0; page < 5; page++) {
            int of = page;
            answers("common without SPANS of PAGE " + page, new int[] {0, 365, 0, 365}, (y, what) -> y.common(of, 0, what), x);
            due("judged without SPANS", x.judged(page, 0), 2);
            due("both without SPANS", x.both(page, 4 - page, 0), 2);
            due("clash without SPANS", x.clash(page, 0), -1);
            due("culprit without SPANS", x.culprit(page, 0), -1);
        }
        for (int page = 2; page < 5; page++) {
            int of = page;
            answers("common of PAGE " + page + ", gone", new int[] {20, 20, 10, 365}, (y, what) -> y.common(of, 20, what), x);
        }
        // A move ahead of what is gone has SPANS: by it DAY 9 is the only SURE one, DAY 19 the last that may be.
        AsOfPages moved = CHECK.with(pages(2) + "move a at 9 to b;gone a at 20;gone b at 5;gone b at 300;");
        answers("common behind a move", new int[] {9, 9, 0, 19}, (y, what) -> y.common(0, 0, what), moved);
    }

    /** "by all SPANS of VIEWS of two PAGES (one and itself, too) on a DAY together", "The first DAY .. NONE". */
    private static void bothByOneDay() {
        String text = apart(99).replace("at 99", "at #").replace("body k weight 1 part b", "body k weight 1");
        int[][] rows = {{17, 1, -1, 0}, {18, 1, -1, 0}, {19, 0, 0, 16}, {20, 0, 0, 16}};
        for (int[] row : rows) {
            AsOfPages x = CHECK.with(text.replace("#", String.valueOf(row[0])));
            String what = ", gone on DAY " + row[0];
            due("a alone" + what, x.judged(0, 0), 2);
            due("b alone" + what, x.judged(1, 0), 1);
            due("both" + what, x.both(0, 1, 0), row[1]);
            due("both, the other first" + what, x.both(1, 0, 0), row[1]);
            due("a and itself" + what, x.both(0, 0, 0), 2);
            due("b and itself" + what, x.both(1, 1, 0), 1);
            // From DAY 16 on a is gone, and was from DAY 11 on, maybe.
            due("both on DAY 15" + what, x.both(0, 1, 15), row[1]);
            due("both on DAY 16" + what, x.both(0, 1, 16), 1);
            answers("bothOn" + what, new int[] {row[2], row[3], -1}, (y, judged) -> y.bothOn(0, 1, judged), x);
            answers("bothOn of a and itself" + what, new int[] {-1, -1, 0}, (y, judged) -> y.bothOn(0, 0, judged), x);
        }
    }

    /** a stood up to DAY 19 at the latest; c, in b, came behind the DAY told. */
    private static String apart(int gone) {
        return "archive law 0 carry 1;page a;page b;page c;body k weight 1 part b;body l weight 2 part c;body m weight 3;"
            + "shot a at 10 is k;gone a at 20;shot b at 40 is l;gone c at " + gone + ";shot c at 45 is m;";
    }

    /** "else 1 OPEN, if there is one in all MAY SPANS; else 0 IMPOSSIBLE"; "clash", "culprit" at that bound. */
    private static void openByOneDay() {
        int[][] rows = {{17, 1, 18, 19, -1, -1}, {18, 1, 19, 19, -1, -1}, {19, 0, -1, -1, 2, 0}, {20, 0, -1, -1, 2, 0}};
        for (int[] row : rows) {
            AsOfPages x = CHECK.with(apart(row[0]));
            String what = ", gone on DAY " + row[0];
            due("judged" + what, x.judged(0, 0), row[1]);
            due("the first MAY DAY" + what, x.common(0, 0, 2), row[2]);
            due("the last MAY DAY" + what, x.common(0, 0, 3), row[3]);
            due("clash" + what, x.clash(0, 0), row[4]);
            due("culprit" + what, x.culprit(0, 0), row[5]);
            due("both" + what, x.both(0, 0, 0), row[1]);
            due("by the LAW and CARRY there are" + what, x.by(0, 0, 0, 1), row[1]);
            due("by CARRY 0" + what, x.by(0, 0, 0, 0), 1);
        }
    }

    /** "Two ELEMENTS i below j .. 100 i + j, the least", far behind in the VIEW; "The least ELEMENT without whose SPANS". */
    private static void lateClash() {
        AsOfPages x = CHECK.with("archive law 0 carry 1;" + pages(7).substring(HEAD.length())
            + "body k weight 1 part b part b part b part e;body l weight 1 part c part c part c part c;"
            + "body m weight 1 part d part d part d part d;body n weight 1 part d part d part d part g;"
            + "body o weight 1 part f part f part f part f;body q weight 1;"
            + "shot a at 10 is k;shot b at 10 is l;shot c at 10 is m;gone d at 10;shot e at 10 is n;gone e at 20;"
            + "shot g at 40 is o;gone f at 30;shot f at 45 is q;");
        due("view", x.view(0, 10), 73);
        due("e", x.element(0, 10, 64, 0), 4);
        due("f", x.element(0, 10, 69, 0), 5);
        due("clash", x.clash(0, 10), 6469);
        due("culprit", x.culprit(0, 10), 64);
        // Two at either side, twice each: without one alone it stays IMPOSSIBLE.
        x.add(0, 20, 3, 0);
        due("clash with a, too", x.clash(0, 10), 69);
        due("no culprit alone", x.culprit(0, 10), -1);
    }

    /** The ELEMENT that stood later is the first of the two: they meet on one DAY, then on none. */
    private static void clashOfTheLater() {
        String text = "archive law 0 carry 1;page a;page b;page c;body k weight 1 part b;body l weight 2 part c;"
            + "body m weight 3;gone a at #;shot a at 40 is k;shot b at 10 is l;shot c at 5 is m;gone c at 20;";
        int[][] rows = {{17, 1, -1}, {18, 1, -1}, {19, 0, 2}, {20, 0, 2}};
        for (int[] row : rows) {
            AsOfPages x = CHECK.with(text.replace("#", String.valueOf(row[0])));
            due("judged, a behind DAY " + row[0], x.judged(0, 40), row[1]);
            due("clash, a behind DAY " + row[0], x.clash(0, 40), row[2]);
            due("culprit, a behind DAY " + row[0], x.culprit(0, 40), row[2] == 2 ? 0 : -1);
        }
    }

    /** c, in b, came behind DAY 30; d, behind it in the VIEW, was gone by DAY 26. */
    private static void clashOfNeighbours() {
        AsOfPages x = CHECK.with("archive law 0 carry 1;page a;page b;page c;page d;body k weight 1 part b part d;"
            + "body l weight 1 part c;body m weight 1;body n weight 1 part b part a;shot a at 10 is k;shot b at 40 is l;"
            + "gone c at 30;shot c at 45 is m;shot d at 12 is m;gone d at 26;");
        CHECK.due("the VIEW", told(x, 0, 10), "p0@10[p1@40[p2@45] p3@12]");
        due("clash of 2 and 3", x.clash(0, 10), 203);
        due("culprit of 2 and 3", x.culprit(0, 10), 2);
        // Where a VIEW ahead had c, there is a NESTED one: it has no SPANS.
        x.add(2, 100, 3, 0);
        x.add(3, 100, 0, 3);
        x.add(3, 120, 3, 0);
        CHECK.due("the VIEW ahead", told(x, 0, 10), "p0@10[p1@40[p2@45] p3@12]");
        AsOfPages y = CHECK.with(apart(19).replace("body m", "page d;page e;body n weight 1 part e;body o weight 1 part d;body m")
            + "shot d at 10 is n;gone d at 15;shot e at 10 is o;");
        due("clash ahead", y.clash(0, 0), 2);
        CHECK.due("the VIEW with a NESTED one", told(y, 3, 0), "p3@10[p4@10[p3^]]");
        due("clash of two", y.clash(0, 0), 2);
        due("no clash with a NESTED one", y.clash(3, 0), -1);
        due("no culprit, either", y.culprit(3, 0), -1);
    }

    /** "MAY SPANS (of the one, of the other)": SPANS of one ELEMENT alone that are apart are not two ELEMENTS'. */
    private static void clashOfOne() {
        AsOfPages x = CHECK.with("archive law 0 carry 1;page a;page b;page c;body n weight 3;"
            + "move a at 10 to b;gone a at 20;move b at 40 to c;gone c at 30;shot c at 45 is n;");
        due("one ELEMENT", x.view(0, 10), 1);
        due("IMPOSSIBLE", x.judged(0, 10), 0);
        due("no two clash", x.clash(0, 10), -1);
        due("without its SPANS", x.culprit(0, 10), 0);
    }

    /** "The latest DAY less the earliest one", "most DAYS off .., the first of several". */
    private static void spreadAndFarthest() {
        AsOfPages x = CHECK.with(HEAD + "page a;page b;page c;body k weight 1 part b part c;shot a at 0 is k;"
            + "gone b at 365;same c at 100;");
        due("spread over all DAYS", x.spread(0, 0), 365);
        due("farthest from DAY 0", x.farthest(0, 0), 1);
        due("farthest from DAY 365", x.farthest(0, 365), 0);
        due("farthest from DAY 182", x.farthest(0, 182), 1);
        due("farthest from DAY 183", x.farthest(0, 183), 0);
        due("drift from DAY 0", x.drift(0, 0), 365 + 100);
        AsOfPages y = CHECK.with(HEAD + "page a;page b;page c;body k weight 1 part b part c;shot a at 10 is k;"
            + "gone b at 20;gone c at 20;");
        due("farthest, the first of several", y.farthest(0, 14), 1);
        due("farthest, the first of all", y.farthest(0, 15), 0);
        due("farthest, off by none", CHECK.with(STATES).farthest(0, 9), 0);
    }

    /** "off from the DAY asked for", not from that to which CARRY 1 leads; "at which ELEMENTS END", not their moves. */
    private static void offFromTheDayAskedFor() {
        AsOfPages x = CHECK.with("archive law 0 carry 1;page a;page b;page c;body k weight 1 part b;body l weight 1;"
            + "shot a at 50 is k;shot b at 20 is l;move c at 300 to a;");
        int[][] rows = {{0, 90, 40 + 70, 1, 30}, {0, 0, 50 + 20, 0, 30}, {0, 35, 15 + 15, 0, 30}, {0, 36, 14 + 16, 1, 30},
            {2, 300, 250 + 280, 1, 30}, {1, 300, 280, 0, 0}};
        for (int[] row : rows) {
            String what = " of PAGE " + row[0] + " on DAY " + row[1];
            due("drift" + what, x.drift(row[0], row[1]), row[2]);
            due("farthest" + what, x.farthest(row[0], row[1]), row[3]);
            due("spread" + what, x.spread(row[0], row[1]), row[4]);
        }
    }

    /** "WEIGHT of all BODIES in the VIEW, EQUAL ones once". */
    private static void heavy() {
        AsOfPages x = CHECK.with(HEAD + "page a;page b;page c;page d;body k weight 999 part b part c part d part b;"
            + "body l weight 1;body m weight 1;body n weight 2;"
            + "shot a at 1 is k;shot b at 1 is l;shot c at 1 is m;shot d at 1 is n;");
        due("heavy", x.heavy(0, 1), 999 + 1 + 2);
        due("heavy, none", CHECK.with(STATES).heavy(3, 0), 0);
    }

    // Whole years.

    /** "On how many DAYS (0 .. 365)", "The first of these DAYS. NONE: there are none". */
    private static void daysJudged() {
        AsOfPages none = CHECK.with(STATES);
        int[] always = {0, 0, 366};
        int[] first = {-1, -1, 0};
        answers("days", always, (y, judged) -> y.days(3, judged), none);
        answers("firstDay", first, (y, judged) -> y.firstDay(3, judged), none);
        answers("bothOn", first, (y, judged) -> y.bothOn(3, 3, judged), none);
        AsOfPages bare = CHECK.with(HEAD + "page a;");
        answers("days without SHOTS", always, (y, judged) -> y.days(0, judged), bare);
        answers("firstDay without SHOTS", first, (y, judged) -> y.firstDay(0, judged), bare);
        answers("bothOn without SHOTS", first, (y, judged) -> y.bothOn(0, 0, judged), bare);
        due("bestDay without SHOTS", bare.bestDay(0), -1);
        // On the last DAY alone b has a SHOT that stood on a DAY of the RUN of a.
        AsOfPages last = CHECK.with("archive law 2 carry 0;page a;page b;body k weight 1 part b;body l weight 2;"
            + "shot a at 9 is k;same a at 365;gone b at 1;shot b at 365 is l;");
        answers("days, the last", new int[] {0, 365, 1}, (y, judged) -> y.days(0, judged), last);
        answers("firstDay, the last", new int[] {-1, 0, 365}, (y, judged) -> y.firstDay(0, judged), last);
        answers("bothOn, the last", new int[] {-1, 0, 365}, (y, judged) -> y.bothOn(0, 1, judged), last);
        AsOfPages early = CHECK.with("archive law 2 carry 0;page a;page b;body k weight 1 part b;body l weight 2;"
            + "shot a at 0 is k;same a at 300;shot b at 0 is l;gone b at 1;");
        early.add(1, 320, 1, 0);
        // From DAY 320 on b is BROKEN: without SPANS, so that a alone is judged.
        answers("days, the first", new int[] {0, 0, 366}, (y, judged) -> y.days(0, judged), early);
        AsOfPages three = CHECK.with(apart(19));
        // a is gone from DAY 16 on: alone then.
        answers("days of three", new int[] {16, 0, 350}, (y, judged) -> y.days(0, judged), three);
        answers("firstDay of three", new int[] {0, -1, 16}, (y, judged) -> y.firstDay(0, judged), three);
    }

    /** "On how many DAYS (1 .. 365) .. another one than on the DAY ahead", "The k-th (from 0) of these DAYS". */
    private static void changes() {
        AsOfPages ends = CHECK.with("archive law 2 carry 0;page a;page b;gone a at 0;gone a at 1;gone a at 365;gone b at 0;");
        due("changes", ends.changes(0), 2);
        answers("change", new int[] {1, 365, -1, -1}, (y, k) -> y.change(0, k), ends);
        due("change MAX", ends.change(0, Integer.MAX_VALUE), -1);
        for (int k : NOT_UP_TO_ZERO) {
            due("change " + k, ends.change(0, k), -2);
        }
        due("DAY 0 is none", ends.changes(1), 0);
        due("DAY 0 is none", ends.change(1, 0), -1);
        due("none", CHECK.with(STATES).changes(3), 0);
        due("none, the first", CHECK.with(STATES).change(3, 0), -1);
        AsOfPages full = CHECK.with(goneDays(40).replace("law 0", "law 2"));
        due("changes of 40", full.changes(0), 39);
        due("the last of 40", full.change(0, 38), 39);
        due("behind the last of 40", full.change(0, 39), -1);
        AsOfPages more = CHECK.with("archive law 2 carry 0;page a;page b;body k weight 1 part b;body l weight 1;"
            + "gone b at 7;shot a at 10 is l;shot a at 20 is k;");
        answers("change by a PART more", new int[] {20, -1}, (y, k) -> y.change(0, k), more);
        // LOST, then ROUND: the STATE alone is another. By another move to one end: none is.
        AsOfPages states = CHECK.with("archive law 2 carry 0;page a;page b;page c;gone c at 1;move a at 10 to b;"
            + "move a at 20 to a;");
        answers("change of the STATE alone", new int[] {20, -1}, (y, k) -> y.change(0, k), states);
        states.add(1, 5, 2, 2);
        states.add(0, 30, 2, 2);
        answers("change by SHOTS that END", new int[] {20, 30, -1}, (y, k) -> y.change(0, k), states);
        states.drop(2);
        due("another way, one end", states.changes(0), 0);
    }

    /** "Of DAYS on which the VIEW is whole() .. JUDGED highest, .. least drift(), .. the first. NONE: there are none". */
    private static void bestDay() {
        int[] best = {9, -1, -1, -1, -1, 9};
        answers("bestDay of PAGE", best, (y, page) -> y.bestDay(page), CHECK.with(STATES));
        AsOfPages ends = CHECK.with(HEAD + "page a;page b;body k weight 1;shot a at 0 is k;gone a at 1;shot b at 365 is k;"
            + "gone b at 364;");
        due("bestDay on the first DAY", ends.bestDay(0), 0);
        due("bestDay on the last DAY", ends.bestDay(1), 365);
        // Drift is 10 from DAY 10 to DAY 20, more beside: the first of them; OPEN all the time.
        AsOfPages several = CHECK.with(HEAD + "page a;page b;body k weight 1 part b;body l weight 1;shot a at 10 is k;"
            + "shot b at 20 is l;");
        due("bestDay, the first of several", several.bestDay(0), 10);
        // PROVED on DAYS 100 and behind, though farther off than any OPEN one (0 off on DAY 10).
        AsOfPages proved = CHECK.with("archive law 2 carry 0;page a;page b;body k weight 1 part b;body l weight 1;"
            + "shot a at 10 is k;shot b at 10 is l;gone b at 11;shot a at 50 is k;shot b at 100 is l;same b at 300;"
            + "same a at 200;");
        due("PROVED at 10", proved.judged(0, 10), 2);
        due("bestDay, PROVED", proved.bestDay(0), 10);
        proved.drop(0);
        due("OPEN ahead", proved.judged(0, 10), 1);
        due("not whole", proved.whole(0, 60), 0);
        due("bestDay, PROVED, nearest", proved.bestDay(0), 100);
    }

    /** "The DAY (0 .. 365) without a SHOT .. most DAYS off from any of its SHOTS, the first of several". */
    private static void blank() {
        int[][] rows = {{0, 0, 365}, {1, 1, 365}, {182, 182, 365}, {183, 183, 0}, {364, 364, 0}, {365, 365, 0},
            {0, 365, 182}, {0, 364, 182}, {1, 365, 183}, {100, 300, 0}, {100, 301, 0}, {100, 302, 201}, {0, 1, 365}, {364, 365, 0}};
        for (int[] row : rows) {
            String more = row[0] == row[1] ? "" : "gone a at " + row[1] + ";";
            AsOfPages x = CHECK.with(HEAD + "page a;gone a at " + row[0] + ";" + more);
            due("blank of DAYS " + row[0] + ", " + row[1], x.blank(0), row[2]);
        }
        due("blank of none", CHECK.with(STATES).blank(3), -1);
        AsOfPages two = CHECK.with(HEAD + "page a;page b;page c;gone b at 0;gone a at 365;gone c at 365;");
        answers("blank of PAGES", new int[] {0, 365, 0}, (y, page) -> y.blank(page), two);
        due("blank of 40", CHECK.with(goneDays(40)).blank(0), 365);
    }

    // What is stored.

    /** "each SHOT's (what 0), each BODY that some SHOT has once, EQUAL ones once (1)"; "BODIES that no SHOT has". */
    private static void storedAndUnused() {
        AsOfPages none = CHECK.with(STATES.substring(0, STATES.indexOf("shot a")));
        due("stored(0), no SHOT", none.stored(0), 0);
        due("stored(1), no SHOT", none.stored(1), 0);
        due("unused, all", none.unused(), 3);
        StringBuilder ten = new StringBuilder(HEAD + "page a;");
        for (int b = 0; b < 10; b++) {
            ten.append("body ").append((char) ('k' + b)).append(" weight 999;");
        }
        AsOfPages x = CHECK.with(ten.toString());
        due("unused, ten", x.unused(), 1023);
        x.add(0, 1, 0, 9);
        due("unused, but the last", x.unused(), 511);
        x.add(0, 2, 0, 0);
        x.add(0, 3, 1, 0);
        due("unused, but two", x.unused(), 510);
        due("stored(0), three", x.stored(0), 3 * 999);
        due("stored(1), EQUAL ones once", x.stored(1), 999);
        for (int b = 1; b < 9; b++) {
            x.add(0, 10 + b, 0, b);
        }
        due("unused, none", x.unused(), 0);
        AsOfPages turns = CHECK.with(HEAD + "page a;body k weight 3;body l weight 50;shot a at 1 is k;shot a at 2 is l;"
            + "shot a at 3 is k;shot a at 4 is l;");
        due("stored(0), by turns", turns.stored(0), 106);
        due("stored(1), by turns", turns.stored(1), 53);
        AsOfPages y = CHECK.with(STATES);
        due("stored(0), gone, BROKEN, moves aside", y.stored(0), 15);
        due("stored(1)", y.stored(1), 15);
        due("unused, none, as told", y.unused(), 0);
        y.drop(0);
        due("unused, of a dropped SHOT", y.unused(), 1);
    }

    // Term IV.

    /** "NONE: it does not END at a BODY, that has not so many LINKS; -2: .. i is below 0". */
    private static void click() {
        AsOfPages x = CHECK.with(pages(5) + "body k weight 1 link b link a link c link b;body l weight 1;"
            + "shot a at 9 is k;gone b at 9;same c at 9;move e at 9 to e;");
        answers("PAGE come to by LINK", new int[] {1, 0, 2, 1, -1, -1}, (y, i) -> y.click(0, 0, i, 0), x);
        answers("DAY by LINK", new int[] {0, 0, 0, 0, -1}, (y, i) -> y.click(0, 0, i, 1), x);
        due("LINK MAX", x.click(0, 0, Integer.MAX_VALUE, 0), -1);
        for (int page = 1; page < 5; page++) {
            due("no BODY of PAGE " + page, x.click(page, 0, 0, 0), -1);
            due("no BODY of PAGE " + page, x.click(page, 0, 0, 1), -1);
        }
        for (int page = 0; page < 5; page++) {
            for (int i : NOT_UP_TO_ZERO) {
                due("LINK " + i + " of PAGE " + page, x.click(page, 0, i, 0), -2);
            }
        }
        due("DAY 365 by CARRY 0", x.click(0, 365, 3, 1), 365);
        x.rule(0, 1);
        due("DAY 365 by CARRY 1", x.click(0, 365, 3, 1), 9);
        due("DAY 0 by CARRY 1", x.click(0, 0, 3, 1), 9);
        x.add(1, 10, 0, 1);
        due("a BODY without LINKS", x.click(1, 20, 0, 0), -1);
    }

    /** "by n CLICKS (0 .. 6) at the most", "The fewest CLICKS (0 .. 6) .. NONE: by 6 not". */
    private static void farClicks() {
        StringBuilder text = new StringBuilder(pages(8));
        for (char p = 'a'; p < 'h'; p++) {
            text.append("body x" + p + " weight 1 link " + (char) (p + 1) + ";shot " + p + " at 9 is x" + p + ";");
        }
        for (int carry = 0; carry <= 1; carry++) {
            AsOfPages x = CHECK.with(text.toString().replace("carry 0", "carry " + carry));
            answers("reach by", new int[] {1, 3, 7, 15, 31, 63, 127, -2}, (y, n) -> y.reach(0, 0, n), x);
            answers("clicks to", new int[] {0, 1, 2, 3, 4, 5, 6, -1, -2}, (y, to) -> y.clicks(0, 0, to), x);
            answers("clicks from the second to", new int[] {-1, 0, 1, 2, 3, 4, 5, 6}, (y, to) -> y.clicks(1, 0, to), x);
            due("reach from the second", x.reach(1, 0, 6), 254);
            due("reach from the last", x.reach(7, 0, 6), 128);
            due("clicks of none to itself", x.clicks(7, 0, 7), 0);
            due("linking to the first", x.linking(0, 0), 0);
            due("linking to the last", x.linking(7, 0), 64);
            due("dead", x.dead(0), 128);
        }
    }

    /** The same by four LINKS each, three of which lead nowhere new. */
    private static void farClicksInACrowd() {
        StringBuilder text = new StringBuilder(pages(8));
        for (char p = 'a'; p < 'h'; p++) {
            text.append("body x" + p + " weight 1 link " + p + " link a link " + p + " link " + (char) (p + 1)
                + ";shot " + p + " at 9 is x" + p + ";");
        }
        for (int carry = 0; carry <= 1; carry++) {
            AsOfPages x = CHECK.with(text.toString().replace("carry 0", "carry " + carry));
            for (int again = 0; again < 2; again++) {
                answers("reach in a crowd by", new int[] {1, 3, 7, 15, 31, 63, 127, -2}, (y, n) -> y.reach(0, 0, n), x);
                answers("clicks in a crowd to", new int[] {0, 1, 2, 3, 4, 5, 6, -1}, (y, to) -> y.clicks(0, 0, to), x);
                answers("clicks from h to", new int[] {-1, -1, -1, -1, -1, -1, -1, 0}, (y, to) -> y.clicks(7, 0, to), x);
                answers("clicks from g to", new int[] {1, 2, 3, 4, 5, 6, 0, 1}, (y, to) -> y.clicks(6, 0, to), x);
            }
        }
    }

    /** By CARRY 1 a PAGE may be come to on several DAYS, and each leads on by itself. */
    private static void clicksOnSeveralDays() {
        AsOfPages x = CHECK.with("archive law 0 carry 1;page a;page b;page c;page d;body k weight 1 link b;"
            + "body l weight 1 link d;body m weight 1 link c;shot a at 10 is k;shot b at 12 is l;shot b at 200 is m;"
            + "shot d at 150 is k;");
        for (int again = 0; again < 2; again++) {
            answers("reach by", new int[] {1, 3, 11, 11, 15}, (y, n) -> y.reach(0, 0, n), x);
            answers("clicks to", new int[] {0, 1, 4, 2}, (y, to) -> y.clicks(0, 0, to), x);
            answers("clicks from b to", new int[] {-1, 0, 1, -1}, (y, to) -> y.clicks(1, 365, to), x);
        }
        AsOfPages back = CHECK.with("archive law 0 carry 1;page a;page b;page c;body k weight 1 link b;body l weight 1 link a;"
            + "body m weight 1 link c;shot a at 10 is k;shot b at 90 is l;shot a at 91 is m;");
        answers("clicks over a, on another DAY", new int[] {0, 1, 3}, (y, to) -> y.clicks(0, 0, to), back);
        answers("clicks over a from b", new int[] {1, 0, 2}, (y, to) -> y.clicks(1, 0, to), back);
        x.rule(0, 0);
        answers("clicks to by CARRY 0", new int[] {0, 1, -1, 2}, (y, to) -> y.clicks(0, 0, to), x);
        answers("clicks to by CARRY 0, later", new int[] {0, 1, 2, -1}, (y, to) -> y.clicks(0, 365, to), x);
    }

    /** With 60 SHOTS: from the last of them to the last PAGE, and from the first. */
    private static void clicksFromTheLastShot() {
        StringBuilder text = new StringBuilder(pages(8).replace("carry 0", "carry 1") + "body r weight 1 link d;"
            + "body q weight 1 link c link b link h;shot b at 5 is r;");
        for (int day = 0; day < 39; day++) {
            text.append("gone e at ").append(day).append(';');
        }
        AsOfPages x = CHECK.with(text.toString());
        for (int i = 0; i < 19; i++) {
            x.add(4, 100 + i, 3, 0);
        }
        due("the last SHOT", x.add(0, 365, 0, 1), 59);
        due("reach by 1", x.reach(0, 365, 1), 1 + 2 + 4 + 128);
        due("reach by 2", x.reach(0, 365, 2), 1 + 2 + 4 + 8 + 128);
        answers("clicks to", new int[] {0, 1, 1, 2, -1, -1, -1, 1}, (y, to) -> y.clicks(0, 0, to), x);
    }

    /** "PAGES (bits) that .. END at a BODY with a LINK to a PAGE"; "to which .. some LINK .. leads, .. do not END at a BODY". */
    private static void linkingAndDead() {
        AsOfPages x = CHECK.with(pages(6) + "body k weight 1 link b link c link d link e;body l weight 1 link a link f;"
            + "shot a at 9 is k;gone b at 9;same c at 9;move e at 9 to e;shot f at 9 is l;");
        int[] linking = {32, 1, 1, 1, 1, 32};
        answers("linking to PAGE", linking, (y, page) -> y.linking(page, 0), x);
        due("dead: gone, BROKEN, LOST, ROUND", x.dead(0), 2 + 4 + 8 + 16);
        x.drop(0);
        due("dead without their LINKS", x.dead(0), 1);
        due("linking without", x.linking(1, 0), 0);
        AsOfPages all = CHECK.with(pages(8) + "body k weight 1 link h;shot a at 1 is k;shot b at 1 is k;shot c at 1 is k;"
            + "shot d at 1 is k;shot e at 1 is k;shot f at 1 is k;shot g at 1 is k;shot h at 1 is k;");
        due("linking, all", all.linking(7, 0), 255);
        due("dead, none", all.dead(0), 0);
        due("linking, none", all.linking(0, 0), 0);
        AsOfPages unlinked = CHECK.with(HEAD + "page a;page b;page c;body k weight 1 link c;gone a at 1;shot b at 1 is k;"
            + "shot c at 1 is k;");
        due("dead, not what has no LINK", unlinked.dead(0), 0);
        // One of two LINKS leads to a DAY on which b is gone.
        AsOfPages some = CHECK.with("archive law 0 carry 1;page a;page b;page c;body k weight 1 link b;"
            + "shot a at 10 is k;shot b at 10 is k;shot c at 100 is k;gone b at 100;");
        due("dead by some LINK", some.dead(0), 2);
        some.rule(0, 0);
        due("dead by none", some.dead(55), 0);
        due("dead from DAY 56 on", some.dead(56), 2);
    }

    /** "FOLLOWED from d it ENDS at a BODY: .. on the DAY of that SHOT by CARRY 1": behind a move, not the move's. */
    private static void clicksBehindMoves() {
        AsOfPages x = CHECK.with("archive law 0 carry 1;page a;page b;page c;body k weight 1 link c;body l weight 1;"
            + "move a at 50 to b;shot b at 20 is k;gone c at 20;shot c at 50 is l;");
        due("PAGE", x.click(0, 90, 0, 0), 2);
        due("DAY by CARRY 1", x.click(0, 90, 0, 1), 20);
        due("dead on the DAY come to", x.dead(90), 4);
        due("linking, by a move, too", x.linking(2, 90), 3);
        due("FOLLOWED to is not come to", x.reach(0, 90, 6), 1 + 4);
        answers("clicks to", new int[] {0, -1, 1}, (y, to) -> y.clicks(0, 90, to), x);
        x.rule(0, 0);
        due("DAY by CARRY 0", x.click(0, 90, 0, 1), 90);
        due("not dead on DAY 90", x.dead(90), 0);
        due("dead on DAY 35", x.dead(35), 4);
        due("not dead on DAY 36", x.dead(36), 0);
        // The PAGE to which the LINK leads is dead, not that to which it moves.
        AsOfPages y = CHECK.with(pages(4) + "body k weight 1 link b link c;shot a at 9 is k;move b at 9 to d;"
            + "move c at 9 to a;gone d at 9;");
        due("dead by a move", y.dead(0), 2);
        due("linking by a move", y.linking(1, 0), 1 + 4);
        due("reach, moves and all", y.reach(0, 0, 6), 7);
        due("clicks to what is moved to", y.clicks(0, 0, 3), -1);
    }

    // Promises 41, 43 to 45.

    /** "SHOTS (bits) without which, each alone": of one none, of two alike each, up to bit 59. */
    private static void spare() {
        due("spare of one", CHECK.with(goneDays(1)).spare(), 0);
        due("spare of two", CHECK.with(goneDays(2)).spare(), 3);
        due("spare of 40", CHECK.with(goneDays(40)).spare(), (1L << 40) - 1);
        AsOfPages x = CHECK.with(goneDays(40));
        for (int i = 0; i < 20; i++) {
            x.add(0, 365 - i, 3, 0);
        }
        due("spare of 60", x.spare(), (1L << 60) - 1);
        AsOfPages last = CHECK.with("archive law 2 carry 0;page a;body k weight 1;body l weight 2;shot a at 0 is k;"
            + "shot a at 364 is l;shot a at 365 is k;");
        due("spare, not for one DAY", last.spare(), 0);
        last.drop(1);
        due("spare, either", last.spare(), 3);
        AsOfPages eight = CHECK.with(pages(8) + "gone h at 1;gone h at 2;gone a at 1;gone g at 3;");
        due("spare of eight PAGES", eight.spare(), 3);
        StringBuilder ten = new StringBuilder("archive law 2 carry 0;page a;");
        for (int b = 0; b < 10; b++) {
            ten.append("body ").append((char) ('k' + b)).append(" weight ").append(b + 1).append(';');
        }
        for (int b = 0; b < 10; b++) {
            AsOfPages one = CHECK.with(ten + "shot a at 1 is " + (char) ('k' + b) + ";gone a at 2;same a at 3;move a at 4 to a;");
            due("spare, BODY " + b + " is no STATE", one.spare(), 0);
        }
        // gone, BROKEN, LOST, ROUND: none has a BODY, but STATES differ.
        AsOfPages states = CHECK.with("archive law 2 carry 0;page a;page b;gone a at 10;same a at 20;move a at 30 to b;"
            + "move a at 40 to a;");
        due("spare, other STATES", states.spare(), 0);
        states.add(1, 5, 3, 0);
        // a by its move to b is gone, too, up to DAY 39; but LOST or BROKEN without some.
        due("spare, by b", states.spare(), 0);
        states.drop(1);
        due("spare, gone by b", states.spare(), 1 + 2);
    }

    /** "on each DAY": one is enough, wherever by a LAW it lies; a same without its shot is BROKEN. */
    private static void spareButForOneDay() {
        // The second SHOT alone makes DAY 6 by LAW 0, DAY 5 by LAW 1 one of the BODY's; by LAW 2 none.
        int[] due = {1, 1, 3};
        for (int law = 0; law <= 2; law++) {
            AsOfPages x = CHECK.with("archive law " + law + " carry 0;page a;body k weight 1;shot a at 0 is k;shot a at 2 is k;"
                + "gone a at 10;");
            due("spare by LAW " + law, x.spare(), due[law]);
        }
        String[] texts = {"shot a at 1 is k;same a at 365;", "shot a at 1 is k;shot a at 9 is l;",
            "shot a at 1 is k;shot a at 9 is m;", "shot a at 1 is k;same a at 2;same a at 3;", "same a at 1;same a at 2;",
            "shot a at 1 is k;gone a at 2;same a at 3;gone a at 4;"};
        int[] spare = {2, 3, 0, 6, 3, 0};
        for (int i = 0; i < texts.length; i++) {
            due("spare of " + texts[i], CHECK.with("archive law 2 carry 0;page a;body k weight 1;body l weight 1;"
                + "body m weight 2;" + texts[i]).spare(), spare[i]);
        }
        // By CARRY 1 a comes to b on DAY 50, where either of two SHOTS will do, but one has to be there.
        AsOfPages moved = CHECK.with("archive law 2 carry 1;page a;page b;body k weight 1;move a at 50 to b;"
            + "shot b at 0 is k;shot b at 50 is k;gone b at 51;");
        due("spare, each for itself", moved.spare(), 2 + 4);
        moved.drop(2);
        due("not both", moved.spare(), 0);
    }

    /** "as they have now": by the LAW and CARRY that there are. */
    private static void spareByCarry() {
        for (int law = 0; law <= 2; law++) {
            for (int carry = 0; carry <= 1; carry++) {
                AsOfPages x = CHECK.with("archive law " + law + " carry " + carry + ";page a;page b;page c;body k weight 1;"
                    + "body l weight 2;move a at 0 to b;shot b at 0 is k;shot b at 100 is l;gone c at 1;gone c at 2;");
                due("spare by LAW " + law + ", CARRY " + carry, x.spare(), 8 + 16);
                due("a on DAY 365", x.follow(0, 365, 0), carry == 0 ? 2 : 1);
            }
        }
    }

    /** "JUDGED, were LAW, CARRY others": none becomes so by it. */
    private static void by() {
        AsOfPages x = CHECK.with(apart(19));
        int[][] rows = {{0, 0, 1}, {0, 1, 0}, {1, 0, 1}, {1, 1, 0}, {2, 0, 1}, {2, 1, 1}};
        for (int[] row : rows) {
            due("by LAW " + row[0] + ", CARRY " + row[1], x.by(0, 10, row[0], row[1]), row[2]);
            due("judged still", x.judged(0, 10), 0);
            due("LAW still", x.count(0), 0);
            due("CARRY still", x.count(1), 1);
            due("no act", x.count(5), 0);
        }
        due("by none such, both", x.by(0, 10, 3, 2), -2);
        due("by none such, MIN", x.by(0, 10, Integer.MIN_VALUE, Integer.MIN_VALUE), -2);
    }

    /** "how many bytes. -2 (OUT stays)", "Byte i of OUT. NONE: there is none such". */
    private static void tellAndOctet() {
        AsOfPages x = CHECK.with(STATES);
        due("octet of nothing", x.octet(0), -1);
        due("tell", x.tell(5, 365), 9);
        for (int i : new int[] {9, 10, -1, Integer.MIN_VALUE, Integer.MAX_VALUE}) {
            due("octet(" + i + ")", x.octet(i), -1);
        }
        due("octet(0)", x.octet(0), 'p');
        due("octet(8)", x.octet(8), ']');
        due("tell of no PAGE", x.tell(6, 0), -2);
        due("tell of no PAGE", x.tell(-1, 0), -2);
        due("tell on no DAY", x.tell(0, 366), -2);
        due("tell on no DAY", x.tell(0, -1), -2);
        due("OUT stays", x.count(8), 9);
        CHECK.due("OUT stays", Check.out(x), "p5@9[p5^]");
        due("tell, shorter", x.tell(3, 0), 3);
        due("octet, the last", x.octet(2), '-');
        due("octet, of the one ahead", x.octet(3), -1);
        x.archive();
        due("tell without an ARCHIVE", x.tell(0, 0), -2);
        CHECK.due("OUT stays without", Check.out(x), "p3-");
        AsOfPages digits = CHECK.with(pages(8) + "body k weight 1 part b part c part d part e;"
            + "body l weight 1 part g part h;shot a at 0 is k;gone b at 9;gone c at 10;gone d at 99;shot e at 100 is l;"
            + "gone g at 365;move h at 9 to h;");
        AsOfPages hundreds = CHECK.with(HEAD + "page a;gone a at 198;gone a at 299;gone a at 301;");
        CHECK.due("DAY 198", told(hundreds, 0, 0), "p0@198!");
        CHECK.due("DAY 299", told(hundreds, 0, 299), "p0@299!");
        CHECK.due("DAY 301", told(hundreds, 0, 365), "p0@301!");
        CHECK.due("DAYS of one, two, three digits", told(digits, 0, 0), "p0@0[p1@9! p2@10! p3@99! p4@100[p6@365! p7~]]");
    }

    // No answer is a change.

    private static void unchangedBy(String name, OfPageAndDay call) {
        AsOfPages x = CHECK.with(apart(19));
        x.add(2, 300, 1, 0);
        x.tell(0, 0);
        String ahead = Check.look(x);
        call.ask(x, 0, 0);
        call.ask(x, 2, 365);
        call.ask(x, -1, 400);
        CHECK.due("all behind " + name, Check.look(x), ahead);
        due("the act behind " + name, x.undo(), 0);
    }

    private static void questionsChangeNothing() {
        unchangedBy("nearest, follow", (x, page, day) -> x.nearest(page, day) + x.follow(page, day, 0));
        unchangedBy("followed, view", (x, page, day) -> x.followed(page, day, 0) + x.view(page, day));
        unchangedBy("element, whole", (x, page, day) -> x.element(page, day, 0, 1) + x.whole(page, day));
        unchangedBy("judged, common", (x, page, day) -> x.judged(page, day) + x.common(page, day, 3));
        unchangedBy("clash, culprit", (x, page, day) -> x.clash(page, day) + x.culprit(page, day));
        unchangedBy("spread, farthest", (x, page, day) -> x.spread(page, day) + x.farthest(page, day));
        unchangedBy("heavy, drift", (x, page, day) -> x.heavy(page, day) + x.drift(page, day));
        unchangedBy("run, runs", (x, page, day) -> x.run(page, 0) + x.runs(page));
        unchangedBy("days, firstDay", (x, page, day) -> x.days(page, 1) + x.firstDay(page, 1));
        unchangedBy("changes, change", (x, page, day) -> x.changes(page) + x.change(page, 0));
        unchangedBy("both, bothOn", (x, page, day) -> x.both(page, 1, day) + x.bothOn(page, 1, 1));
        unchangedBy("bestDay, blank", (x, page, day) -> x.bestDay(page) + x.blank(page));
        unchangedBy("click, reach", (x, page, day) -> x.click(page, day, 0, 0) + x.reach(page, day, 6));
        unchangedBy("clicks, linking", (x, page, day) -> x.clicks(page, day, 2) + x.linking(page, day));
        unchangedBy("dead, spare", (x, page, day) -> x.dead(day) + x.spare());
        unchangedBy("by", (x, page, day) -> x.by(page, day, 2, 0));
        unchangedBy("stored, unused", (x, page, day) -> x.stored(0) + x.stored(1) + x.unused());
    }

    /** "An object is used for at most 512 calls": the 512th is answered as all ahead of it. */
    private static void lastOfAllCalls() {
        AsOfPages x = new AsOfPages();
        Check.feedText(x, apart(19));
        int feeds = 1 + (apart(19).length() + 19) / 20 + 1;
        due("archive", x.archive(), 12);
        for (int call = feeds + 2; call <= 512; call++) {
            due("call " + call, x.clash(0, call % 16), 2);
        }
    }

    public static void main(String[] args) {
        noSuchPageOrDay();
        noSuchPage();
        noSuchNumber();
        newObject();
        count();
        bodiesOfSame();
        equalBodies();
        equalBodiesUneven();
        bodiesOfOneWeight();
        partsOfBodies();
        byDay();
        nearest();
        follow();
        carried();
        depths();
        crowd();
        nested();
        partsCarried();
        onTheDayOfATurn();
        forOneDay();
        movesOnTheDayOfATurn();
        states();
        runBounds();
        runsOfLike();
        provedByOneDay();
        withoutSpans();
        openByOneDay();
        bothByOneDay();
        lateClash();
        clashOfTheLater();
        clashOfNeighbours();
        clashOfOne();
        spreadAndFarthest();
        offFromTheDayAskedFor();
        heavy();
        daysJudged();
        changes();
        bestDay();
        blank();
        storedAndUnused();
        click();
        farClicks();
        farClicksInACrowd();
        clicksOnSeveralDays();
        clicksFromTheLastShot();
        linkingAndDead();
        clicksBehindMoves();
        spare();
        spareButForOneDay();
        spareByCarry();
        by();
        tellAndOctet();
        questionsChangeNothing();
        lastOfAllCalls();
        CHECK.finish();
    }
}
