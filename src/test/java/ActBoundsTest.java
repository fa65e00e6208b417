/**
 * The bounds that promises 46 to 52 name, a method for each sentence or a few that belong together: at the bound, one
 * below, one above, with nothing, with all that there may be; and that a refused call changes nothing.
 */
public final class ActBoundsTest {
    private static final Check CHECK = new Check();
    private static final String HEAD = "archive law 0 carry 0;";
    private static final int[] EXTREMES = {Integer.MIN_VALUE, Integer.MAX_VALUE};

    /** SHOTS 0 .. 4: two of a, two of b (its first one BROKEN), one of c. */
    private static final String SITE = "archive law 1 carry 0;page a;page b;page c;body k weight 3 part b link c;"
        + "body l weight 4;shot a at 10 is k;gone a at 300;same b at 20;shot b at 30 is l;move c at 40 to b;";

    private interface Call {
        long on(AsOfPages x);
    }

    private static void due(String what, long got, long want) {
        CHECK.due(what, got, want);
    }

    private static String goneDays(int n) {
        StringBuilder text = new StringBuilder(HEAD + "page a;page b;");
        for (int day = 0; day < n; day++) {
            text.append("gone a at ").append(day).append(';');
        }
        return text.toString();
    }

    /** Twenty acts of the kind asked for. */
    private static AsOfPages withTwentyActs(int kind) {
        AsOfPages x = CHECK.with(goneDays(40));
        for (int i = 0; i < 20; i++) {
            long answer = kind == 0 ? x.add(1, i, 3, 0) : kind == 1 ? x.drop(0) : x.rule(i % 3, 1 - i % 2);
            due("act " + i + " of kind " + kind, answer, kind == 0 ? 40 + i : kind == 1 ? 39 - i : 0);
        }
        due("twenty acts", x.count(5), 20);
        return x;
    }

    /** Acts, images, OUT, bytes of the TAPE: for refused calls, that have much to spoil. */
    private static AsOfPages used() {
        AsOfPages x = CHECK.with(SITE);
        x.image(0);
        x.drop(1);
        x.image(2);
        x.add(2, 0, 1, 0);
        x.rule(2, 1);
        x.tell(0, 0);
        x.feed(0x61726368, 0x69766520, 0x20202020, 0x20202020, 0x20202020);
        return x;
    }

    /** All that can be known of an object, its acts and images too. */
    private static String trail(AsOfPages x) {
        StringBuilder seen = new StringBuilder(Check.look(x)).append(x.count(7)).append(' ').append(x.fault(0))
            .append(' ').append(x.fault(1));
        for (int i = 0; i < 3; i++) {
            seen.append("\nundo ").append(x.undo()).append(' ').append(x.count(0)).append(x.count(1)).append(' ')
                .append(x.count(4)).append(' ').append(x.shot(1, 1)).append(' ').append(x.shot(4, 1));
        }
        for (int k = 0; k < 3; k++) {
            seen.append("\nback ").append(x.back(k)).append(' ').append(x.count(4)).append(' ').append(x.count(5))
                .append(' ').append(x.count(0)).append(x.count(1)).append(' ').append(x.shot(1, 1));
        }
        return seen.toString();
    }

    private static void refused(String what, long want, Call call) {
        AsOfPages x = used();
        due(what, call.on(x), want);
        CHECK.due("all behind " + what, trail(x), trail(used()));
    }

    // Promise 46.

    /** "a SHOT more, of a PAGE on a DAY, kind 0 .. 3 ..: its number": the first and last PAGE, DAY, kind, BODY. */
    private static void addWithinBounds() {
        int[][] rows = {{0, 0, 0, 0}, {2, 365, 0, 1}, {1, 0, 1, 0}, {0, 365, 1, 0}, {2, 0, 2, 0}, {1, 365, 2, 2},
            {0, 1, 3, 0}, {2, 364, 3, 0}};
        AsOfPages x = CHECK.with(SITE);
        for (int i = 0; i < rows.length; i++) {
            int[] row = rows[i];
            due("add " + i, x.add(row[0], row[1], row[2], row[3]), 5 + i);
            due("PAGE of " + i, x.shot(5 + i, 0), row[0]);
            due("DAY of " + i, x.shot(5 + i, 1), row[1]);
            due("kind of " + i, x.shot(5 + i, 2), row[2]);
            due("PAGE to which " + i + " moves", x.shot(5 + i, 4), row[2] == 2 ? row[3] : -1);
            due("acts", x.count(5), i + 1);
        }
        int[] bodies = {0, 1, -1, -1, -1, -1, -1, -1};
        for (int i = 0; i < bodies.length; i++) {
            due("BODY of " + i, x.shot(5 + i, 3), bodies[i]);
        }
        AsOfPages none = CHECK.with(HEAD + "page a;");
        due("the first SHOT of all", none.add(0, 9, 3, 0), 0);
    }

    /** "(others: of no matter)". */
    private static void ofNoMatter() {
        for (int of : new int[] {-1, 0, 2, 3, 60, Integer.MIN_VALUE, Integer.MAX_VALUE}) {
            AsOfPages x = CHECK.with(SITE);
            due("same, of " + of, x.add(0, 20, 1, of), 5);
            due("its BODY", x.shot(5, 3), 0);
            due("its move", x.shot(5, 4), -1);
            due("gone, of " + of, x.add(0, 30, 3, of), 6);
            due("its BODY", x.shot(6, 3), -1);
            due("its move", x.shot(6, 4), -1);
            due("the VIEW", x.view(0, 20), 2);
            due("taken back", x.anew(), 2);
        }
    }

    /** "-2: there are none such". */
    private static void addOfNoneSuch() {
        refused("add of PAGE -1", -2, x -> x.add(-1, 9, 3, 0));
        refused("add of PAGE 3", -2, x -> x.add(3, 9, 3, 0));
        refused("add on DAY -1", -2, x -> x.add(0, -1, 3, 0));
        refused("add on DAY 366", -2, x -> x.add(0, 366, 3, 0));
        refused("add of kind -1", -2, x -> x.add(0, 9, -1, 0));
        refused("add of kind 4", -2, x -> x.add(0, 9, 4, 0));
        refused("add of BODY -1", -2, x -> x.add(0, 9, 0, -1));
        refused("add of BODY 2", -2, x -> x.add(0, 9, 0, 2));
        refused("add of a move to PAGE -1", -2, x -> x.add(0, 9, 2, -1));
        refused("add of a move to PAGE 3", -2, x -> x.add(0, 9, 2, 3));
        for (int n : EXTREMES) {
            refused("add of PAGE " + n, -2, x -> x.add(n, 9, 3, 0));
            refused("add on DAY " + n, -2, x -> x.add(0, n, 3, 0));
            refused("add of kind " + n, -2, x -> x.add(0, 9, n, 0));
            refused("add of BODY " + n, -2, x -> x.add(0, 9, 0, n));
            refused("add of a move to PAGE " + n, -2, x -> x.add(0, 9, 2, n));
        }
        AsOfPages none = CHECK.with(HEAD + "page a;");
        due("add without BODIES", none.add(0, 9, 0, 0), -2);
        due("add without BODIES is no act", none.count(5), 0);
        due("add without PAGES", CHECK.with(HEAD).add(0, 9, 3, 0), -2);
        for (int kind = 0; kind <= 3; kind++) {
            due("add without an ARCHIVE", new AsOfPages().add(0, 0, kind, 0), -2);
        }
    }

    /** "-5: the PAGE has one on that DAY". */
    private static void addOnThatDay() {
        for (int kind = 0; kind <= 3; kind++) {
            int of = kind;
            refused("add where there is one, kind " + kind, -5, x -> x.add(0, 10, of, 0));
            refused("add where one was added, kind " + kind, -5, x -> x.add(2, 0, of, 0));
        }
        AsOfPages x = CHECK.with(SITE);
        due("on the DAY ahead", x.add(0, 9, 3, 0), 5);
        due("on the DAY behind", x.add(0, 11, 3, 0), 6);
        due("of another PAGE", x.add(1, 10, 3, 0), 7);
        x.drop(0);
        due("where one was dropped", x.add(0, 10, 3, 0), 7);
        due("where one was added again", x.add(0, 10, 3, 0), -5);
        x.undo();
        due("where one was taken back", x.add(0, 10, 3, 0), 7);
        x.undo();
        x.undo();
        due("where a dropped one is back", x.add(0, 10, 3, 0), -5);
        AsOfPages ends = CHECK.with(HEAD + "page a;gone a at 0;gone a at 365;");
        due("on DAY 0", ends.add(0, 0, 3, 0), -5);
        due("on DAY 365", ends.add(0, 365, 3, 0), -5);
    }

    /** "there are 60". */
    private static void sixtyShots() {
        AsOfPages x = CHECK.with(goneDays(40));
        for (int i = 0; i < 20; i++) {
            due("add " + i, x.add(1, 346 + i, 3, 0), 40 + i);
        }
        due("sixty", x.count(4), 60);
        due("the last", x.shot(59, 1), 365);
        due("behind the last", x.shot(60, 1), -2);
        due("one more", x.add(1, 0, 3, 0), -5);
        due("sixty still", x.count(4), 60);
        due("none such all the same", x.add(2, 0, 3, 0), -2);
        due("undo", x.undo(), 19);
        due("one less", x.shot(59, 1), -2);
        due("add again", x.add(1, 0, 2, 1), 59);
        due("taken back", x.anew(), 20);
        due("forty", x.count(4), 40);
    }

    /** "there were 20 acts", of each kind, for each kind; what is none such is so still. */
    private static void twentyActs() {
        for (int kind = 0; kind <= 2; kind++) {
            AsOfPages x = withTwentyActs(kind);
            String ahead = shortLook(x);
            due("add behind 20", x.add(1, 300, 3, 0), -5);
            due("drop behind 20", x.drop(0), -5);
            due("rule behind 20", x.rule(0, 0), -5);
            due("rule behind 20", x.rule(2, 1), -5);
            due("add of none such behind 20", x.add(2, 300, 3, 0), -2);
            due("drop of none such behind 20", x.drop(x.count(4)), -2);
            due("rule of none such behind 20", x.rule(3, 0), -2);
            CHECK.due("all behind 20", shortLook(x), ahead);
            due("undo", x.undo(), 19);
            due("the 20th once more", x.add(1, 300, 3, 0), x.count(4) - 1);
            due("no 21st", x.drop(0), -5);
            due("undo", x.undo(), 19);
            due("the 20th by drop", x.drop(0), x.count(4));
            due("no 21st", x.add(1, 301, 3, 0), -5);
            due("anew", x.anew(), 20);
            due("anew, SHOTS", x.count(4), 40);
            due("anew, LAW and CARRY", x.count(0) + x.count(1), 0);
            due("the first again", x.rule(2, 0), 0);
            due("acts", x.count(5), 1);
        }
    }

    private static String shortLook(AsOfPages x) {
        StringBuilder seen = new StringBuilder();
        for (int what = 0; what <= 6; what++) {
            seen.append(x.count(what)).append(' ');
        }
        for (int s = 0; s < x.count(4); s++) {
            seen.append(x.shot(s, 0)).append('@').append(x.shot(s, 1)).append(' ');
        }
        return seen.toString();
    }

    // Promises 47 and 48.

    /** "a SHOT is dropped (those behind it are one less): how many are left. -2: there is none such". */
    private static void drop() {
        refused("drop of -1", -2, x -> x.drop(-1));
        refused("drop behind the last", -2, x -> x.drop(5));
        refused("drop of MIN", -2, x -> x.drop(Integer.MIN_VALUE));
        refused("drop of MAX", -2, x -> x.drop(Integer.MAX_VALUE));
        AsOfPages x = CHECK.with(SITE);
        due("drop of the last", x.drop(4), 4);
        due("the last then", x.shot(3, 1), 30);
        due("behind it", x.shot(4, 1), -2);
        due("drop of the first", x.drop(0), 3);
        int[] days = {300, 20, 30, -2};
        for (int s = 0; s < days.length; s++) {
            due("DAY of " + s, x.shot(s, 1), days[s]);
        }
        due("drop in between", x.drop(1), 2);
        due("one less", x.shot(1, 1), 30);
        due("drop", x.drop(1), 1);
        due("drop of the only one", x.drop(0), 0);
        due("none is left", x.drop(0), -2);
        due("none is left", x.count(4), 0);
        due("none is left of a", x.nearest(0, 10), -1);
        due("acts", x.count(5), 5);
        due("anew", x.anew(), 5);
        int[] all = {10, 300, 20, 30, 40, -2};
        for (int s = 0; s < all.length; s++) {
            due("DAY of " + s + " anew", x.shot(s, 1), all[s]);
        }
        due("drop without an ARCHIVE", new AsOfPages().drop(0), -2);
        due("drop without SHOTS", CHECK.with(HEAD).drop(0), -2);
    }

    /** A SHOT that a same goes back to is dropped: the same goes back to the one ahead, or is BROKEN. */
    private static void dropAheadOfSame() {
        AsOfPages x = CHECK.with(HEAD + "page a;body k weight 1;body l weight 2;shot a at 1 is k;shot a at 2 is l;"
            + "same a at 3;");
        due("BODY", x.shot(2, 3), 1);
        x.drop(1);
        due("BODY of the one ahead", x.shot(1, 3), 0);
        x.drop(0);
        due("BROKEN", x.shot(0, 3), -1);
        due("BROKEN", x.run(0, 0), -1);
        x.undo();
        x.undo();
        due("BODY again", x.shot(2, 3), 1);
    }

    /** "LAW and CARRY are others: 0. -2: there are none such, no ARCHIVE; -5: both are so". */
    private static void rule() {
        for (int n : new int[] {-1, 3, Integer.MIN_VALUE, Integer.MAX_VALUE}) {
            refused("rule of LAW " + n, -2, x -> x.rule(n, 0));
        }
        for (int n : new int[] {-1, 2, Integer.MIN_VALUE, Integer.MAX_VALUE}) {
            refused("rule of CARRY " + n, -2, x -> x.rule(0, n));
        }
        refused("rule as it is", -5, x -> x.rule(2, 1));
        due("rule without an ARCHIVE", new AsOfPages().rule(0, 0), -2);
        due("rule without an ARCHIVE", new AsOfPages().rule(1, 1), -2);
        for (int law = 0; law <= 2; law++) {
            for (int carry = 0; carry <= 1; carry++) {
                AsOfPages x = CHECK.with(SITE);
                boolean same = law == 1 && carry == 0;
                due("rule " + law + " " + carry, x.rule(law, carry), same ? -5 : 0);
                due("LAW", x.count(0), law);
                due("CARRY", x.count(1), carry);
                due("acts", x.count(5), same ? 0 : 1);
                due("again", x.rule(law, carry), -5);
                due("undo", x.undo(), same ? -5 : 0);
                due("LAW again", x.count(0), 1);
                due("CARRY again", x.count(1), 0);
            }
        }
        AsOfPages none = CHECK.with(HEAD);
        due("rule without PAGES", none.rule(0, 1), 0);
        AsOfPages high = CHECK.with("archive law 2 carry 1;page a;");
        high.rule(0, 0);
        high.rule(1, 1);
        high.undo();
        due("LAW and CARRY 0 again", high.count(0) + high.count(1), 0);
        high.undo();
        due("LAW 2 again", high.count(0), 2);
        due("CARRY 1 again", high.count(1), 1);
    }

    // Promises 49 and 50.

    /** "IMAGE k (0 .. 2) keeps the ARCHIVE, acts: 0. -2: no such k, no ARCHIVE". */
    private static void image() {
        for (int k : new int[] {-1, 3, Integer.MIN_VALUE, Integer.MAX_VALUE}) {
            refused("image " + k, -2, x -> x.image(k));
            due("image " + k + " without an ARCHIVE", new AsOfPages().image(k), -2);
        }
        for (int k = 0; k <= 2; k++) {
            due("image without an ARCHIVE", new AsOfPages().image(k), -2);
            AsOfPages x = CHECK.with(SITE);
            due("image " + k, x.image(k), 0);
            for (int other = 0; other <= 2; other++) {
                due("image " + k + ", back " + other, x.back(other), other == k ? 0 : -6);
            }
            x.archive();
            due("image without an ARCHIVE", x.image(k), -2);
            due("as it was kept", x.back(k), 0);
            due("as it was kept, SHOTS", x.count(4), 5);
        }
        AsOfPages none = CHECK.with(HEAD);
        due("image of nothing told", none.image(0), 0);
        none.archive();
        due("back to nothing told", none.back(0), 0);
        due("an ARCHIVE it is", none.unused(), 0);
        due("its LINES", none.count(6), 1);
    }

    /** An image is not an act, keeps what there is, and is not changed by what comes behind it. */
    private static void imagesApart() {
        AsOfPages x = CHECK.with(SITE);
        x.add(0, 0, 3, 0);
        for (int k = 0; k <= 2; k++) {
            due("image " + k, x.image(k), 0);
            due("drop", x.drop(0), 5 - k);
            due("no act by an image", x.count(5), 2 + k);
        }
        int[] left = {6, 5, 4};
        for (int k = 2; k >= 0; k--) {
            due("back " + k, x.back(k), 0);
            due("SHOTS of " + k, x.count(4), left[k]);
            due("acts of " + k, x.count(5), 1 + k);
            x.anew();
            due("anew", x.count(4), 5);
            due("back " + k + " again", x.back(k), 0);
            due("SHOTS of " + k + " again", x.count(4), left[k]);
        }
        due("kept in place of another", x.image(2), 0);
        x.undo();
        due("back 2", x.back(2), 0);
        due("SHOTS of 2", x.count(4), 6);
    }

    /** "They are as IMAGE k has them: 0. -2: no such k; -6: it has nothing". */
    private static void back() {
        for (int k : new int[] {-1, 3, Integer.MIN_VALUE, Integer.MAX_VALUE}) {
            refused("back " + k, -2, x -> x.back(k));
            due("back " + k + " without an ARCHIVE", new AsOfPages().back(k), -2);
        }
        refused("back to nothing", -6, x -> x.back(1));
        for (int k = 0; k <= 2; k++) {
            due("back without an ARCHIVE", new AsOfPages().back(k), -6);
        }
        AsOfPages x = used();
        String told = Check.out(x);
        due("back", x.back(0), 0);
        CHECK.due("OUT is none of it", Check.out(x), told);
        due("the TAPE is none of it", x.count(7), 20);
        due("the FAULT is none of it", Check.load(x, "#"), -4);
        due("back", x.back(2), 0);
        due("the FAULT is none of it", x.fault(0), 1);
        backOverAnother();
        AsOfPages full = withTwentyActs(0);
        full.image(1);
        full.anew();
        due("back to 20 acts", full.back(1), 0);
        due("20 acts", full.count(5), 20);
        due("60 SHOTS", full.count(4), 60);
        due("no more", full.add(1, 300, 3, 0), -5);
        for (int acts = 19; acts >= 0; acts--) {
            due("undo", full.undo(), acts);
        }
        due("no more", full.undo(), -5);
        due("40 SHOTS", full.count(4), 40);
    }

    /** Four acts, and an image of it all. */
    private static AsOfPages withImage() {
        AsOfPages x = CHECK.with(SITE);
        x.drop(2);
        x.rule(2, 1);
        x.add(1, 365, 2, 0);
        x.add(1, 300, 0, 0);
        x.image(1);
        return x;
    }

    /** What an image has is all of it, whatever ARCHIVE there is when one goes back. */
    private static void backOverAnother() {
        String[] others = {"archive law 0 carry 0;page z;gone z at 1;gone z at 365;", HEAD, "",
            "archive law 2 carry 0;page b;page a;page d;page e;body z weight 9;body y weight 9;body x weight 8 part a;"
            + "gone a at 1;gone b at 2;gone d at 3;gone e at 4;gone e at 5;shot e at 6 is y;"};
        String kept = Check.look(withImage());
        for (String other : others) {
            AsOfPages x = withImage();
            Check.load(x, other);
            Check.look(x);
            due("back from another look", x.back(1), 0);
            CHECK.due("all as kept", Check.look(x), kept);
            AsOfPages y = withImage();
            Check.load(y, other);
            y.drop(0);
            y.drop(0);
            due("back from other acts", y.back(1), 0);
            CHECK.due("all as kept", Check.look(y), kept);
            due("undo", y.undo(), 3);
            due("undo", y.undo(), 2);
            due("SHOTS", y.count(4), 4);
            due("undo", y.undo(), 1);
            due("LAW", y.count(0), 1);
            due("undo", y.undo(), 0);
            CHECK.due("all as told", Check.look(y), Check.look(CHECK.with(SITE)));
        }
    }

    /** LAW, CARRY, PAGES, BODIES, SHOTS, acts, LINES, PARTS, LINKS: each a number of its own, kept as such. */
    private static void backToEachNumber() {
        AsOfPages x = CHECK.with("archive law 2 carry 1;page a;page b;page c;page d;page e;body k weight 9 part a part b link c;"
            + "body l weight 8 link d link e link a;body m weight 7 part e;gone a at 1;gone b at 2;gone c at 3;gone d at 4;"
            + "gone e at 5;gone a at 6;gone a at 7;gone a at 8;gone a at 9;");
        x.drop(0);
        x.rule(0, 1);
        x.rule(2, 1);
        x.drop(7);
        int[] counts = {2, 1, 5, 3, 7, 4, 18};
        due("image", x.image(2), 0);
        String kept = Check.look(x);
        due("another", Check.load(x, HEAD + "page z;"), 2);
        due("back", x.back(2), 0);
        for (int what = 0; what < counts.length; what++) {
            due("count(" + what + ")", x.count(what), counts[what]);
        }
        CHECK.due("all as kept", Check.look(x), kept);
    }

    // Promises 51 and 52.

    /** "The latest act is taken back: how many there are. -2: there is no ARCHIVE; -5: there is none". */
    private static void undo() {
        due("undo without an ARCHIVE", new AsOfPages().undo(), -2);
        AsOfPages x = CHECK.with(SITE);
        String told = Check.look(x);
        due("undo of none", x.undo(), -5);
        CHECK.due("all behind undo of none", Check.look(x), told);
        Call[] acts = {y -> y.drop(0), y -> y.drop(3), y -> y.add(0, 10, 3, 0), y -> y.add(2, 365, 0, 1),
            y -> y.rule(0, 0), y -> y.rule(0, 1), y -> y.add(1, 0, 2, 2)};
        String[] looks = new String[acts.length];
        AsOfPages z = CHECK.with(SITE);
        for (int i = 0; i < acts.length; i++) {
            looks[i] = shortLook(z);
            acts[i].on(z);
        }
        for (int i = acts.length - 1; i >= 0; i--) {
            due("undo", z.undo(), i);
            CHECK.due("as ahead of act " + i, shortLook(z), looks[i]);
        }
        due("undo of no more", z.undo(), -5);
        CHECK.due("all as told", Check.look(z), told);
        z.archive();
        due("undo behind an empty archive()", z.undo(), -2);
        AsOfPages twenty = withTwentyActs(1);
        for (int acts20 = 19; acts20 >= 0; acts20--) {
            due("undo of 20", twenty.undo(), acts20);
            due("the first SHOT", twenty.shot(0, 1), acts20);
        }
        due("undo of no more", twenty.undo(), -5);
    }

    /** Each act alone, looked at ahead of it, behind it, and taken back. */
    private static void undoOfOne() {
        String told = Check.look(CHECK.with(SITE));
        Call[] acts = {y -> y.drop(0), y -> y.drop(4), y -> y.add(0, 0, 3, 0), y -> y.add(2, 365, 0, 1),
            y -> y.rule(1, 1), y -> y.rule(2, 0), y -> y.add(1, 0, 2, 2), y -> y.add(1, 31, 1, 0)};
        for (int i = 0; i < acts.length; i++) {
            AsOfPages x = CHECK.with(SITE);
            CHECK.due("ahead of act " + i, Check.look(x), told);
            acts[i].on(x);
            due("act " + i + " is one", x.count(5), 1);
            due("as ahead of act " + i, Check.look(x).equals(told) ? 1 : 0, 0);
            due("undo of act " + i, x.undo(), 0);
            CHECK.due("act " + i + " taken back", Check.look(x), told);
        }
    }

    /** A SHOT that was added is dropped, and one ahead of it: each act is taken back as what it was. */
    private static void undoOfDroppedAdds() {
        AsOfPages x = CHECK.with(SITE);
        String told = Check.look(x);
        due("add", x.add(1, 365, 2, 2), 5);
        due("drop of the added one", x.drop(5), 5);
        due("there is none such", x.shot(5, 0), -2);
        due("undo", x.undo(), 1);
        due("its DAY", x.shot(5, 1), 365);
        due("its kind", x.shot(5, 2), 2);
        due("the PAGE to which it moves", x.shot(5, 4), 2);
        due("drop ahead of it", x.drop(0), 5);
        due("one less", x.shot(4, 1), 365);
        due("add again", x.add(0, 10, 3, 0), 5);
        due("drop of the first added one", x.drop(4), 5);
        due("the second is one less", x.shot(4, 1), 10);
        due("anew", x.anew(), 4);
        AsOfPages y = CHECK.with(SITE);
        CHECK.due("all as told", Check.look(y), told);
        y.add(1, 365, 2, 2);
        y.drop(0);
        y.add(0, 10, 3, 0);
        y.drop(4);
        due("all taken back", y.anew(), 4);
        CHECK.due("all as told again", Check.look(y), told);
    }

    /** With more SHOTS than LINES: what is taken back is the very one, at its very place. */
    private static void undoAmongMany() {
        AsOfPages x = CHECK.with(goneDays(40));
        for (int i = 0; i < 15; i++) {
            x.add(1, i, 3, 0);
        }
        String many = shortLook(x);
        due("drop of the first", x.drop(0), 54);
        due("drop of the last", x.drop(53), 53);
        due("drop in between", x.drop(45), 52);
        due("add", x.add(1, 365, 1, 0), 52);
        due("undo", x.undo(), 18);
        due("the last", x.shot(51, 1), 13);
        due("undo", x.undo(), 17);
        due("in between", x.shot(45, 1), 6);
        due("undo", x.undo(), 16);
        due("undo", x.undo(), 15);
        CHECK.due("all 55 as they were", shortLook(x), many);
        due("undo of an add", x.undo(), 14);
        due("the last is gone", x.shot(54, 0), -2);
        due("the one ahead is not", x.shot(53, 1), 13);
        due("one of the told is not", x.shot(39, 1), 39);
    }

    /** An ARCHIVE without PAGES has acts, too: those of rule. */
    private static void undoWithoutPages() {
        AsOfPages x = CHECK.with(HEAD);
        due("rule", x.rule(2, 1), 0);
        due("undo", x.undo(), 0);
        due("LAW and CARRY as told", x.count(0) + x.count(1), 0);
        due("rule", x.rule(1, 0), 0);
        due("rule", x.rule(1, 1), 0);
        due("anew", x.anew(), 2);
        due("LAW and CARRY as told", x.count(0) + x.count(1), 0);
        due("undo of none", x.undo(), -5);
    }

    /** "All are: how many there were. -2 likewise". */
    private static void anew() {
        due("anew without an ARCHIVE", new AsOfPages().anew(), -2);
        AsOfPages x = CHECK.with(SITE);
        String told = Check.look(x);
        due("anew of none", x.anew(), 0);
        CHECK.due("all behind anew of none", Check.look(x), told);
        x.drop(2);
        due("one less", Check.look(x).equals(told) ? 1 : 0, 0);
        due("anew of one", x.anew(), 1);
        CHECK.due("all behind anew of one", Check.look(x), told);
        due("no act", x.undo(), -5);
        for (int kind = 0; kind <= 2; kind++) {
            AsOfPages y = withTwentyActs(kind);
            due("anew of 20", y.anew(), 20);
            CHECK.due("all as told", shortLook(y), shortLook(CHECK.with(goneDays(40))));
        }
        x.archive();
        due("anew behind an empty archive()", x.anew(), -2);
    }

    /** An undo is no act, but one less: 20 acts may come again and again. */
    private static void actsAgain() {
        AsOfPages x = CHECK.with(SITE);
        for (int i = 0; i < 50; i++) {
            due("add", x.add(0, 100, 3, 0), 5);
            due("undo", x.undo(), 0);
        }
        due("SHOTS", x.count(4), 5);
        for (int i = 0; i < 20; i++) {
            due("rule", x.rule(0, 1 - i % 2), 0);
        }
        due("rule", x.rule(2, 1), -5);
        due("anew", x.anew(), 20);
        due("rule", x.rule(2, 1), 0);
    }

    public static void main(String[] args) {
        addWithinBounds();
        ofNoMatter();
        addOfNoneSuch();
        addOnThatDay();
        sixtyShots();
        twentyActs();
        drop();
        dropAheadOfSame();
        rule();
        image();
        imagesApart();
        back();
        backToEachNumber();
        undo();
        undoOfOne();
        undoOfDroppedAdds();
        undoAmongMany();
        undoWithoutPages();
        anew();
        actsAgain();
        CHECK.finish();
    }
}
