import java.util.ArrayList;
import java.util.BitSet;
import java.util.List;
import java.util.TreeMap;
import java.util.function.IntPredicate;

/**
 * The document once more, in the slowest and most literal way: sets of days, lists, whole copies, every day
 * looked at. OracleTest compares the class with it.
 */
public final class Oracle {
    private record Body(int weight, List<Integer> parts, List<Integer> links) { }

    private record Shot(int page, int day, int kind, int of) { }

    /** What an image keeps; never changed once made. */
    private record State(int law, int carry, int lines, int pages, List<Body> bodies, List<Shot> shots) { }

    private record Followed(List<Shot> over, int state) {
        Shot last() {
            return state <= 2 ? over.get(over.size() - 1) : null;
        }
    }

    private record Element(int page, Followed followed, int state, int depth, int inside) {
        Shot last() {
            return followed == null ? null : followed.last();
        }
    }

    private static final State NOTHING = new State(0, 0, 0, 0, List.of(), List.of());

    private StringBuilder tape = new StringBuilder();
    private String out = "";
    private int faultKind = 0;
    private int faultPlace = -1;
    private State now = NOTHING;
    private List<State> before = new ArrayList<>();
    private final List<List<State>> images = new ArrayList<>(List.of(List.of(), List.of(), List.of()));

    public int feed(int a, int b, int c, int d, int e) {
        if (tape.length() > 1180) {
            return -1;
        }
        for (int number : new int[] {a, b, c, d, e}) {
            for (int i = 3; i >= 0; i--) {
                tape.append((char) (number >>> 8 * i & 255));
            }
        }
        return tape.length();
    }

    public int end(int n) {
        if (n < 0 || n > tape.length()) {
            return -1;
        }
        tape.setLength(n);
        return n;
    }

    // The text: a list of tokens, read by a grammar that stops at the first fault.

    private static final class Fault extends Exception {
        private static final long serialVersionUID = 1L;
        final int kind;
        final int place;

        Fault(int kind, int place) {
            super(null, null, false, false);
            this.kind = kind;
            this.place = place;
        }
    }

    private record Token(String text, int place) {
        boolean isWord() {
            return text.matches("[a-z]+");
        }

        boolean isNumber() {
            return text.matches("[0-9]+");
        }
    }

    private static List<Token> tokens(String text) {
        List<Token> tokens = new ArrayList<>();
        java.util.regex.Matcher m = java.util.regex.Pattern.compile("[a-z]+|[0-9]+|[^ \n]").matcher(text);
        while (m.find()) {
            tokens.add(new Token(m.group(), m.start()));
        }
        tokens.add(new Token("", text.length()));
        return tokens;
    }

    private static final class Grammar {
        private final List<Token> tokens;
        private int at = 0;
        int law;
        int carry;
        int lines;
        final List<String> pages = new ArrayList<>();
        final List<String> names = new ArrayList<>();
        final List<Body> bodies = new ArrayList<>();
        final List<Shot> shots = new ArrayList<>();

        Grammar(String text) {
            tokens = tokens(text);
        }

        private Token take() {
            return tokens.get(at++);
        }

        private boolean isNext(String text) {
            return tokens.get(at).text().equals(text);
        }

        private void expect(String text) throws Fault {
            Token t = take();
            if (!t.text().equals(text)) {
                throw new Fault(1, t.place());
            }
        }

        private int number(int from, int to) throws Fault {
            Token t = take();
            if (!t.isNumber()) {
                throw new Fault(1, t.place());
            }
            java.math.BigInteger n = new java.math.BigInteger(t.text());
            if (n.compareTo(java.math.BigInteger.valueOf(from)) < 0
                || n.compareTo(java.math.BigInteger.valueOf(to)) > 0) {
                throw new Fault(2, t.place());
            }
            return n.intValue();
        }

        private String newName() throws Fault {
            Token t = take();
            if (!t.isWord()) {
                throw new Fault(1, t.place());
            }
            boolean reserved = List.of("archive", "page", "body", "shot", "same", "move", "gone", "part", "link")
                .contains(t.text());
            if (reserved || t.text().length() > 6 || pages.contains(t.text()) || names.contains(t.text())) {
                throw new Fault(2, t.place());
            }
            return t.text();
        }

        private int oldName(List<String> among) throws Fault {
            Token t = take();
            if (!t.isWord()) {
                throw new Fault(1, t.place());
            }
            if (!among.contains(t.text())) {
                throw new Fault(2, t.place());
            }
            return among.indexOf(t.text());
        }

        private List<Integer> refs(String word) throws Fault {
            List<Integer> refs = new ArrayList<>();
            while (isNext(word)) {
                Token t = take();
                if (refs.size() == 4) {
                    throw new Fault(3, t.place());
                }
                refs.add(oldName(pages));
            }
            return refs;
        }

        void text() throws Fault {
            if (isNext("")) {
                return;
            }
            expect("archive");
            expect("law");
            law = number(0, 2);
            expect("carry");
            carry = number(0, 1);
            expect(";");
            lines = 1;
            while (!isNext("")) {
                line(take());
                expect(";");
                lines++;
            }
        }

        private void line(Token word) throws Fault {
            int kind = List.of("shot", "same", "move", "gone").indexOf(word.text());
            if (word.text().equals("page")) {
                if (pages.size() == 8) {
                    throw new Fault(3, word.place());
                }
                pages.add(newName());
            } else if (word.text().equals("body")) {
                if (bodies.size() == 10) {
                    throw new Fault(3, word.place());
                }
                names.add(newName());
                expect("weight");
                int weight = number(1, 999);
                List<Integer> parts = refs("part");
                bodies.add(new Body(weight, parts, refs("link")));
            } else if (kind >= 0) {
                shotLine(word, kind);
            } else {
                throw new Fault(1, word.place());
            }
        }

        private void shotLine(Token word, int kind) throws Fault {
            if (shots.size() == 40) {
                throw new Fault(3, word.place());
            }
            int page = oldName(pages);
            expect("at");
            int place = tokens.get(at).place();
            int day = number(0, 365);
            if (shots.stream().anyMatch(s -> s.page() == page && s.day() == day)) {
                throw new Fault(2, place);
            }
            int of = -1;
            if (kind == 0) {
                expect("is");
                of = oldName(names);
            } else if (kind == 2) {
                expect("to");
                of = oldName(pages);
            }
            shots.add(new Shot(page, day, kind, of));
        }
    }

    public int archive() {
        Grammar g = new Grammar(tape.toString());
        tape = new StringBuilder();
        try {
            g.text();
        } catch (Fault f) {
            faultKind = f.kind;
            faultPlace = f.place;
            return -4;
        }
        faultKind = 0;
        faultPlace = -1;
        now = new State(g.law, g.carry, g.lines, g.pages.size(), g.bodies, g.shots);
        before = new ArrayList<>();
        return g.lines;
    }

    public int fault(int what) {
        return what == 0 ? faultKind : what == 1 ? faultPlace : -1;
    }

    public int count(int what) {
        int[] counts = {now.law(), now.carry(), now.pages(), now.bodies().size(), now.shots().size(), before.size(),
            now.lines(), tape.length(), out.length()};
        return what >= 0 && what < counts.length ? counts[what] : -1;
    }

    // Terms.

    private static boolean in(int n, int size) {
        return n >= 0 && n < size;
    }

    private boolean page(int page) {
        return in(page, now.pages());
    }

    private static boolean day(int day) {
        return in(day, 366);
    }

    private static List<Shot> ofPage(State st, int page) {
        TreeMap<Integer, Shot> byDay = new TreeMap<>();
        for (Shot s : st.shots()) {
            if (s.page() == page) {
                byDay.put(s.day(), s);
            }
        }
        return new ArrayList<>(byDay.values());
    }

    private static int bodyNumber(State st, Shot shot) {
        if (shot == null) {
            return -1;
        }
        if (shot.kind() == 0) {
            return shot.of();
        }
        if (shot.kind() != 1) {
            return -1;
        }
        Shot latest = null;
        for (Shot s : ofPage(st, shot.page())) {
            if (s.day() < shot.day() && s.kind() != 1) {
                latest = s;
            }
        }
        return latest != null && latest.kind() == 0 ? latest.of() : -1;
    }

    private static Body bodyOf(State st, Shot shot) {
        int number = bodyNumber(st, shot);
        return number < 0 ? null : st.bodies().get(number);
    }

    private static Shot nearestOf(State st, int page, int day) {
        Shot best = null;
        for (Shot s : ofPage(st, page)) {
            if (best == null) {
                best = s;
            } else if (st.law() == 2) {
                best = s.day() <= day ? s : best;
            } else {
                int off = Math.abs(s.day() - day);
                int bestOff = Math.abs(best.day() - day);
                best = off < bestOff || off == bestOff && st.law() == 1 ? s : best;
            }
        }
        return best;
    }

    private static Followed followFrom(State st, int page, int day) {
        List<Shot> over = new ArrayList<>();
        List<Integer> pages = new ArrayList<>();
        int here = page;
        int from = day;
        while (true) {
            if (pages.contains(here)) {
                return new Followed(over, 4);
            }
            pages.add(here);
            Shot s = nearestOf(st, here, from);
            if (s == null) {
                return new Followed(over, 3);
            }
            over.add(s);
            if (s.kind() == 3) {
                return new Followed(over, 1);
            }
            if (s.kind() != 2) {
                return new Followed(over, bodyOf(st, s) != null ? 0 : 2);
            }
            here = s.of();
            from = st.carry() == 0 ? day : s.day();
        }
    }

    private static List<Element> viewOf(State st, int page, int day) {
        List<Element> elements = new ArrayList<>();
        grow(st, elements, page, day, day, 0, -1);
        return elements;
    }

    private static void grow(State st, List<Element> all, int page, int day, int from, int depth, int inside) {
        for (int i = inside; i >= 0; i = all.get(i).inside()) {
            if (all.get(i).page() == page) {
                all.add(new Element(page, null, 5, depth, inside));
                return;
            }
        }
        Followed f = followFrom(st, page, from);
        int me = all.size();
        all.add(new Element(page, f, f.state(), depth, inside));
        if (f.state() == 0 && depth < 3) {
            for (int part : bodyOf(st, f.last()).parts()) {
                grow(st, all, part, day, st.carry() == 0 ? day : f.last().day(), depth + 1, me);
            }
        }
    }

    private static boolean alike(State st, Shot a, Shot b) {
        if (a.kind() >= 2 || b.kind() >= 2) {
            return a.kind() == b.kind() && (a.kind() == 3 || a.of() == b.of());
        }
        return bodyOf(st, a) != null && bodyOf(st, a).equals(bodyOf(st, b));
    }

    private static boolean broken(State st, Shot s) {
        return s.kind() == 1 && bodyOf(st, s) == null;
    }

    private static List<Shot> runOf(State st, Shot shot) {
        List<Shot> all = ofPage(st, shot.page());
        int first = all.indexOf(shot);
        int last = first;
        while (!broken(st, shot) && first > 0 && alike(st, all.get(first - 1), shot)) {
            first--;
        }
        while (!broken(st, shot) && last + 1 < all.size() && alike(st, all.get(last + 1), shot)) {
            last++;
        }
        return all.subList(first, last + 1);
    }

    private static int[] spans(State st, Shot shot) {
        List<Shot> all = ofPage(st, shot.page());
        List<Shot> run = runOf(st, shot);
        Shot first = run.get(0);
        Shot last = run.get(run.size() - 1);
        int ahead = all.indexOf(first) - 1;
        int behind = all.indexOf(last) + 1;
        return new int[] {first.day(), last.day(), ahead < 0 ? 0 : all.get(ahead).day() + 1,
            behind == all.size() ? 365 : all.get(behind).day() - 1, run.size()};
    }

    private static List<BitSet> spansOf(State st, Element e, boolean sure) {
        List<BitSet> found = new ArrayList<>();
        if (e.state() > 1) {
            return found;
        }
        for (Shot s : e.followed().over()) {
            int[] spans = spans(st, s);
            BitSet set = new BitSet();
            set.set(spans[sure ? 0 : 2], spans[sure ? 1 : 3] + 1);
            found.add(set);
        }
        return found;
    }

    private static BitSet inAll(State st, List<Element> elements, boolean sure) {
        BitSet set = new BitSet();
        set.set(0, 366);
        for (Element e : elements) {
            for (BitSet span : spansOf(st, e, sure)) {
                set.and(span);
            }
        }
        return set;
    }

    private static int judge(State st, List<Element> elements) {
        if (!inAll(st, elements, true).isEmpty()) {
            return 2;
        }
        return inAll(st, elements, false).isEmpty() ? 0 : 1;
    }

    // Calls.

    public int shot(int shot, int what) {
        if (!in(shot, now.shots().size()) || !in(what, 5)) {
            return -2;
        }
        Shot s = now.shots().get(shot);
        return new int[] {s.page(), s.day(), s.kind(), bodyNumber(now, s), s.kind() == 2 ? s.of() : -1}[what];
    }

    public int body(int body, int what) {
        if (!in(body, now.bodies().size())) {
            return -2;
        }
        Body b = now.bodies().get(body);
        if (in(what, 4)) {
            return new int[] {b.weight(), b.parts().size(), b.links().size(), now.bodies().indexOf(b)}[what];
        }
        if (in(what - 10, 4)) {
            return what - 10 < b.parts().size() ? b.parts().get(what - 10) : -1;
        }
        if (in(what - 20, 4)) {
            return what - 20 < b.links().size() ? b.links().get(what - 20) : -1;
        }
        return -2;
    }

    private int number(Shot s) {
        return s == null ? -1 : now.shots().indexOf(s);
    }

    public int shots(int page) {
        return page(page) ? ofPage(now, page).size() : -2;
    }

    public int byDay(int page, int k) {
        if (!page(page) || k < 0) {
            return -2;
        }
        List<Shot> all = ofPage(now, page);
        return k < all.size() ? number(all.get(k)) : -1;
    }

    public int nearest(int page, int day) {
        return page(page) && day(day) ? number(nearestOf(now, page, day)) : -2;
    }

    public int follow(int page, int day, int what) {
        if (!page(page) || !day(day) || !in(what, 3)) {
            return -2;
        }
        Followed f = followFrom(now, page, day);
        return what == 0 ? number(f.last()) : what == 1 ? f.over().size() : f.state();
    }

    public int followed(int page, int day, int i) {
        if (!page(page) || !day(day) || i < 0) {
            return -2;
        }
        Followed f = followFrom(now, page, day);
        return i < f.over().size() ? number(f.over().get(i)) : -1;
    }

    public int view(int page, int day) {
        return page(page) && day(day) ? viewOf(now, page, day).size() : -2;
    }

    public int element(int page, int day, int i, int what) {
        if (!page(page) || !day(day) || i < 0 || !in(what, 6)) {
            return -2;
        }
        List<Element> all = viewOf(now, page, day);
        if (i >= all.size()) {
            return -1;
        }
        Element e = all.get(i);
        Body b = bodyOf(now, e.last());
        return new int[] {e.page(), number(e.last()), e.state(), e.depth(), e.inside(), b == null ? 0 : b.weight()}[what];
    }

    private boolean isWhole(List<Element> all) {
        return all.stream().allMatch(e -> e.state() == 0 || e.state() == 5);
    }

    public int whole(int page, int day) {
        return !page(page) || !day(day) ? -2 : isWhole(viewOf(now, page, day)) ? 1 : 0;
    }

    public int judged(int page, int day) {
        return page(page) && day(day) ? judge(now, viewOf(now, page, day)) : -2;
    }

    public int common(int page, int day, int what) {
        if (!page(page) || !day(day) || !in(what, 4)) {
            return -2;
        }
        BitSet set = inAll(now, viewOf(now, page, day), what < 2);
        return set.isEmpty() ? -1 : what % 2 == 0 ? set.nextSetBit(0) : set.length() - 1;
    }

    public int clash(int page, int day) {
        if (!page(page) || !day(day)) {
            return -2;
        }
        List<Element> all = viewOf(now, page, day);
        for (int i = 0; i < all.size(); i++) {
            for (int j = i + 1; j < all.size(); j++) {
                for (BitSet a : spansOf(now, all.get(i), false)) {
                    for (BitSet b : spansOf(now, all.get(j), false)) {
                        if (!a.intersects(b)) {
                            return 100 * i + j;
                        }
                    }
                }
            }
        }
        return -1;
    }

    public int culprit(int page, int day) {
        if (!page(page) || !day(day)) {
            return -2;
        }
        List<Element> all = viewOf(now, page, day);
        for (int i = 0; i < all.size() && judge(now, all) == 0; i++) {
            List<Element> rest = new ArrayList<>(all);
            rest.remove(i);
            if (judge(now, rest) != 0) {
                return i;
            }
        }
        return -1;
    }

    private static List<Integer> lastDays(List<Element> all) {
        List<Integer> days = new ArrayList<>();
        for (Element e : all) {
            if (e.last() != null) {
                days.add(e.last().day());
            }
        }
        return days;
    }

    public int spread(int page, int day) {
        if (!page(page) || !day(day)) {
            return -2;
        }
        List<Integer> days = lastDays(viewOf(now, page, day));
        return days.isEmpty() ? -1 : java.util.Collections.max(days) - java.util.Collections.min(days);
    }

    public int farthest(int page, int day) {
        if (!page(page) || !day(day)) {
            return -2;
        }
        List<Element> all = viewOf(now, page, day);
        for (int off = 365; off >= 0; off--) {
            for (Element e : all) {
                if (e.last() != null && Math.abs(e.last().day() - day) == off) {
                    return all.indexOf(e);
                }
            }
        }
        return -1;
    }

    public int heavy(int page, int day) {
        if (!page(page) || !day(day)) {
            return -2;
        }
        java.util.Set<Body> bodies = new java.util.HashSet<>();
        for (Element e : viewOf(now, page, day)) {
            bodies.add(bodyOf(now, e.last()));
        }
        bodies.remove(null);
        return bodies.stream().mapToInt(Body::weight).sum();
    }

    public int run(int shot, int what) {
        if (!in(shot, now.shots().size()) || !in(what, 5)) {
            return -2;
        }
        Shot s = now.shots().get(shot);
        return broken(now, s) ? -1 : spans(now, s)[what];
    }

    private static int firstDayOf(IntPredicate is) {
        for (int day = 0; day <= 365; day++) {
            if (is.test(day)) {
                return day;
            }
        }
        return -1;
    }

    public int days(int page, int judged) {
        if (!page(page) || !in(judged, 3)) {
            return -2;
        }
        int total = 0;
        for (int day = 0; day <= 365; day++) {
            total += judged(page, day) == judged ? 1 : 0;
        }
        return total;
    }

    public int firstDay(int page, int judged) {
        return !page(page) || !in(judged, 3) ? -2 : firstDayOf(day -> judged(page, day) == judged);
    }

    private List<Integer> changeDays(int page) {
        List<Integer> days = new ArrayList<>();
        List<List<Object>> former = null;
        for (int day = 0; day <= 365; day++) {
            List<List<Object>> seen = new ArrayList<>();
            for (Element e : viewOf(now, page, day)) {
                seen.add(List.of(e.page(), number(e.last()), e.state()));
            }
            if (former != null && !seen.equals(former)) {
                days.add(day);
            }
            former = seen;
        }
        return days;
    }

    public int changes(int page) {
        return page(page) ? changeDays(page).size() : -2;
    }

    public int change(int page, int k) {
        if (!page(page) || k < 0) {
            return -2;
        }
        List<Integer> days = changeDays(page);
        return k < days.size() ? days.get(k) : -1;
    }

    public int runs(int page) {
        if (!page(page)) {
            return -2;
        }
        int total = 0;
        for (Shot s : ofPage(now, page)) {
            total += bodyOf(now, s) != null && runOf(now, s).get(0) == s ? 1 : 0;
        }
        return total;
    }

    public int stored(int what) {
        if (now.lines() == 0 || !in(what, 2)) {
            return -2;
        }
        List<Body> bodies = new ArrayList<>();
        for (Shot s : now.shots()) {
            if (bodyOf(now, s) != null) {
                bodies.add(bodyOf(now, s));
            }
        }
        return (what == 0 ? bodies : new java.util.HashSet<>(bodies)).stream().mapToInt(Body::weight).sum();
    }

    public int unused() {
        if (now.lines() == 0) {
            return -2;
        }
        int bits = 0;
        for (int b = 0; b < now.bodies().size(); b++) {
            int number = b;
            bits |= now.shots().stream().noneMatch(s -> bodyNumber(now, s) == number) ? 1 << b : 0;
        }
        return bits;
    }

    public int both(int page, int with, int day) {
        if (!page(page) || !page(with) || !day(day)) {
            return -2;
        }
        List<Element> all = viewOf(now, page, day);
        all.addAll(viewOf(now, with, day));
        return judge(now, all);
    }

    public int bothOn(int page, int with, int judged) {
        return !page(page) || !page(with) || !in(judged, 3) ? -2 : firstDayOf(day -> both(page, with, day) == judged);
    }

    public int drift(int page, int day) {
        return !page(page) || !day(day) ? -2
            : lastDays(viewOf(now, page, day)).stream().mapToInt(d -> Math.abs(d - day)).sum();
    }

    public int bestDay(int page) {
        if (!page(page)) {
            return -2;
        }
        int best = -1;
        for (int day = 0; day <= 365; day++) {
            if (whole(page, day) != 1) {
                continue;
            }
            if (best < 0 || judged(page, day) > judged(page, best)
                || judged(page, day) == judged(page, best) && drift(page, day) < drift(page, best)) {
                best = day;
            }
        }
        return best;
    }

    public int click(int page, int day, int i, int what) {
        if (!page(page) || !day(day) || i < 0 || !in(what, 2)) {
            return -2;
        }
        Followed f = followFrom(now, page, day);
        if (f.state() != 0 || i >= bodyOf(now, f.last()).links().size()) {
            return -1;
        }
        return what == 0 ? bodyOf(now, f.last()).links().get(i) : now.carry() == 0 ? day : f.last().day();
    }

    public int reach(int page, int day, int n) {
        if (!page(page) || !day(day) || !in(n, 7)) {
            return -2;
        }
        java.util.Set<List<Integer>> places = new java.util.HashSet<>();
        places.add(List.of(page, day));
        for (int step = 0; step < n; step++) {
            for (List<Integer> place : new ArrayList<>(places)) {
                for (int i = 0; i < 4; i++) {
                    int to = click(place.get(0), place.get(1), i, 0);
                    if (to >= 0) {
                        places.add(List.of(to, click(place.get(0), place.get(1), i, 1)));
                    }
                }
            }
        }
        int bits = 0;
        for (List<Integer> place : places) {
            bits |= 1 << place.get(0);
        }
        return bits;
    }

    public int clicks(int page, int day, int to) {
        if (!page(page) || !day(day) || !page(to)) {
            return -2;
        }
        for (int n = 0; n <= 6; n++) {
            if ((reach(page, day, n) >> to & 1) == 1) {
                return n;
            }
        }
        return -1;
    }

    public int linking(int page, int day) {
        if (!page(page) || !day(day)) {
            return -2;
        }
        int bits = 0;
        for (int p = 0; p < now.pages(); p++) {
            for (int i = 0; i < 4; i++) {
                bits |= click(p, day, i, 0) == page ? 1 << p : 0;
            }
        }
        return bits;
    }

    public int dead(int day) {
        if (now.lines() == 0 || !day(day)) {
            return -2;
        }
        int bits = 0;
        for (int p = 0; p < now.pages(); p++) {
            for (int i = 0; i < 4; i++) {
                int to = click(p, day, i, 0);
                bits |= to >= 0 && followFrom(now, to, click(p, day, i, 1)).state() != 0 ? 1 << to : 0;
            }
        }
        return bits;
    }

    private static List<Object> outcomes(State st) {
        List<Object> all = new ArrayList<>();
        for (int page = 0; page < st.pages(); page++) {
            for (int day = 0; day <= 365; day++) {
                Followed f = followFrom(st, page, day);
                all.add(f.state() == 0 ? bodyOf(st, f.last()) : (Integer) f.state());
            }
        }
        return all;
    }

    private static State without(State st, int shot) {
        List<Shot> left = new ArrayList<>(st.shots());
        left.remove(shot);
        return new State(st.law(), st.carry(), st.lines(), st.pages(), st.bodies(), left);
    }

    public long spare() {
        if (now.lines() == 0) {
            return -2;
        }
        long bits = 0;
        List<Object> due = outcomes(now);
        for (int s = 0; s < now.shots().size(); s++) {
            bits |= outcomes(without(now, s)).equals(due) ? 1L << s : 0;
        }
        return bits;
    }

    public int blank(int page) {
        if (!page(page)) {
            return -2;
        }
        List<Shot> all = ofPage(now, page);
        for (int off = 365; off > 0 && !all.isEmpty(); off--) {
            for (int day = 0; day <= 365; day++) {
                boolean far = true;
                for (Shot s : all) {
                    far &= Math.abs(s.day() - day) >= off;
                }
                if (far) {
                    return day;
                }
            }
        }
        return -1;
    }

    public int by(int page, int day, int law, int carry) {
        if (!page(page) || !day(day) || !in(law, 3) || !in(carry, 2)) {
            return -2;
        }
        State st = new State(law, carry, now.lines(), now.pages(), now.bodies(), now.shots());
        return judge(st, viewOf(st, page, day));
    }

    private static String told(List<Element> all, int i) {
        Element e = all.get(i);
        StringBuilder text = new StringBuilder("p").append(e.page());
        if (e.state() <= 1) {
            text.append('@').append(e.last().day());
        } else {
            text.append("?-~^".charAt(e.state() - 2));
        }
        text.append(e.state() == 1 ? "!" : "");
        List<String> parts = new ArrayList<>();
        for (int j = 0; j < all.size(); j++) {
            if (all.get(j).inside() == i) {
                parts.add(told(all, j));
            }
        }
        return text + (parts.isEmpty() ? "" : "[" + String.join(" ", parts) + "]");
    }

    public int tell(int page, int day) {
        if (!page(page) || !day(day)) {
            return -2;
        }
        out = told(viewOf(now, page, day), 0);
        return out.length();
    }

    public int octet(int i) {
        return in(i, out.length()) ? out.charAt(i) : -1;
    }

    // Acts: all states ahead of each are kept.

    private void act(State next) {
        before.add(now);
        now = next;
    }

    public int add(int page, int day, int kind, int of) {
        if (!page(page) || !day(day) || !in(kind, 4) || kind == 0 && !in(of, now.bodies().size())
            || kind == 2 && !page(of)) {
            return -2;
        }
        if (now.shots().stream().anyMatch(s -> s.page() == page && s.day() == day) || now.shots().size() == 60
            || before.size() == 20) {
            return -5;
        }
        List<Shot> more = new ArrayList<>(now.shots());
        more.add(new Shot(page, day, kind, kind % 2 == 0 ? of : -1));
        act(new State(now.law(), now.carry(), now.lines(), now.pages(), now.bodies(), more));
        return more.size() - 1;
    }

    public int drop(int shot) {
        if (!in(shot, now.shots().size())) {
            return -2;
        }
        if (before.size() == 20) {
            return -5;
        }
        act(without(now, shot));
        return now.shots().size();
    }

    public int rule(int law, int carry) {
        if (now.lines() == 0 || !in(law, 3) || !in(carry, 2)) {
            return -2;
        }
        if (law == now.law() && carry == now.carry() || before.size() == 20) {
            return -5;
        }
        act(new State(law, carry, now.lines(), now.pages(), now.bodies(), now.shots()));
        return 0;
    }

    public int image(int k) {
        if (!in(k, 3) || now.lines() == 0) {
            return -2;
        }
        List<State> kept = new ArrayList<>(before);
        kept.add(now);
        images.set(k, kept);
        return 0;
    }

    public int back(int k) {
        if (!in(k, 3)) {
            return -2;
        }
        List<State> kept = images.get(k);
        if (kept.isEmpty()) {
            return -6;
        }
        before = new ArrayList<>(kept.subList(0, kept.size() - 1));
        now = kept.get(kept.size() - 1);
        return 0;
    }

    public int undo() {
        if (now.lines() == 0) {
            return -2;
        }
        if (before.isEmpty()) {
            return -5;
        }
        now = before.remove(before.size() - 1);
        return before.size();
    }

    public int anew() {
        if (now.lines() == 0) {
            return -2;
        }
        int were = before.size();
        if (were > 0) {
            now = before.get(0);
            before = new ArrayList<>();
        }
        return were;
    }
}
