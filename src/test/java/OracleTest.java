import java.lang.reflect.InvocationTargetException;
import java.lang.reflect.Method;
import java.lang.reflect.Modifier;
import java.util.ArrayList;
import java.util.Comparator;
import java.util.List;
import java.util.Random;

/** Long runs of calls, always the same ones, on the class and on the Oracle: all answers are to be equal. */
public final class OracleTest {
    private static final Check CHECK = new Check();
    private static final List<Method> CALLS = new ArrayList<>();
    /** What later calls of an object answer is free. */
    private static final int MOST_CALLS = 512;
    private static final String[] WORDS = {"archive", "law", "carry", "page", "body", "weight", "part", "link", "shot",
        "at", "is", "same", "move", "to", "gone", "pa", "ba", "zz", "sevenxx", "0", "1", "2", "365", "366", "999",
        "1000", ";", ";", "\n", "#", "A"};

    private final Random random;
    private final AsOfPages x = new AsOfPages();
    private final Oracle oracle = new Oracle();
    private final StringBuilder log = new StringBuilder();
    private final boolean crowded;
    /** Parts of parts on other days, long ways of links: views that are impossible are rare without. */
    private final boolean tangled;
    private final int calendar;
    private int calls;

    private OracleTest(int seed) {
        random = new Random(seed);
        tangled = seed % 4 == 2;
        crowded = seed % 4 == 0 || tangled;
        calendar = seed % 3 == 0 ? 365 : seed % 3 == 1 ? 20 : 60;
    }

    private int below(int n) {
        return random.nextInt(n);
    }

    private boolean oneIn(int n) {
        return below(n) == 0;
    }

    // Texts.

    private String text() {
        int pages = crowded ? 5 + below(4) : 1 + below(5);
        int bodies = crowded ? 4 + below(7) : 1 + below(5);
        int carry = tangled && !oneIn(5) ? 1 : below(2);
        StringBuilder text = new StringBuilder("archive law " + below(3) + " carry " + carry + ";");
        for (int p = 0; p < pages; p++) {
            text.append("page ").append(page(p)).append(';');
        }
        for (int b = 0; b < bodies; b++) {
            text.append("body ").append((char) ('k' + b)).append(" weight ").append(1 + below(3));
            for (int i = tangled ? 1 + below(2) : below(crowded ? 5 : 4); i > 0; i--) {
                text.append(" part ").append(page(below(pages)));
            }
            for (int i = tangled ? 1 : below(4); i > 0; i--) {
                text.append(" link ").append(page(tangled ? (b + 1) % pages : below(pages)));
            }
            text.append(';');
        }
        shots(text, pages, bodies);
        return text.toString();
    }

    private static char page(int p) {
        return (char) ('a' + p);
    }

    private void shots(StringBuilder text, int pages, int bodies) {
        boolean[] taken = new boolean[8 * 366];
        for (int i = tangled ? 40 : below(crowded ? 41 : 21); i > 0 && text.length() < 1180; i--) {
            int p = below(pages);
            int day = below(calendar + 1);
            if (taken[p * 366 + day]) {
                continue;
            }
            taken[p * 366 + day] = true;
            int kind = (tangled ? "0000000122" : "0000011223").charAt(below(10)) - '0';
            text.append("shot,same,move,gone".split(",")[kind]).append(' ').append(page(p)).append(" at ").append(day);
            if (kind == 0) {
                text.append(" is ").append((char) ('k' + below(bodies)));
            } else if (kind == 2) {
                text.append(" to ").append(page(below(pages)));
            }
            text.append(';');
        }
    }

    private String spoiled(String text) {
        int at = below(text.length());
        String piece = WORDS[below(WORDS.length)];
        switch (below(4)) {
            case 0: return text.substring(0, at);
            case 1: return text.substring(0, at) + piece + text.substring(at);
            case 2: return text.substring(0, at) + " " + piece + " " + text.substring(at + below(text.length() - at) / 30);
            default: return text.substring(0, at) + text.substring(at + 1);
        }
    }

    private void load() {
        String text = text();
        while (text.length() > 1200) {
            text = text();
        }
        String fed = oneIn(3) ? spoiled(text) : text;
        fed = fed.length() > 1200 ? fed.substring(0, 1200) : fed;
        log.append("  text ").append(fed).append('\n');
        for (int at = 0; at < fed.length(); at += 20) {
            int[] five = new int[5];
            for (int i = 0; i < 5; i++) {
                five[i] = Check.four(fed, at + 4 * i);
            }
            call("feed", five);
        }
        call("end", fed.length());
        call("archive");
        call("fault", 0);
        call("fault", 1);
    }

    // Calls.

    private void call(String name, int... numbers) {
        for (Method m : CALLS) {
            if (m.getName().equals(name)) {
                compare(m, numbers);
            }
        }
    }

    private void compare(Method m, int[] numbers) {
        if (calls == MOST_CALLS) {
            return;
        }
        calls++;
        Object[] args = new Object[numbers.length];
        StringBuilder call = new StringBuilder(m.getName()).append('(');
        for (int i = 0; i < numbers.length; i++) {
            args[i] = numbers[i];
            call.append(i == 0 ? "" : ", ").append(numbers[i]);
        }
        call.append(')');
        log.append("  ").append(call).append('\n');
        try {
            long got = ((Number) m.invoke(x, args)).longValue();
            long want = ((Number) Oracle.class.getMethod(m.getName(), m.getParameterTypes()).invoke(oracle, args))
                .longValue();
            if (got != want && CHECK.isClean()) {
                System.out.print(log);
            }
            CHECK.due(call.toString(), got, want);
        } catch (InvocationTargetException e) {
            CHECK.wrong(call + " threw " + e.getCause());
        } catch (ReflectiveOperationException e) {
            CHECK.wrong(call + ": " + e);
        }
    }

    private int wild() {
        int[] wilds = {-1, -2, 5, 7, 8, 60, 366, Integer.MAX_VALUE, Integer.MIN_VALUE, 1 << 16, 31, 32};
        return wilds[below(wilds.length)];
    }

    private int some(int bound) {
        return oneIn(25) ? wild() : below(Math.max(1, bound));
    }

    private int somePage() {
        return some(oracle.count(2));
    }

    private int someDay() {
        return some(oneIn(5) ? 366 : calendar + 10);
    }

    private void query(Method m) {
        switch (m.getName()) {
            case "shot", "run" -> compare(m, new int[] {some(oracle.count(4)), some(5)});
            case "body" -> compare(m, new int[] {some(oracle.count(3)), oneIn(2) ? some(5) : 10 + below(15)});
            case "shots", "changes", "runs", "bestDay", "blank" -> compare(m, new int[] {somePage()});
            case "byDay", "change" -> compare(m, new int[] {somePage(), some(8)});
            case "days", "firstDay" -> compare(m, new int[] {somePage(), some(3)});
            case "follow" -> compare(m, new int[] {somePage(), someDay(), some(3)});
            case "common" -> compare(m, new int[] {somePage(), someDay(), some(4)});
            case "followed" -> compare(m, new int[] {somePage(), someDay(), some(4)});
            case "element" -> compare(m, new int[] {somePage(), someDay(), some(12), some(6)});
            case "click" -> compare(m, new int[] {somePage(), someDay(), some(3), some(2)});
            case "reach" -> compare(m, new int[] {somePage(), someDay(), some(7)});
            case "clicks" -> compare(m, new int[] {somePage(), someDay(), somePage()});
            case "both" -> compare(m, new int[] {somePage(), somePage(), someDay()});
            case "bothOn" -> compare(m, new int[] {somePage(), somePage(), some(3)});
            case "by" -> compare(m, new int[] {somePage(), someDay(), some(3), some(2)});
            case "stored", "fault" -> compare(m, new int[] {some(2)});
            case "count" -> compare(m, new int[] {some(9)});
            case "dead" -> compare(m, new int[] {someDay()});
            case "octet" -> compare(m, new int[] {some(40)});
            case "unused", "spare" -> compare(m, new int[0]);
            default -> {
                if (m.getParameterCount() == 2) {
                    compare(m, new int[] {somePage(), someDay()});
                }
            }
        }
    }

    private void act() {
        switch (below(12)) {
            case 0, 1, 2, 3, 4 -> call("add", somePage(), some(calendar + 1), some(4), some(oracle.count(3)));
            case 5, 6 -> call("drop", some(oracle.count(4)));
            case 7 -> call("rule", some(3), some(2));
            case 8 -> call("undo");
            case 9 -> call("image", some(3));
            case 10 -> call("back", some(3));
            default -> {
                if (oneIn(4)) {
                    call("anew");
                }
            }
        }
    }

    private void wholeView() {
        int page = somePage();
        int day = someDay();
        call("tell", page, day);
        for (int i = 0; oracle.octet(i) >= 0; i++) {
            call("octet", i);
        }
    }

    /** Of each page a day on which its view is impossible, and the ways of links from it. */
    private void tangles() {
        for (int page = 0; page < oracle.count(2); page++) {
            int day = oracle.firstDay(page, 0);
            if (day >= 0) {
                for (String name : List.of("judged", "clash", "culprit", "spread", "farthest", "drift", "tell")) {
                    call(name, page, day);
                }
            }
            call("clicks", page, below(calendar + 1), below(oracle.count(2)));
            call("reach", page, below(calendar + 1), below(7));
        }
    }

    private void run() {
        while (calls < MOST_CALLS) {
            load();
            for (int i = 1 + below(5); i > 0; i--) {
                if (tangled) {
                    tangles();
                }
                if (oneIn(3)) {
                    wholeView();
                }
                for (int k = below(oneIn(5) ? 30 : 6); k > 0; k--) {
                    act();
                }
                for (Method m : CALLS) {
                    if (!"spare".equals(m.getName()) || oneIn(12)) {
                        query(m);
                    }
                }
            }
        }
    }

    public static void main(String[] args) {
        List<Method> all = new ArrayList<>();
        for (Method m : AsOfPages.class.getDeclaredMethods()) {
            if (Modifier.isPublic(m.getModifiers())) {
                all.add(m);
            }
        }
        all.sort(Comparator.comparing(Method::getName));
        CALLS.addAll(all);
        int runs = args.length == 1 ? Integer.parseInt(args[0]) : 400;
        for (int seed = 1; seed <= runs && CHECK.isClean(); seed++) {
            new OracleTest(seed).run();
        }
        CHECK.finish();
    }
}
