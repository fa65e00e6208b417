import java.lang.reflect.InvocationTargetException;
import java.lang.reflect.Method;
import java.lang.reflect.Modifier;

/**
 * Every call of the face with every mix of the least number, -1, 0, and the greatest, on an object with no archive,
 * with a small one, with all that there may be: none throws, each answers as the Oracle does.
 */
public final class ExtremesTest {
    private static final Check CHECK = new Check();
    private static final int[] NUMBERS = {Integer.MIN_VALUE, -1, 0, Integer.MAX_VALUE};
    /** Far below the 512 calls that an object is promised for. */
    private static final int CALLS_OF_ONE = 300;
    private static final String SMALL = "archive law 1 carry 1;page a;body k weight 2 part a link a;shot a at 3 is k;";

    private AsOfPages x;
    private Oracle oracle;
    private int calls;
    private final String text;
    private final int acts;

    private ExtremesTest(String text, int acts) {
        this.text = text;
        this.acts = acts;
    }

    /** 8 PAGES, 10 BODIES, 40 SHOTS. */
    private static String full() {
        StringBuilder told = new StringBuilder("archive law 2 carry 1;");
        for (char p = 'a'; p <= 'h'; p++) {
            told.append("page ").append(p).append(';');
        }
        for (int b = 0; b < 10; b++) {
            told.append("body ").append((char) ('k' + b)).append(" weight 9 part ").append((char) ('a' + b % 8))
                .append(" link ").append((char) ('h' - b % 8)).append(';');
        }
        for (int s = 0; s < 40; s++) {
            told.append("shot ").append((char) ('a' + s % 8)).append(" at ").append(s).append(" is ")
                .append((char) ('k' + s % 10)).append(';');
        }
        return told.toString();
    }

    private void begin() {
        x = new AsOfPages();
        oracle = new Oracle();
        calls = 0;
        for (int at = 0; at < text.length(); at += 20) {
            int[] five = new int[5];
            for (int i = 0; i < 5; i++) {
                five[i] = Check.four(text, at + 4 * i);
            }
            x.feed(five[0], five[1], five[2], five[3], five[4]);
            oracle.feed(five[0], five[1], five[2], five[3], five[4]);
        }
        CHECK.due("archive", x.archive(), oracle.archive());
        CHECK.due("a sound one", x.fault(0), 0);
        for (int i = 0; i < acts; i++) {
            CHECK.due("add", x.add(i % 8, 300 + i, 2, 7 - i % 8), oracle.add(i % 8, 300 + i, 2, 7 - i % 8));
        }
        CHECK.due("acts", x.count(5), acts);
    }

    private void ask(Method m) {
        int mixes = 1;
        for (int i = 0; i < m.getParameterCount(); i++) {
            mixes *= NUMBERS.length;
        }
        begin();
        for (int mix = 0; mix < mixes; mix++) {
            if (calls == CALLS_OF_ONE) {
                begin();
            }
            calls++;
            compare(m, mix);
        }
    }

    private void compare(Method m, int mix) {
        Object[] args = new Object[m.getParameterCount()];
        StringBuilder call = new StringBuilder(m.getName());
        int rest = mix;
        for (int i = 0; i < args.length; i++) {
            args[i] = NUMBERS[rest % NUMBERS.length];
            rest /= NUMBERS.length;
            call.append(' ').append(args[i]);
        }
        try {
            Method due = Oracle.class.getMethod(m.getName(), m.getParameterTypes());
            CHECK.due(call.toString(), ((Number) m.invoke(x, args)).longValue(),
                ((Number) due.invoke(oracle, args)).longValue());
        } catch (InvocationTargetException e) {
            CHECK.wrong(call + " threw " + e.getCause());
        } catch (ReflectiveOperationException e) {
            CHECK.wrong(call + ": " + e);
        }
    }

    private void askAll() {
        for (Method m : AsOfPages.class.getDeclaredMethods()) {
            if (Modifier.isPublic(m.getModifiers())) {
                ask(m);
            }
        }
    }

    public static void main(String[] args) {
        new ExtremesTest("", 0).askAll();
        new ExtremesTest(SMALL, 0).askAll();
        new ExtremesTest(full(), 20).askAll();
        CHECK.finish();
    }
}
