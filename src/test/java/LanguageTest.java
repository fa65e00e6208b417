import java.io.IOException;
import java.lang.reflect.Constructor;
import java.lang.reflect.Field;
import java.lang.reflect.Method;
import java.lang.reflect.Modifier;
import java.nio.charset.StandardCharsets;
import java.nio.file.Files;
import java.nio.file.Path;
import java.util.ArrayList;
import java.util.List;
import java.util.Set;
import java.util.TreeSet;
import java.util.regex.Matcher;
import java.util.regex.Pattern;

/** The rules of LANGUAGE.md that can be seen from the source and the classes; and the document's face. */
public final class LanguageTest {
    private static final Check CHECK = new Check();

    private static void holds(String rule, boolean fine) {
        if (!fine) {
            CHECK.wrong("rule " + rule);
        }
    }

    private static String withoutComments(String source) {
        return source.replaceAll("(?s)/\\*.*?\\*/", "").replaceAll("//[^\n]*", "");
    }

    private static void words(String code) {
        for (String word : "throw throws try catch synchronized assert import package volatile transient var native"
            .split(" ")) {
            holds("6: no " + word, !Pattern.compile("\\b" + word + "\\b").matcher(code).find());
        }
        holds("2: no lambda", !code.contains("->"));
        holds("2: no method reference", !code.contains("::"));
        holds("5: no static block", !code.contains("static {"));
        holds("10: no texts joined by +", !Pattern.compile("\"\\s*\\+|\\+\\s*\"").matcher(code).find());
    }

    private static void library(String code) {
        Matcher m = Pattern.compile("\\b(String|StringBuilder|Math|System|Integer|Long|Arrays|List|ArrayList|Object)"
            + "\\.(\\w+)").matcher(code);
        while (m.find()) {
            String used = m.group();
            holds("4: " + used, Set.of("Math.min", "Math.max", "Math.abs", "System.arraycopy").contains(used));
        }
    }

    /** A method's lines stand between its head and the closing brace at the head's own depth. */
    private static void methods(String source) {
        String[] lines = source.split("\n");
        Pattern head = Pattern.compile("( {4}| {8})((?:public |private |static |final )*)(?:\\w+(?:\\[\\])* )?(\\w+)\\(.*\\) \\{");
        for (int i = 0; i < lines.length; i++) {
            Matcher m = head.matcher(lines[i]);
            if (!m.matches() || Set.of("if", "for", "while", "switch").contains(m.group(3))) {
                continue;
            }
            int close = i + 1;
            while (close < lines.length && !lines[close].equals(m.group(1) + "}")) {
                close++;
            }
            holds("11: " + m.group(3) + " is long", close - i <= 60);
            boolean makes = Character.isUpperCase(m.group(3).charAt(0));
            for (int k = i; k < close && !makes; k++) {
                holds("12: " + m.group(3) + " makes objects", !lines[k].matches(".*\\bnew\\b.*"));
            }
        }
    }

    private static void classes() {
        Set<String> face = new TreeSet<>();
        for (Method m : AsOfPages.class.getDeclaredMethods()) {
            boolean shown = Modifier.isPublic(m.getModifiers());
            holds("1: " + m.getName() + " is public or private", shown || Modifier.isPrivate(m.getModifiers()));
            if (shown) {
                face.add(m.getName());
            }
        }
        List<Class<?>> all = new ArrayList<>(List.of(AsOfPages.class.getDeclaredClasses()));
        holds("11: classes", all.size() < 12);
        holds("1: public and final", AsOfPages.class.getModifiers() == (Modifier.PUBLIC | Modifier.FINAL));
        for (Class<?> c : all) {
            holds("2: " + c + " is static", Modifier.isStatic(c.getModifiers()));
            holds("1: " + c + " is private", Modifier.isPrivate(c.getModifiers()));
        }
        all.add(AsOfPages.class);
        for (Class<?> c : all) {
            fields(c);
            for (Method m : c.getDeclaredMethods()) {
                holds("11: parameters of " + m, m.getParameterCount() <= 7);
                holds("1: the name of " + m, c == AsOfPages.class && Modifier.isPublic(m.getModifiers())
                    || !face.contains(m.getName()));
            }
        }
    }

    private static void fields(Class<?> c) {
        int own = 0;
        for (Field f : c.getDeclaredFields()) {
            if (Modifier.isStatic(f.getModifiers())) {
                holds("5: " + f, Modifier.isFinal(f.getModifiers())
                    && Set.<Class<?>>of(int.class, long.class, boolean.class, char.class, String.class).contains(f.getType()));
            } else {
                own++;
            }
            holds("1: " + f, c != AsOfPages.class || Modifier.isPrivate(f.getModifiers()) || f.getName().equals("NONE"));
        }
        holds("11: fields of " + c, own <= 20);
    }

    /** The public members are the document's, one for one. */
    private static void face(Path doc) throws IOException {
        String text = Files.readString(doc, StandardCharsets.UTF_8);
        Set<String> due = new TreeSet<>();
        Matcher m = Pattern.compile("(?m)^    public (int|long) (\\w+)\\((.*)\\);$").matcher(text);
        while (m.find()) {
            int count = m.group(3).isEmpty() ? 0 : m.group(3).split(",").length;
            due.add(m.group(1) + " " + m.group(2) + " " + count);
        }
        Set<String> got = new TreeSet<>();
        for (Method method : AsOfPages.class.getDeclaredMethods()) {
            if (Modifier.isPublic(method.getModifiers())) {
                got.add(method.getReturnType() + " " + method.getName() + " " + method.getParameterCount());
            }
        }
        CHECK.due("the public methods", got.toString(), due.toString());
        CHECK.due("promises, but for the constructor's", got.size(), 51);
        Constructor<?>[] constructors = AsOfPages.class.getDeclaredConstructors();
        holds("1: one public constructor", constructors.length == 1 && Modifier.isPublic(constructors[0].getModifiers()));
    }

    public static void main(String[] args) throws IOException {
        Path main = Path.of(args[0]);
        String source = Files.readString(main, StandardCharsets.UTF_8);
        holds("4: signs 1 to 127", source.chars().allMatch(c -> c < 128));
        String code = withoutComments(source);
        words(code);
        library(code);
        methods(code);
        classes();
        face(Path.of(args[1]).resolve("DOC.md"));
        CHECK.finish();
    }
}
