import java.io.IOException;
import java.lang.reflect.Method;
import java.nio.charset.StandardCharsets;
import java.nio.file.Files;
import java.nio.file.Path;
import java.util.Set;
import java.util.TreeSet;
import java.util.regex.Matcher;
import java.util.regex.Pattern;

/** What README.md says of the class: its run, its table of calls, its valley's text. */
public final class ReadmeTest {
    private static int looked;
    private static int wrong;

    public static void main(String[] args) throws IOException, ReflectiveOperationException {
        String readme = Files.readString(Path.of("README.md"), StandardCharsets.UTF_8);
        String doc = Files.readString(Path.of("../shared/DOC.md"), StandardCharsets.UTF_8);
        run(block(readme, "java"));
        table(readme, block(doc, "java"));
        valley(block(readme, "text"));
        System.out.println(looked + " lines of README.md, " + wrong + " not as it says");
        if (wrong != 0) {
            System.exit(1);
        }
    }

    private static void is(String what, Object got, Object want) {
        looked++;
        if (!got.equals(want)) {
            wrong++;
            System.out.println(what + ": " + got + ", README.md says " + want);
        }
    }

    /** The first block of its kind. */
    private static String block(String page, String kind) {
        Matcher m = Pattern.compile("(?s)```" + kind + "\n(.*?)```").matcher(page);
        if (!m.find()) {
            throw new IllegalStateException("no block of " + kind);
        }
        return m.group(1);
    }

    private static void run(String lines) throws ReflectiveOperationException {
        SpokenClock x = new SpokenClock();
        Pattern call = Pattern.compile("x\\.(\\w+)\\((.*)\\); +// (-?\\d+)(:.*)?");
        for (String line : lines.split("\n")) {
            Matcher m = call.matcher(line);
            if (m.matches()) {
                is(line, answer(x, m.group(1), m.group(2)), Long.parseLong(m.group(3)));
            } else {
                is(line, line, "SpokenClock x = new SpokenClock();");
            }
        }
    }

    private static long answer(SpokenClock x, String name, String told) throws ReflectiveOperationException {
        String[] words = told.isEmpty() ? new String[0] : told.split(", ");
        for (Method m : SpokenClock.class.getMethods()) {
            if (m.getName().equals(name) && m.getParameterCount() == words.length) {
                Object[] given = new Object[words.length];
                for (int i = 0; i < words.length; i++) {
                    long v = number(words[i]);
                    given[i] = m.getParameterTypes()[i] == long.class ? (Object) v : (Object) (int) v;
                }
                return ((Number) m.invoke(x, given)).longValue();
            }
        }
        throw new NoSuchMethodException(name);
    }

    private static long number(String word) {
        return word.startsWith("'") ? word.charAt(1) : Long.decode(word.replaceAll("L$", ""));
    }

    private static void table(String readme, String face) {
        is("the calls", calls("\\| `(\\w+ \\w+\\(.*?\\))` \\|", readme).toString(),
                calls("public ((?:int|long) \\w+\\(.*?\\));", face).toString());
    }

    private static Set<String> calls(String form, String page) {
        Set<String> all = new TreeSet<>();
        Matcher m = Pattern.compile(form).matcher(page);
        while (m.find()) {
            if (!all.add(m.group(1))) {
                is("once", m.group(1), "");
            }
        }
        return all;
    }

    private static void valley(String lines) {
        SpokenClock x = new SpokenClock();
        for (byte b : lines.replace('\n', ' ').getBytes(StandardCharsets.ISO_8859_1)) {
            x.type(b, 1);
        }
        is("the valley's text", (long) x.read(), 9L);
    }
}
