import java.io.IOException;
import java.io.PrintWriter;
import java.io.StringWriter;
import java.lang.reflect.Constructor;
import java.lang.reflect.Field;
import java.lang.reflect.Method;
import java.lang.reflect.Modifier;
import java.nio.charset.StandardCharsets;
import java.nio.file.Files;
import java.nio.file.Path;
import java.util.ArrayList;
import java.util.Arrays;
import java.util.HashSet;
import java.util.List;
import java.util.Map;
import java.util.Set;
import java.util.TreeMap;
import java.util.TreeSet;
import java.util.regex.Matcher;
import java.util.regex.Pattern;
import java.util.spi.ToolProvider;

/** The rules of LANGUAGE.md that can be seen in the source and in the compiled class. */
public final class SourceTest {
    private static final Path SOURCE = Path.of("src/main/java/SpokenClock.java");
    private static final String FACE = "best(int)int clears(int)int clock(int,int)int count(int)int counts(int,int)int "
            + "digest()long due(int,int,int)int erase()int fault()int from(int)int image(int)int letter(int,int,int)int "
            + "limb(int,int)int minute(int)int night(int,int,int)int paid(int)int person(int,int)int put(int,int)int "
            + "read()int sight(int,int)int sign(int)int silence(int,int,int)int stake(int,int,int,int,int)int "
            + "status(int)int step(int,int)int sun(int,int)int talk(int,int,int)int turns(int)int type(long,int)int "
            + "who(int)int wipe()int write(int)int";

    private static int wrong;

    public static void main(String[] args) throws IOException {
        byte[] bytes = Files.readAllBytes(SOURCE);
        for (byte b : bytes) {
            check(b == '\n' || b >= ' ' && b < 127, "3: a sign outside 32 .. 126");
        }
        String source = new String(bytes, StandardCharsets.ISO_8859_1);
        String code = source.replaceAll("(?s)/\\*.*?\\*/", "").replaceAll("//[^\n]*", "");
        words(code);
        lengths(source);
        face();
        List<Class<?>> all = new ArrayList<>(List.of(SpokenClock.class));
        all.addAll(Arrays.asList(SpokenClock.class.getDeclaredClasses()));
        check(all.size() <= 12, "11: more than twelve classes");
        for (Class<?> c : all) {
            shape(c);
        }
        depths(all);
        System.out.println(wrong == 0 ? "the source keeps to the rules" : wrong + " breaches");
        if (wrong != 0) {
            System.exit(1);
        }
    }

    private static void check(boolean holds, String breach) {
        if (!holds) {
            wrong++;
            System.out.println("rule " + breach);
        }
    }

    private static void words(String code) {
        for (String word : List.of("throw", "try", "catch", "synchronized", "assert", "package", "var", "record",
                "instanceof", "volatile", "transient", "native", "strictfp", "protected", "Object", "Exception",
                "System\\.(?!arraycopy)\\w+", "Math\\.\\w*Exact", "Thread", "Random", "hashCode", "toString", "double",
                "float", "::", "->", "@\\w+")) {
            Matcher m = Pattern.compile(word.matches("\\w+") ? "\\b" + word + "\\b" : word).matcher(code);
            check(!m.find(), "2 to 6 or 13: '" + word + "' is used");
        }
        Matcher imports = Pattern.compile("import ([^;]+);").matcher(code);
        while (imports.find()) {
            check(imports.group(1).equals("java.util.Arrays"), "4: " + imports.group(1));
        }
        check(!Pattern.compile("\"\\s*\\+|\\+\\s*\"").matcher(code).find(), "10: texts are joined by +");
    }

    /** A method starts at a line that ends with { behind a ) and ends at a } of the same indent. */
    private static void lengths(String source) {
        String[] lines = source.split("\n");
        for (int i = 0; i < lines.length; i++) {
            if (!lines[i].matches(" {4}(?: {4})?\\w[^=;]*\\(.*\\) \\{")) {
                continue;
            }
            String end = lines[i].replaceAll("\\S.*", "") + "}";
            int length = 1;
            while (i + length < lines.length && !lines[i + length].equals(end)) {
                length++;
            }
            check(length <= 60, "11: long: " + lines[i]);
        }
    }

    private static void face() {
        Set<String> names = new TreeSet<>();
        for (Method m : SpokenClock.class.getDeclaredMethods()) {
            if (Modifier.isPrivate(m.getModifiers())) {
                continue;
            }
            check(Modifier.isPublic(m.getModifiers()), "1: " + m);
            String parameters = Arrays.toString(m.getParameterTypes()).replaceAll("[\\[\\] ]", "");
            names.add(m.getName() + "(" + parameters + ")" + m.getReturnType());
        }
        check(String.join(" ", names).equals(FACE), "1: the face is " + names);
        Set<String> constants = new TreeSet<>();
        for (Field f : SpokenClock.class.getDeclaredFields()) {
            if (!Modifier.isPrivate(f.getModifiers())) {
                constants.add(f.getName() + " " + Modifier.toString(f.getModifiers()) + " " + f.getType());
            }
        }
        check(constants.toString().equals("[BAD public static final int, FULL public static final int, "
                + "NO public static final int, NONE public static final int]"), "1: " + constants);
        Constructor<?>[] made = SpokenClock.class.getDeclaredConstructors();
        check(made.length == 1 && Modifier.isPublic(made[0].getModifiers()) && made[0].getParameterCount() == 0,
                "1: the constructor");
        check(Modifier.isFinal(SpokenClock.class.getModifiers()), "1: the class is not final");
    }

    private static void shape(Class<?> c) {
        Set<String> faceNames = new HashSet<>();
        for (String call : FACE.split(" ")) {
            faceNames.add(call.replaceAll("\\(.*", ""));
        }
        int fields = 0;
        for (Field f : c.getDeclaredFields()) {
            if (!Modifier.isStatic(f.getModifiers())) {
                fields++;
            } else {
                check(Modifier.isFinal(f.getModifiers()), "5: " + f);
            }
        }
        check(fields <= 20, "11: too many fields in " + c);
        check(c == SpokenClock.class || Modifier.isStatic(c.getModifiers()) && c.getDeclaredClasses().length == 0,
                "2: " + c);
        for (Method m : c.getDeclaredMethods()) {
            check(m.getParameterCount() <= 7, "11: too many parameters: " + m);
            check(Modifier.isPublic(m.getModifiers()) || !faceNames.contains(m.getName()), "1: the name of " + m);
            check(!m.isSynthetic(), "2: " + m);
        }
    }

    /** 8, 11: the parser of THE RULE alone calls itself; all calls together go at most eight deep. */
    private static void depths(List<Class<?>> all) {
        Map<String, Set<String>> calls = new TreeMap<>();
        for (Class<?> c : all) {
            calls.putAll(callsIn(c.getName()));
        }
        Set<String> parser = Set.of("SpokenClock$Rule.parseLevel", "SpokenClock$Rule.parseUnit",
                "SpokenClock$Rule.parseOperand");
        Map<String, Integer> known = new TreeMap<>();
        for (String method : calls.keySet()) {
            // The parser's three are one circle: they count as three, from whichever it is entered.
            int depth = depth(method, calls, parser, known, new TreeSet<>());
            check(depth <= 8, "11: " + depth + " deep: " + method);
        }
        check(calls.size() > 100, "11: javap told of " + calls.size() + " methods alone");
    }

    private static int depth(String method, Map<String, Set<String>> calls, Set<String> parser,
            Map<String, Integer> known, Set<String> open) {
        Integer had = known.get(method);
        if (had != null) {
            return had;
        }
        if (!open.add(method)) {
            check(false, "8: " + method + " calls itself");
            return 0;
        }
        Set<String> next = new TreeSet<>();
        boolean isParser = parser.contains(method);
        for (String one : isParser ? parser : Set.of(method)) {
            next.addAll(calls.getOrDefault(one, Set.of()));
        }
        next.removeAll(isParser ? parser : Set.of());
        int most = 0;
        for (String called : next) {
            most = Math.max(most, depth(called, calls, parser, known, open));
        }
        open.remove(method);
        known.put(method, most + (isParser ? parser.size() : 1));
        return known.get(method);
    }

    private static Map<String, Set<String>> callsIn(String name) {
        StringWriter told = new StringWriter();
        PrintWriter to = new PrintWriter(told);
        ToolProvider.findFirst("javap").orElseThrow().run(to, to, "-c", "-p", "-cp",
                System.getProperty("java.class.path"), name);
        Map<String, Set<String>> calls = new TreeMap<>();
        Set<String> current = new TreeSet<>();
        Pattern head = Pattern.compile("^  \\S.*?([\\w$]+)\\(.*\\);$");
        Pattern call = Pattern.compile("invoke\\w+ .*// (?:Interface)?Method ([^:]+):");
        for (String line : told.toString().split("\\R")) {
            Matcher starts = head.matcher(line);
            Matcher calling = call.matcher(line);
            if (starts.find()) {
                String method = name.equals(starts.group(1)) ? "<init>" : starts.group(1);
                current = calls.computeIfAbsent(name + "." + method, k -> new TreeSet<>());
            } else if (calling.find()) {
                String called = calling.group(1).replace("\"", "");
                called = called.contains(".") ? called : name + "." + called;
                if (called.startsWith("SpokenClock")) {
                    current.add(called);
                }
            }
        }
        return calls;
    }
}
