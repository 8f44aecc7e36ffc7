import java.lang.reflect.Constructor;
import java.lang.reflect.Field;
import java.lang.reflect.Method;
import java.lang.reflect.Modifier;
import java.nio.file.Files;
import java.nio.file.Path;
import java.util.ArrayList;
import java.util.Arrays;
import java.util.List;
import java.util.Map;
import java.util.Set;
import java.util.TreeMap;
import java.util.TreeSet;
import java.util.regex.Matcher;
import java.util.regex.Pattern;

/** What of LANGUAGE.md and of the document's face can be seen by a machine. */
public final class LanguageTest {
    private static final String FACE = "int feed int int int int int; int back int; int read; int place; boolean doubt int boolean; int walk int int;"
        + "int move int int; int ways; int choice int int; int goes int int; int hour int int boolean; int gap int int int boolean; int ends int boolean;"
        + "int can int int; int forced int; boolean set int int; int bears int; int breaks; int quarrels; int quarrel int; int givingUps; int givingUp int;"
        + "int cheapest; int price; boolean pick int int; int stands; int ring; int ringAt int; int could int int int int; int been int int boolean;"
        + "int ask int boolean; int next; int left int int; int plan int; int first int; int more int int int int; int fewer; int tried int int; int setWays;"
        + "int slack int int boolean; int drawn int int int; int give; int alone int; int kept int; int keep; int hand int int; int count int";
    private static int wrong = 0;

    public static void main(String[] args) throws Exception {
        face();
        members();
        String source = Files.readString(Path.of("src/main/java/NightHours.java"));
        words(withoutComments(source));
        methods(withoutComments(source));
        depth(withoutComments(source));
        System.out.println(wrong == 0 ? "the language is kept" : wrong + " rules are broken");
        System.exit(wrong == 0 ? 0 : 1);
    }

    private static void check(boolean holds, String rule) {
        if (!holds) {
            wrong++;
            System.out.println("broken: " + rule);
        }
    }

    private static void face() {
        Set<String> want = new TreeSet<>();
        for (String m : FACE.split(";")) {
            want.add(m.strip());
        }
        Set<String> got = new TreeSet<>();
        for (Method m : NightHours.class.getDeclaredMethods()) {
            StringBuilder b = new StringBuilder(m.getReturnType() + " " + m.getName());
            for (Class<?> p : m.getParameterTypes()) {
                b.append(' ').append(p);
            }
            if (Modifier.isPublic(m.getModifiers())) {
                check(!Modifier.isStatic(m.getModifiers()), "1: a method of the face is static: " + b);
                got.add(b.toString());
            } else {
                check(Modifier.isPrivate(m.getModifiers()), "1: not private: " + b);
            }
        }
        check(want.size() == 47, "1: the face has 47 methods");
        check(want.equals(got), "1: the face is " + got);
        check(Modifier.isPublic(NightHours.class.getModifiers()) && Modifier.isFinal(NightHours.class.getModifiers()), "1: public final");
        Constructor<?>[] constructors = NightHours.class.getDeclaredConstructors();
        check(constructors.length == 1 && Modifier.isPublic(constructors[0].getModifiers()) && constructors[0].getParameterCount() == 0, "1: one public constructor");
        for (Field f : NightHours.class.getDeclaredFields()) {
            check(Modifier.isPrivate(f.getModifiers()) || f.getName().equals("NONE"), "1: a field that is not private: " + f);
        }
    }

    private static void members() {
        List<Class<?>> all = new ArrayList<>(Arrays.asList(NightHours.class.getDeclaredClasses()));
        check(all.size() <= 11, "11: twelve classes at most");
        Set<String> names = new TreeSet<>();
        for (Method m : NightHours.class.getDeclaredMethods()) {
            if (Modifier.isPublic(m.getModifiers())) {
                names.add(m.getName());
            }
        }
        all.add(NightHours.class);
        for (Class<?> c : all) {
            int fields = 0;
            check(c == NightHours.class || Modifier.isStatic(c.getModifiers()), "2: not static: " + c);
            for (Field f : c.getDeclaredFields()) {
                boolean isStatic = Modifier.isStatic(f.getModifiers());
                check(!isStatic || Modifier.isFinal(f.getModifiers()), "5: a static field that is not final: " + f);
                fields += isStatic ? 0 : 1;
            }
            check(fields <= 20, "11: " + fields + " fields in " + c);
            for (Method m : c.getDeclaredMethods()) {
                check(m.getParameterCount() <= 7, "11: more than seven parameters: " + m);
                boolean own = c == NightHours.class && Modifier.isPublic(m.getModifiers());
                check(own || !names.contains(m.getName()), "1: the name of a public method: " + m);
            }
        }
    }

    private static String withoutComments(String source) {
        return source.replaceAll("(?s)/\\*.*?\\*/", "").replaceAll("//[^\n]*", "");
    }

    private static void words(String source) {
        String[] forbidden = {"throw", "throws", "try", "catch", "finally", "synchronized", "assert", "volatile", "transient", "native", "float", "double",
            "var", "Object", "Exception", "Thread", "Random", "hashCode", "getClass", "super", "yield", "Optional", "stream", "HashMap"};
        for (String w : forbidden) {
            check(!Pattern.compile("\\b" + w + "\\b").matcher(source).find(), "3, 4, 6: the word " + w);
        }
        check(!source.contains("->") && !source.contains("::"), "2: a lambda or a method reference");
        check(!source.contains("Exact("), "4: a function whose name ends in Exact");
        check(!source.contains("while (true)") && !source.contains("for (;;)"), "9: a loop without an end");
        Matcher imports = Pattern.compile("import ([^;]*);").matcher(source);
        while (imports.find()) {
            check(imports.group(1).equals("java.util.Arrays"), "4: import " + imports.group(1));
        }
        Matcher calls = Pattern.compile("\\b(Arrays|Math|Integer|Long|System|String)\\.(\\w+)").matcher(source);
        Set<String> fine = Set.of("Arrays.fill", "Math.abs", "Math.min", "Math.max", "Integer.bitCount", "System.arraycopy");
        while (calls.find()) {
            check(fine.contains(calls.group()), "4: " + calls.group());
        }
        for (int i = 0; i < source.length(); i++) {
            check(source.charAt(i) < 128, "4: a sign beyond 127");
        }
    }

    /** Objects are made in constructors and for fields alone, and methods stay short. */
    private static void methods(String source) {
        String[] lines = source.split("\n");
        Pattern head = Pattern.compile("^( {4}| {8})(\\w[\\w\\[\\]<> ]*\\()[^;]*\\{$");
        int length = 0;
        String method = null;
        String indent = "";
        for (String line : lines) {
            Matcher m = head.matcher(line);
            if (method == null && m.find()) {
                method = line.strip();
                indent = m.group(1);
                length = 0;
            } else if (method != null && line.equals(indent + "}")) {
                check(length <= 60, "11: " + length + " lines: " + method);
                method = null;
            } else if (method != null) {
                length++;
                boolean constructs = method.matches("(public |private )?[A-Z]\\w*\\(.*");
                check(constructs || !line.matches(".*\\bnew\\b.*"), "12: made in a call: " + line.strip());
            }
        }
    }

    /** Calls go at most eight deep, and none comes back to where it came from but for a method that calls itself. */
    private static void depth(String source) {
        Map<String, StringBuilder> bodies = new TreeMap<>();
        Pattern head = Pattern.compile("^( {4}| {8})\\w[\\w\\[\\]<> ]*\\b(\\w+)\\([^;]*\\{$");
        StringBuilder body = null;
        for (String line : source.split("\n")) {
            Matcher m = head.matcher(line);
            if (m.find()) {
                body = bodies.computeIfAbsent(m.group(2), k -> new StringBuilder());
            } else if (body != null) {
                body.append(line).append('\n');
            }
        }
        check(bodies.size() > 100, "11: only " + bodies.size() + " methods were found");
        Map<String, Set<String>> calls = new TreeMap<>();
        bodies.forEach((name, text) -> calls.put(name, callsIn(text.toString(), bodies.keySet())));
        for (String name : calls.keySet()) {
            List<String> chain = longest(name, calls, new ArrayList<>());
            check(chain.size() <= 8, "11: calls go " + chain.size() + " deep: " + chain);
        }
    }

    /** Methods of one name count as one: that can only make a chain longer. */
    private static Set<String> callsIn(String text, Set<String> names) {
        Set<String> called = new TreeSet<>();
        Matcher m = Pattern.compile("(new )?\\b(\\w+)\\(").matcher(text);
        while (m.find()) {
            if (m.group(1) == null && names.contains(m.group(2))) {
                called.add(m.group(2));
            }
        }
        return called;
    }

    private static List<String> longest(String name, Map<String, Set<String>> calls, List<String> ahead) {
        List<String> here = new ArrayList<>(ahead);
        here.add(name);
        List<String> best = here;
        for (String next : calls.get(name)) {
            check(next.equals(name) || !here.contains(next), "8: " + next + " comes back to itself by " + here);
            if (!here.contains(next)) {
                List<String> chain = longest(next, calls, here);
                best = chain.size() > best.size() ? chain : best;
            }
        }
        return best;
    }
}
