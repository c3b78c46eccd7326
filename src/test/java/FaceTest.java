import java.lang.management.ManagementFactory;
import java.lang.reflect.Constructor;
import java.lang.reflect.Field;
import java.lang.reflect.Method;
import java.lang.reflect.Modifier;
import java.nio.file.Files;
import java.nio.file.Path;
import java.util.Arrays;
import java.util.Set;
import java.util.TreeSet;
import java.util.regex.Matcher;
import java.util.regex.Pattern;

/** The public face, the rules of LANGUAGE.md that a test can see, and that no call makes objects. */
public final class FaceTest {
    private static final String[] FACE = {
        "boolean rows(int)", "boolean seat(int,int,int)", "boolean paid(int,int)", "boolean seconds(int)",
        "boolean good(int,int,int)", "boolean plan(int,int,int)", "int feed(int,int,int,int,int)",
        "int law(int,int)", "int shows(int,int)", "int loud(int,int)", "int house()", "boolean prices(int,int)",
        "int costs(int)", "int more(int)", "int wins()", "int seated(int,int,int)", "int begins()",
        "int silent(int)", "boolean table(int,int,int,int)", "int rests(int,int)", "int keep()", "int hears(int)",
        "int otherwise(int)", "int suspects(int)", "long funnier(int,int,int,int,int)",
        "int years(int,int,int,int)", "int check(int)", "int count(int)"};
    private static final String[] RULED_OUT = {
        "throw", "throws", "try", "catch", "finally", "synchronized", "assert", "import", "package", "native",
        "volatile", "transient", "instanceof", "protected", "Exception", "Error", "Object", "var", "yield"};

    private static void yes(String what, boolean holds) {
        Checks.same(what, holds, true);
    }

    private static String told(Method method) {
        StringBuilder text = new StringBuilder(method.getReturnType().getSimpleName() + " " + method.getName() + "(");
        for (Class<?> type : method.getParameterTypes()) {
            text.append(text.charAt(text.length() - 1) == '(' ? "" : ",").append(type.getSimpleName());
        }
        return text + ")";
    }

    private static void face() {
        Set<String> want = new TreeSet<>(Arrays.asList(FACE));
        Set<String> found = new TreeSet<>();
        Set<String> names = new TreeSet<>();
        for (Method method : PaidHouse.class.getDeclaredMethods()) {
            if (Modifier.isPublic(method.getModifiers())) {
                found.add(told(method));
                names.add(method.getName());
                yes("not static: " + method, !Modifier.isStatic(method.getModifiers()));
            } else {
                yes("private: " + method, Modifier.isPrivate(method.getModifiers()) || method.isSynthetic());
            }
        }
        yes("the face is " + found, found.equals(want));
        for (Method method : PaidHouse.class.getDeclaredMethods()) {
            yes("a public name: " + method, Modifier.isPublic(method.getModifiers()) || !names.contains(method.getName()));
        }
        yes("public and final", PaidHouse.class.getModifiers() == (Modifier.PUBLIC | Modifier.FINAL));
        Constructor<?>[] constructors = PaidHouse.class.getDeclaredConstructors();
        yes("one constructor", constructors.length == 1 && constructors[0].getParameterCount() == 0
                && Modifier.isPublic(constructors[0].getModifiers()));
        inside(names);
    }

    private static void inside(Set<String> names) {
        for (Field field : PaidHouse.class.getDeclaredFields()) {
            yes("private: " + field, field.getName().equals("NONE") || Modifier.isPrivate(field.getModifiers()));
        }
        yes("at most twelve classes", PaidHouse.class.getDeclaredClasses().length < 12);
        for (Class<?> inner : PaidHouse.class.getDeclaredClasses()) {
            yes("static: " + inner, Modifier.isStatic(inner.getModifiers()) && !Modifier.isPublic(inner.getModifiers()));
            for (Method method : inner.getDeclaredMethods()) {
                yes("a public name: " + method, !names.contains(method.getName()));
            }
            for (Field field : inner.getDeclaredFields()) {
                yes("static but not final: " + field,
                        !Modifier.isStatic(field.getModifiers()) || Modifier.isFinal(field.getModifiers()));
            }
        }
    }

    private static void source(String path) throws Exception {
        String text = Files.readString(Path.of(path));
        yes("signs 1 to 126 alone", text.chars().allMatch(c -> c == '\n' || c >= ' ' && c <= 126));
        String code = text.replaceAll("(?s)/\\*.*?\\*/", "").replaceAll("//[^\n]*", "")
                .replaceAll("\"[^\"\n]*\"", "\"\"").replaceAll("'[^'\n]+'", "' '");
        for (String word : RULED_OUT) {
            yes("no '" + word + "'", !Pattern.compile("\\b" + word + "\\b").matcher(code).find());
        }
        yes("no lambda, no method reference", !code.contains("->") && !code.contains("::") && !code.contains("@"));
        yes("no text joined by +", !code.contains("+ \"\"") && !code.contains("\"\" +"));
        Matcher library = Pattern.compile("\\b(Integer|Long|Math|System|Arrays)\\.(\\w+)").matcher(code);
        while (library.find()) {
            yes("library: " + library.group(), Set.of("Integer.bitCount", "Integer.compare", "System.arraycopy")
                    .contains(library.group()));
        }
        shortMethods(text);
    }

    private static void shortMethods(String text) {
        String[] lines = text.split("\n");
        int begin = 0;
        for (int i = 0; i < lines.length; i++) {
            if (lines[i].matches(" {4}( {4})?[\\w].*\\) \\{")) {
                begin = i;
            }
            if (lines[i].matches(" {4}( {4})?\\}")) {
                yes("sixty lines at most from line " + begin, i - begin <= 60 || lines[i].equals("    }"));
            }
            yes("a line of at most 120 signs: " + (i + 1), lines[i].length() <= 120);
        }
    }

    private static long made() {
        com.sun.management.ThreadMXBean beans =
                (com.sun.management.ThreadMXBean) ManagementFactory.getThreadMXBean();
        return beans.getThreadAllocatedBytes(Thread.currentThread().getId());
    }

    /** All calls of a run live in one room: whatever they need is made with the object. */
    private static void noObjectsMade() {
        PaidHouse x = new PaidHouse();
        for (int s = 0; s < 7; s++) {
            x.seat(s, s % 4, s % 2);
        }
        x.seconds(5);
        made();
        long before = made();
        int sum = 0;
        for (int i = 0; i < 20; i++) {
            sum += x.feed(0x6328613e, 0x30297068, 0, 0, 0) + x.law(i % 4, 6);
            sum += x.house() + x.more(1) + x.wins() + x.seated(1, 2, 0) + x.begins() + x.silent(1) + x.keep();
            sum += x.hears(0) + x.otherwise(0) + x.suspects(1) + x.rests(5, 3) + x.check(0) + x.count(i);
            sum += (int) x.funnier(20, 10, 5, 5, 0) + x.years(10, 10, 10, 10) + x.shows(1, 1) + x.loud(1, 1);
        }
        long after = made();
        yes("no objects made, but " + (after - before) + " bytes (" + sum + ")", after - before < 2000);
    }

    public static void main(String[] args) throws Exception {
        face();
        source(args.length > 0 ? args[0] : "src/main/java/PaidHouse.java");
        noObjectsMade();
        Checks.end("FaceTest");
    }
}
