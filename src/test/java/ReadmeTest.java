import java.io.IOException;
import java.lang.reflect.Method;
import java.lang.reflect.Modifier;
import java.nio.file.Files;
import java.nio.file.Path;
import java.util.Set;
import java.util.TreeSet;
import java.util.regex.Matcher;
import java.util.regex.Pattern;
import java.util.stream.Stream;

/**
 * README.md: the calls that it shows, read off the page itself, must answer what it gives for them; what it quotes must
 * stand in the document; the tests that it names must be those that there are.
 */
public final class ReadmeTest {
    private static final Pattern CALL = Pattern.compile("house\\.(\\w+)\\(([^)]*)\\);\\s+// (\\S+?)(: .+)?");
    private static final String BEGIN = "PaidHouse house = new PaidHouse();";
    private static final String REFUSED =
            "A call that is refused (NONE, false) changes nothing but the tape, where it is told.";

    private final Set<String> shown = new TreeSet<>();
    private PaidHouse house;

    private static void yes(String what, boolean holds) {
        Checks.same(what, holds, true);
    }

    private static int number(String text) {
        return text.equals("PaidHouse.NONE") ? PaidHouse.NONE : Integer.decode(text);
    }

    private static Object[] numbers(String list) {
        if (list.isBlank()) {
            return new Object[0];
        }
        return Stream.of(list.split(",")).map(text -> (Object) number(text.trim())).toArray();
    }

    private static Method called(String name) {
        for (Method method : PaidHouse.class.getDeclaredMethods()) {
            if (Modifier.isPublic(method.getModifiers()) && method.getName().equals(name)) {
                return method;
            }
        }
        return null;
    }

    /** Every line of a block makes a new house or is a call with its answer behind it. */
    private void line(String text) throws ReflectiveOperationException {
        if (text.equals(BEGIN)) {
            house = new PaidHouse();
            return;
        }
        Matcher matcher = CALL.matcher(text);
        Method method = matcher.matches() ? called(matcher.group(1)) : null;
        Object[] given = method == null ? new Object[0] : numbers(matcher.group(2));
        if (house == null || method == null || given.length != method.getParameterCount()) {
            Checks.fail("README.md shows no call with its answer: " + text);
            return;
        }
        shown.add(method.getName());
        String answer = String.valueOf(method.invoke(house, given));
        String due = matcher.group(3).equals("NONE") ? String.valueOf(PaidHouse.NONE) : matcher.group(3);
        yes("README.md: " + text + " answered " + answer, answer.equals(due));
    }

    private void calls(String page) throws ReflectiveOperationException {
        boolean inside = false;
        for (String text : page.split("\n")) {
            if (text.startsWith("```")) {
                inside = text.equals("```java");
                house = null;
            } else if (inside) {
                line(text);
            }
        }
        for (Method method : PaidHouse.class.getDeclaredMethods()) {
            yes("README.md shows a call of " + method.getName(),
                    !Modifier.isPublic(method.getModifiers()) || shown.contains(method.getName()));
        }
    }

    private static void quotes(String page, String document) {
        for (String text : page.split("\n")) {
            yes("the document says: " + text, !text.startsWith("> ") || document.contains(text.substring(2)));
        }
        yes("README.md says of refused calls what the document does", page.contains("\n> " + REFUSED + "\n"));
    }

    private static void tests(String page) throws IOException {
        Set<String> named = new TreeSet<>();
        Matcher matcher = Pattern.compile("\n *- `src/test/java/(\\w+Test)\\.java`: ").matcher(page);
        while (matcher.find()) {
            named.add(matcher.group(1) + ".java");
        }
        Set<String> there = new TreeSet<>();
        try (Stream<Path> files = Files.list(Path.of("src/test/java"))) {
            files.map(file -> file.getFileName().toString()).filter(name -> name.endsWith("Test.java"))
                    .forEach(there::add);
        }
        yes("README.md names " + named + ", there are " + there, named.equals(there));
    }

    public static void main(String[] args) throws Exception {
        String page = Files.readString(Path.of("README.md"));
        new ReadmeTest().calls(page);
        quotes(page, Files.readString(Path.of("../shared/DOC.md")));
        tests(page);
        Checks.end("ReadmeTest");
    }
}
