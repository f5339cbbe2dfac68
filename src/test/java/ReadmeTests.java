import java.io.IOException;
import java.lang.reflect.Method;
import java.lang.reflect.Modifier;
import java.nio.file.Files;
import java.nio.file.Path;
import java.util.Arrays;
import java.util.List;
import java.util.regex.Matcher;
import java.util.regex.Pattern;
import java.util.stream.Stream;

/** README.md: its example answers what it says there, and it names each call and each test. */
public final class ReadmeTests {
    private static final Pattern TEXT = Pattern.compile("String text = \"([^\"]*)\";");
    private static final Pattern CALL = Pattern.compile("(?m)^x\\.(\\w+)\\(([^)]*)\\);\\s+// (-?\\d+): ");

    private static final Check check = new Check("ReadmeTests");

    public static void main(String[] args) throws IOException, ReflectiveOperationException {
        String page = Files.readString(Path.of("README.md"));
        example(page);
        calls(page);
        tests(page);
        check.end();
    }

    private static void example(String page) throws ReflectiveOperationException {
        String code = page.substring(page.indexOf("```java"), page.lastIndexOf("```"));
        Matcher text = TEXT.matcher(code);
        check.holds("the example tells a text", text.find());
        PromiseScales x = new PromiseScales();
        Check.feed(x, text.group(1));
        int answered = 0;
        Matcher call = CALL.matcher(code);
        while (call.find()) {
            answered++;
            int got = answer(x, call.group(1), call.group(2));
            check.due(call.group().trim(), got, Integer.parseInt(call.group(3)));
        }
        check.due("lines with an answer", answered, code.lines().filter(line -> line.contains(" // ")).count());
    }

    private static int answer(PromiseScales x, String name, String numbers) throws ReflectiveOperationException {
        Object[] told = Stream.of(numbers.split(",")).map(String::trim).filter(n -> !n.isEmpty()).map(Integer::valueOf).toArray();
        Class<?>[] ints = new Class<?>[told.length];
        Arrays.fill(ints, int.class);
        return (int) PromiseScales.class.getMethod(name, ints).invoke(x, told);
    }

    private static void calls(String page) {
        String list = page.substring(page.indexOf("The calls, by what they are for:"), page.indexOf("Nothing throws."));
        for (Method method : PromiseScales.class.getDeclaredMethods()) {
            if (Modifier.isPublic(method.getModifiers())) {
                check.holds("it names " + method.getName(), list.contains("`" + method.getName() + "`"));
            }
        }
    }

    private static void tests(String page) throws IOException {
        try (Stream<Path> files = Files.list(Path.of("src/test/java"))) {
            List<String> names = files.map(file -> file.getFileName().toString().replace(".java", "")).sorted().toList();
            for (String name : names) {
                check.holds("it names " + name, !name.endsWith("Tests") || page.contains("`" + name + "`"));
            }
        }
    }
}
