import java.io.IOException;
import java.lang.reflect.Field;
import java.lang.reflect.Method;
import java.lang.reflect.Modifier;
import java.nio.file.Files;
import java.nio.file.Path;
import java.util.ArrayList;
import java.util.Arrays;
import java.util.List;
import java.util.TreeSet;
import java.util.regex.Matcher;
import java.util.regex.Pattern;

/** The face of the class, and those rules of ../shared/LANGUAGE.md that can be looked up in its source. */
public final class LanguageTests {
    private static final Path SOURCE = Path.of("src/main/java/PromiseScales.java");
    private static final String FACE = "row/3 set/3 copy/5 drop/1 feed/1 scales/0 fault/0 lay/2 settle/2 wax/1 undo/0 "
        + "promise/2 keeps/1 reads/1 clash/1 bags/2 heaviest/2 worded/2 price/2 prices/2 settles/3 bestHeavy/1 found/4 "
        + "keepsFound/3 free/3 image/1 restore/1 kind/1 as/2 ask/2 trace/1 count/1 status/0";
    private static final String[] NOT_THERE = {"throw", "throws", "try", "catch", "finally", "synchronized", "assert",
        "import", "package", "volatile", "transient", "native", "hashCode", "toString", "getClass", "Object", "Math.\\w+Exact",
        "System.(?!arraycopy)", "->", "::", "@", "\\\""};

    private static final Pattern CONSTRUCTOR = Pattern.compile("((public|private) )?[A-Z]\\w*\\(.*\\) \\{");

    private static final Check check = new Check("LanguageTests");

    public static void main(String[] args) throws IOException {
        face();
        insides();
        source(Files.readString(SOURCE));
        check.end();
    }

    private static void face() {
        TreeSet<String> face = new TreeSet<>();
        for (Method method : PromiseScales.class.getDeclaredMethods()) {
            if (Modifier.isPublic(method.getModifiers())) {
                face.add(method.getName() + "/" + method.getParameterCount());
                check.holds(method + " gives an int", method.getReturnType() == int.class);
                check.holds(method + " is of the object", !Modifier.isStatic(method.getModifiers()));
                check.holds(method + " takes ints", Arrays.stream(method.getParameterTypes()).allMatch(t -> t == int.class));
            }
        }
        check.holds("the face is " + face, face.equals(new TreeSet<>(List.of(FACE.split(" ")))));
        TreeSet<String> constants = new TreeSet<>();
        for (Field field : PromiseScales.class.getFields()) {
            constants.add(field.getName());
        }
        check.holds("the constants are " + constants, constants.equals(new TreeSet<>(List.of("NONE", "BAD", "STATE", "FULL"))));
        check.due("constructors", PromiseScales.class.getDeclaredConstructors().length, 1);
        check.due("class", PromiseScales.class.getModifiers(), Modifier.PUBLIC | Modifier.FINAL);
    }

    private static void insides() {
        List<Class<?>> classes = new ArrayList<>(List.of(PromiseScales.class.getDeclaredClasses()));
        classes.forEach(c -> check.holds(c + " is static and not public",
            Modifier.isStatic(c.getModifiers()) && !Modifier.isPublic(c.getModifiers())));
        classes.add(PromiseScales.class);
        check.holds("twelve classes at most", classes.size() <= 12);
        for (Class<?> c : classes) {
            int fields = 0;
            for (Field field : c.getDeclaredFields()) {
                boolean isStatic = Modifier.isStatic(field.getModifiers());
                fields += isStatic ? 0 : 1;
                check.holds(field + " is final or of an object", !isStatic || Modifier.isFinal(field.getModifiers()));
                check.holds(field + " is hidden", c != PromiseScales.class || isStatic && Modifier.isPublic(field.getModifiers())
                    || Modifier.isPrivate(field.getModifiers()));
            }
            check.holds(c + " has twenty fields at most", fields <= 20);
            methods(c);
        }
    }

    private static void methods(Class<?> c) {
        for (Method method : c.getDeclaredMethods()) {
            boolean isFace = c == PromiseScales.class && Modifier.isPublic(method.getModifiers());
            check.holds(method + " takes seven at most", method.getParameterCount() <= 7);
            check.holds(method + " bears no name of the face", isFace || !(" " + FACE).contains(" " + method.getName() + "/"));
            check.holds(method + " is hidden", isFace || c != PromiseScales.class || Modifier.isPrivate(method.getModifiers()));
        }
    }

    private static void source(String text) {
        String code = text.replaceAll("(?s)/\\*.*?\\*/", "").replaceAll("//[^\n]*", "");
        for (String word : NOT_THERE) {
            String asked = Character.isLetter(word.charAt(0)) ? "\\b" + word + (word.endsWith(")") ? "" : "\\b") : word;
            check.holds("no " + word, !Pattern.compile(asked).matcher(code).find());
        }
        check.holds("signs 1 to 127", text.chars().allMatch(sign -> sign > 0 && sign < 128));
        Matcher bodies = Pattern.compile("(?m)^( +)[^\n ][^\n]*\\) \\{\n(?:\\1 [^\n]*\n|\n)*\\1\\}").matcher(code);
        int met = 0;
        while (bodies.find()) {
            met++;
            String body = bodies.group();
            String head = body.lines().findFirst().orElse("").trim();
            check.holds("sixty lines at most: " + head, body.lines().count() <= 60);
            boolean makes = Pattern.compile("\\bnew\\b").matcher(body).find();
            check.holds("only a constructor makes objects: " + head, !makes || CONSTRUCTOR.matcher(head).matches());
        }
        check.holds("methods were met", met > 33);
    }
}
