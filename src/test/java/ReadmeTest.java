import java.io.IOException;
import java.lang.reflect.InvocationTargetException;
import java.lang.reflect.Method;
import java.lang.reflect.Modifier;
import java.nio.charset.StandardCharsets;
import java.nio.file.Files;
import java.nio.file.Path;
import java.util.regex.Matcher;
import java.util.regex.Pattern;

/**
 * README.md tells the calls in the document's words, and its example answers as it says. Both files
 * are looked for from the project's directory, where .ci/run goes.
 */
public final class ReadmeTest {
    private static final Path README = Path.of("README.md");
    private static final Path DOCUMENT = Path.of("../shared/DOC.md");
    private static final Pattern SECTION = Pattern.compile("(?ms)^## (.*?)\\n(.*?)(?=^## |\\z)");
    private static final Pattern EXAMPLE = Pattern.compile("(?ms)^```java\\n(.*?)^```");
    private static final Pattern CALL = Pattern.compile("desk\\.(\\w+)\\((.*?)\\); +// ([-\\w]+)(.*)");

    private static int wrong = 0;

    public static void main(String[] args) throws IOException, ReflectiveOperationException {
        String readme = Files.readString(README, StandardCharsets.UTF_8);
        checkWords(inOneLine(readme), Files.readString(DOCUMENT, StandardCharsets.UTF_8));
        checkExample(readme);
        System.out.println(wrong == 0 ? "README.md tells what is so" : wrong + " faults");
        if (wrong != 0) {
            System.exit(1);
        }
    }

    private static void check(String fault, boolean holds) {
        if (!holds) {
            wrong++;
            System.out.println(fault);
        }
    }

    private static String inOneLine(String text) {
        return text.replaceAll("\\s+", " ").trim();
    }

    private static void checkWords(String readme, String document) {
        int promises = 0;
        Matcher section = SECTION.matcher(document);
        while (section.find()) {
            String title = section.group(1);
            boolean promise = title.startsWith("Promise ");
            if (promise || title.equals("What it is") || title.equals("Terms")) {
                for (String paragraph : section.group(2).trim().split("\\n\\s*\\n")) {
                    String words = inOneLine(paragraph);
                    check(title + ": not in README.md: " + words, readme.contains(words));
                }
            }
            promises += promise ? 1 : 0;
        }
        check("the document has " + promises + " promises", promises == 23);
    }

    private static void checkExample(String readme) throws ReflectiveOperationException {
        Matcher example = EXAMPLE.matcher(readme);
        check("README.md has no example", example.find());
        JuryDesk desk = new JuryDesk();
        StringBuilder called = new StringBuilder();
        for (String line : example.group(1).split("\\n")) {
            Matcher call = CALL.matcher(line);
            if (call.matches()) {
                checkCall(desk, call);
                called.append(call.group(1)).append(' ');
            } else {
                check("no call: " + line, line.equals("JuryDesk desk = new JuryDesk();"));
            }
        }
        for (Method method : JuryDesk.class.getDeclaredMethods()) {
            boolean open = Modifier.isPublic(method.getModifiers());
            boolean shown = (" " + called).contains(" " + method.getName() + " ");
            check("the example does not show " + method.getName(), shown || !open);
        }
    }

    private static void checkCall(JuryDesk desk, Matcher call) throws ReflectiveOperationException {
        Method method = methodNamed(call.group(1));
        String answer;
        try {
            answer = String.valueOf(method.invoke(desk, argumentsOf(method, call.group(2))));
        } catch (InvocationTargetException e) {
            answer = "throws " + e.getCause();
        }
        String told = method.getReturnType() == void.class ? "null" : call.group(3);
        check(call.group() + ": answered " + answer, answer.equals(told));
    }

    private static Method methodNamed(String name) throws NoSuchMethodException {
        for (Method method : JuryDesk.class.getMethods()) {
            if (method.getName().equals(name)) {
                return method;
            }
        }
        throw new NoSuchMethodException(name);
    }

    private static Object[] argumentsOf(Method method, String text) {
        Class<?>[] types = method.getParameterTypes();
        Object[] arguments = new Object[types.length];
        String[] words = text.split(", ");
        for (int i = 0; i < types.length; i++) {
            arguments[i] = types[i] == int.class ? (Object) Integer.valueOf(words[i])
                : types[i] == long.class ? (Object) Long.valueOf(words[i])
                : (Object) Boolean.valueOf(words[i]);
        }
        return arguments;
    }
}
