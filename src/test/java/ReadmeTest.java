import java.io.IOException;
import java.lang.reflect.Method;
import java.lang.reflect.Modifier;
import java.nio.file.DirectoryStream;
import java.nio.file.Files;
import java.nio.file.Path;
import java.util.regex.Matcher;
import java.util.regex.Pattern;

/** README.md: its example is called line by line, and every call, class inside and test stands in it. */
public final class ReadmeTest {
    private static final Pattern TYPE = Pattern.compile("type\\(market, \"(.*)\"\\);");
    private static final Pattern CALL = Pattern.compile("market\\.(\\w+)\\(([^)]*)\\); +// (-?\\w+).*");

    public static void main(String[] args) throws Exception {
        Path source = Path.of(System.getProperty("source", "src/main/java/FallMarket.java")).toAbsolutePath();
        Path root = source.getParent().getParent().getParent().getParent();
        String readme = Files.readString(root.resolve("README.md"));
        example(readme);
        names(readme, root.resolve("src/test/java"));
        Check.end("ReadmeTest");
    }

    private static void example(String readme) throws ReflectiveOperationException {
        int from = readme.indexOf("```java\n") + 8;
        FallMarket market = new FallMarket();
        int calls = 0;
        for (String line : readme.substring(from, readme.indexOf("```", from)).split("\n")) {
            Matcher typed = TYPE.matcher(line);
            Matcher call = CALL.matcher(line);
            if (typed.matches()) {
                Check.type(market, typed.group(1));
            } else if (call.matches()) {
                Check.due(line, true, answer(market, call.group(1), call.group(2)).equals(call.group(3)));
                calls++;
            } else {
                Check.due("'" + line + "' makes the object", true, line.equals("FallMarket market = new FallMarket();"));
            }
        }
        Check.due("the example has calls", true, calls > 20);
    }

    private static String answer(FallMarket market, String name, String told) throws ReflectiveOperationException {
        String[] parts = told.isEmpty() ? new String[0] : told.split(", ");
        for (Method method : FallMarket.class.getMethods()) {
            if (method.getName().equals(name)) {
                Object[] arguments = new Object[parts.length];
                for (int i = 0; i < parts.length; i++) {
                    boolean isInt = method.getParameterTypes()[i] == int.class;
                    arguments[i] = isInt ? (Object) Integer.valueOf(parts[i]) : (Object) Boolean.valueOf(parts[i]);
                }
                return String.valueOf(method.invoke(market, arguments));
            }
        }
        return "no call " + name;
    }

    private static void names(String readme, Path tests) throws IOException {
        for (Method method : FallMarket.class.getDeclaredMethods()) {
            if (Modifier.isPublic(method.getModifiers())) {
                Check.due("README tells of " + method.getName(), true, readme.contains("`" + method.getName() + "`"));
            }
        }
        for (Class<?> inner : FallMarket.class.getDeclaredClasses()) {
            Check.due("README tells of " + inner.getSimpleName(), true, readme.contains("`" + inner.getSimpleName() + "`"));
        }
        try (DirectoryStream<Path> files = Files.newDirectoryStream(tests, "*Test.java")) {
            for (Path file : files) {
                String name = file.getFileName().toString().replace(".java", "");
                Check.due("README tells of " + name, true, readme.contains("| `" + name + "` |"));
            }
        }
    }
}
