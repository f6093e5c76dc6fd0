import java.io.IOException;
import java.lang.reflect.Constructor;
import java.lang.reflect.Method;
import java.lang.reflect.Modifier;
import java.nio.file.Files;
import java.nio.file.Path;
import java.util.ArrayList;
import java.util.List;
import java.util.regex.Matcher;
import java.util.regex.Pattern;

/** README.md names each call of the face as it is, and its examples answer what stands behind them. */
public final class ReadmeTest {
    private static final Pattern MAKING = Pattern.compile("GatedTrunk trunk = new GatedTrunk\\((.*)\\);");
    private static final Pattern CALLING = Pattern.compile("trunk\\.(\\w+)\\((.*)\\);\\s+// (-?\\d+|true|false)(:.*)?");
    private static final int LEAST_EXAMPLES = 3;

    public static void main(String[] args) throws IOException, ReflectiveOperationException {
        Path page = Path.of(args.length > 0 ? args[0] : "README.md");
        List<String> lines = Files.readAllLines(page);
        Check.part("README.md");
        checkNames(String.join("\n", lines));
        int examples = 0;
        for (List<String> example : examplesOf(lines)) {
            runExample(example);
            examples++;
        }
        Check.yes("examples enough", examples >= LEAST_EXAMPLES);
        Check.finish();
    }

    private static void checkNames(String page) {
        for (Constructor<?> constructor : GatedTrunk.class.getConstructors()) {
            checkNamed(page, "new GatedTrunk", constructor.getParameterTypes());
        }
        for (Method method : GatedTrunk.class.getDeclaredMethods()) {
            if (Modifier.isPublic(method.getModifiers())) {
                checkNamed(page, method.getReturnType() + " " + method.getName(), method.getParameterTypes());
            }
        }
    }

    private static void checkNamed(String page, String call, Class<?>[] types) {
        List<String> parameters = new ArrayList<>();
        for (Class<?> type : types) {
            parameters.add(type + " \\w+");
        }
        String sign = call + "\\(" + String.join(", ", parameters) + "\\)";
        Check.yes("the page names " + sign, Pattern.compile(sign).matcher(page).find());
    }

    private static List<List<String>> examplesOf(List<String> lines) {
        List<List<String>> examples = new ArrayList<>();
        boolean inside = false;
        for (String line : lines) {
            if (line.equals("```java")) {
                examples.add(new ArrayList<>());
                inside = true;
            } else if (line.startsWith("```")) {
                inside = false;
            } else if (inside) {
                examples.get(examples.size() - 1).add(line);
            }
        }
        return examples;
    }

    private static void runExample(List<String> example) throws ReflectiveOperationException {
        GatedTrunk trunk = null;
        for (String line : example) {
            Matcher making = MAKING.matcher(line);
            Matcher calling = CALLING.matcher(line);
            if (making.matches()) {
                trunk = (GatedTrunk) GatedTrunk.class.getConstructors()[0].newInstance(values(making.group(1)));
            } else if (trunk != null && calling.matches()) {
                Object answer = methodNamed(calling.group(1)).invoke(trunk, values(calling.group(2)));
                Check.yes(line + " (it answered " + answer + ")", calling.group(3).equals(answer.toString()));
            } else {
                Check.yes("a line that can be run: " + line, false);
            }
        }
    }

    private static Method methodNamed(String name) throws NoSuchMethodException {
        for (Method method : GatedTrunk.class.getDeclaredMethods()) {
            if (Modifier.isPublic(method.getModifiers()) && method.getName().equals(name)) {
                return method;
            }
        }
        throw new NoSuchMethodException(name);
    }

    private static Object[] values(String arguments) {
        List<Object> found = new ArrayList<>();
        for (String argument : arguments.split(", ")) {
            if (argument.equals("true") || argument.equals("false")) {
                found.add(Boolean.valueOf(argument));
            } else if (!argument.isEmpty()) {
                found.add(Integer.valueOf(argument));
            }
        }
        return found.toArray();
    }
}
