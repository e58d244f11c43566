import java.io.IOException;
import java.lang.reflect.InvocationTargetException;
import java.lang.reflect.Method;
import java.lang.reflect.Modifier;
import java.nio.file.Files;
import java.nio.file.Path;
import java.util.NoSuchElementException;
import java.util.TreeSet;

/** The example of README.md answers as that page tells, and the page names every call of the face. */
public final class ReadmeTest {
    private static final Checks CHECKS = new Checks();

    public static void main(String[] args) throws IOException, ReflectiveOperationException {
        String page = Files.readString(Path.of("README.md"));
        exampleAnswers(block(page, "text"), block(page, "calls"));
        namesEveryCall(page);
        CHECKS.end();
    }

    /** What stands between the lines ```kind and ```. */
    private static String block(String page, String kind) {
        String opening = "\n```" + kind + "\n";
        int from = page.indexOf(opening);
        int to = from < 0 ? -1 : page.indexOf("\n```", from + opening.length());
        CHECKS.due("a block of " + kind + " in README.md", to >= 0, true);
        return to < 0 ? "" : page.substring(from + opening.length(), to);
    }

    private static void exampleAnswers(String text, String calls) throws ReflectiveOperationException {
        StationStarter starter = new StationStarter();
        Feeder.feed(starter, text);
        int told = 0;
        for (String line : calls.split("\n")) {
            String[] parts = line.split("[(),= ]+");
            String[] arguments = new String[Math.max(0, parts.length - 2)];
            for (int i = 0; i < arguments.length; i++) {
                arguments[i] = parts[i + 1];
            }
            CHECKS.due(line, call(starter, parts[0], arguments), Integer.parseInt(parts[parts.length - 1]));
            told++;
        }
        CHECKS.due("calls told in README.md, ten or more", told >= 10, true);
    }

    private static int call(StationStarter starter, String name, String[] arguments) throws ReflectiveOperationException {
        for (Method method : StationStarter.class.getMethods()) {
            if (!method.getName().equals(name) || method.getParameterCount() != arguments.length) {
                continue;
            }
            Object[] numbers = new Object[arguments.length];
            for (int i = 0; i < numbers.length; i++) {
                numbers[i] = Integer.valueOf(arguments[i]);
            }
            try {
                return (Integer) method.invoke(starter, numbers);
            } catch (InvocationTargetException e) {
                if (e.getCause() instanceof NoSuchElementException) {
                    return Checks.THROWS;
                }
                throw e;
            }
        }
        CHECKS.due("a call " + name + " of the face", false, true);
        return Checks.THROWS;
    }

    private static void namesEveryCall(String page) {
        TreeSet<String> missing = new TreeSet<>();
        for (Method method : StationStarter.class.getDeclaredMethods()) {
            boolean open = Modifier.isPublic(method.getModifiers());
            if (open && !page.contains("`" + method.getName() + "`") && !page.contains("`" + method.getName() + "(")) {
                missing.add(method.getName());
            }
        }
        CHECKS.due("calls that README.md does not name: " + missing, missing.size(), 0);
    }
}
