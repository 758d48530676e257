import java.io.IOException;
import java.lang.reflect.InvocationTargetException;
import java.lang.reflect.Method;
import java.lang.reflect.Modifier;
import java.nio.file.Files;
import java.nio.file.Path;
import java.util.ArrayList;
import java.util.List;
import java.util.Set;
import java.util.TreeSet;
import java.util.regex.Matcher;
import java.util.regex.Pattern;
import java.util.stream.Stream;

/** That what README.md says is so; run from the project's directory. */
public final class ReadmeTest {
    private static final Check CHECK = new Check();
    private static final Pattern TEXT = Pattern.compile("for \\(char c : \"([^\"]*)\"\\.toCharArray.*");
    private static final Pattern CALL =
            Pattern.compile("town\\.(\\w+)\\(([-0-9, ]*)\\); +// (?:throws (\\w+)|(-?\\d+))(?:[ :].*)?");
    private static final Pattern TEST_NAME = Pattern.compile("`(\\w+Test)`");
    private static final Set<String> NOT_QUESTIONS = Set.of("appendByte", "load", "advance", "park", "pay", "leave",
            "inspect", "payFines", "towNext", "setRate", "saveSnapshot", "restoreSnapshot");
    private static final Set<String> BY_INDEX =
            Set.of("logMinute", "logKind", "logCar", "logAmount", "tourCar", "tourPound");
    private static final Set<String> BY_TICKET = Set.of("ticketAmount", "ticketMinute");

    /** "A run, with what each call answers behind it" */
    private static void theRun(List<String> readme) {
        ParkingEnforcement town = new ParkingEnforcement();
        int begin = readme.indexOf("```java");
        int calls = 0;
        for (String line : readme.subList(begin + 1, readme.size())) {
            if (line.equals("```")) {
                break;
            }
            Matcher text = TEXT.matcher(line);
            Matcher call = CALL.matcher(line);
            if (text.matches()) {
                Check.append(town, text.group(1));
            } else if (call.matches()) {
                String due = call.group(3) == null ? call.group(4) : call.group(3);
                CHECK.due(line, List.of(answer(town, methodOf(call.group(1)), numbers(call.group(2)))), List.of(due));
                calls++;
            } else {
                CHECK.due("README.md: " + line + ": a call of the run", line.startsWith("town."), false);
            }
        }
        CHECK.due("README.md: calls in the run", calls, 39);
    }

    /** "All other methods change nothing." */
    private static void theQuestions() {
        List<String> before = Look.whole(BusyTown.make(CHECK));
        for (Method method : methods()) {
            if (!NOT_QUESTIONS.contains(method.getName())) {
                ParkingEnforcement x = BusyTown.make(CHECK);
                for (int[] arguments : allOf(method.getParameterCount(), -1, 0, 1, 2)) {
                    answer(x, method, arguments);
                }
                CHECK.due(method.getName() + " changes nothing", Look.whole(x), before);
            }
        }
    }

    /** "No other method throws." */
    private static void theExceptions() {
        for (Method method : methods()) {
            String name = method.getName();
            String due = name.equals("advance") ? "IllegalArgumentException"
                    : BY_TICKET.contains(name) ? "NoSuchElementException"
                    : BY_INDEX.contains(name) ? "IndexOutOfBoundsException" : "";
            for (int far : new int[] {-1, 10000000, Integer.MIN_VALUE, Integer.MAX_VALUE}) {
                int[] arguments = allOf(method.getParameterCount(), far).get(0);
                String got = answer(new ParkingEnforcement(), method, arguments);
                CHECK.due(name + " of " + far, List.of(got.endsWith("Exception") ? got : ""), List.of(due));
            }
        }
    }

    /** "the list here names every test" */
    private static void theList(List<String> readme) throws IOException {
        Set<String> named = new TreeSet<>();
        for (String line : readme) {
            Matcher name = TEST_NAME.matcher(line);
            while (name.find()) {
                named.add(name.group(1));
            }
        }
        Set<String> present = new TreeSet<>();
        try (Stream<Path> files = Files.list(Path.of("src/test/java"))) {
            files.map(file -> file.getFileName().toString()).filter(file -> file.endsWith("Test.java"))
                    .forEach(file -> present.add(file.substring(0, file.length() - ".java".length())));
        }
        CHECK.due("README.md: the tests", List.copyOf(named), List.copyOf(present));
    }

    private static List<Method> methods() {
        List<Method> methods = new ArrayList<>();
        for (Method method : ParkingEnforcement.class.getDeclaredMethods()) {
            if (Modifier.isPublic(method.getModifiers())) {
                methods.add(method);
            }
        }
        CHECK.due("methods", methods.size(), 60);
        return methods;
    }

    private static Method methodOf(String name) {
        for (Method method : methods()) {
            if (method.getName().equals(name)) {
                return method;
            }
        }
        throw new IllegalArgumentException("there is no method " + name);
    }

    /** What a call answers, or the simple name of what it throws. */
    private static String answer(ParkingEnforcement x, Method method, int[] arguments) {
        Object[] boxed = new Object[arguments.length];
        for (int i = 0; i < boxed.length; i++) {
            boxed[i] = arguments[i];
        }
        try {
            return String.valueOf(method.invoke(x, boxed));
        } catch (InvocationTargetException e) {
            return e.getCause().getClass().getSimpleName();
        } catch (IllegalAccessException e) {
            throw new IllegalStateException(e);
        }
    }

    private static int[] numbers(String list) {
        return list.isEmpty() ? new int[0] : Stream.of(list.split(", ")).mapToInt(Integer::parseInt).toArray();
    }

    /** All rows of so many of the values. */
    private static List<int[]> allOf(int length, int... values) {
        List<int[]> rows = new ArrayList<>();
        rows.add(new int[length]);
        for (int i = 0; i < length; i++) {
            List<int[]> longer = new ArrayList<>();
            for (int[] row : rows) {
                for (int value : values) {
                    int[] next = row.clone();
                    next[i] = value;
                    longer.add(next);
                }
            }
            rows = longer;
        }
        return rows;
    }

    public static void main(String[] args) throws IOException {
        List<String> readme = Files.readAllLines(Path.of("README.md"));
        theRun(readme);
        theQuestions();
        theExceptions();
        theList(readme);
        CHECK.end();
    }
}
