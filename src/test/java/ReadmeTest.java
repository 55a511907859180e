import java.io.IOException;
import java.lang.reflect.InvocationTargetException;
import java.lang.reflect.Method;
import java.lang.reflect.Modifier;
import java.nio.file.Files;
import java.nio.file.Path;
import java.util.ArrayList;
import java.util.List;
import java.util.Set;
import java.util.TreeMap;
import java.util.TreeSet;
import java.util.regex.Matcher;
import java.util.regex.Pattern;
import java.util.stream.Stream;

/** What README.md says of the class is so: the calls and answers of its examples, and what it says of exceptions. */
public final class ReadmeTest {
    private static final Path FILE = Path.of("README.md");
    private static final Path TESTS = Path.of("src", "test", "java");
    private static final Pattern JAVA = Pattern.compile("(?s)```java\n(.*?)```");
    private static final Pattern CALL = Pattern.compile("yard\\.(\\w+)\\(([-0-9, ]*)\\); +// (-?\\d+|\\w+Exception): .+");
    private static final Pattern RANGE = Pattern.compile("not (\\d+) \\.\\. (\\d+)");
    private static final String NEW = "TrainYard yard = new TrainYard();";
    private static final List<Class<? extends RuntimeException>> COLUMNS =
            List.of(Check.INDEX, Check.STATE, Check.ARGUMENT);

    /** What the examples' calls answer, and what they throw, as "method" and "method exception". */
    private static final Set<String> answered = new TreeSet<>();
    private static final Set<String> thrown = new TreeSet<>();

    public static void main(String[] args) throws IOException {
        String text = Files.readString(FILE).replace("\r\n", "\n");
        Matcher blocks = JAVA.matcher(text);
        int examples = 0;
        while (blocks.find()) {
            examples++;
            example(examples, blocks.group(1));
        }
        Check.isTrue("there are examples", examples > 0);
        everyMethodIsShown();
        tableOfExceptions(text);
        numberOfCalls(text);
        everyTestIsNamed(text);
        Check.end();
    }

    private static void example(int number, String block) {
        String[] lines = block.split("\n");
        Check.equal("the first line of example " + number, lines[0], NEW);
        Run yard = new Run();
        for (int k = 1; k < lines.length; k++) {
            String name = "example " + number + ", " + lines[k];
            Matcher call = CALL.matcher(lines[k]);
            boolean isCall = call.matches();
            Check.isTrue(name + " is a call with its answer", isCall);
            if (isCall) {
                line(name, yard, call);
            }
        }
    }

    private static void line(String name, Run yard, Matcher call) {
        int[] arguments = numbers(call.group(2));
        Method method = method(call.group(1), arguments.length);
        Check.isTrue(name + " is a call of the class", method != null);
        if (method == null) {
            return;
        }
        String due = call.group(3);
        if (due.endsWith("Exception")) {
            thrown.add(method.getName() + ' ' + due);
            Check.refuses(yard, name, exception(due), () -> yard.call(y -> invoke(y, method, arguments)));
        } else {
            answered.add(method.getName());
            Check.equal(name, String.valueOf(yard.call(y -> invoke(y, method, arguments))), due);
        }
    }

    private static int[] numbers(String list) {
        return Stream.of(list.split(",")).map(String::strip).filter(n -> !n.isEmpty()).mapToInt(Integer::parseInt).toArray();
    }

    private static List<Method> face() {
        List<Method> found = new ArrayList<>();
        for (Method method : TrainYard.class.getDeclaredMethods()) {
            if (Modifier.isPublic(method.getModifiers())) {
                found.add(method);
            }
        }
        return found;
    }

    private static Method method(String name, int parameters) {
        for (Method method : face()) {
            if (method.getName().equals(name) && method.getParameterCount() == parameters) {
                return method;
            }
        }
        return null;
    }

    private static Class<? extends RuntimeException> exception(String name) {
        for (Class<? extends RuntimeException> column : COLUMNS) {
            if (column.getSimpleName().equals(name)) {
                return column;
            }
        }
        throw new AssertionError("README.md names an exception that the document does not: " + name);
    }

    private static int invoke(TrainYard yard, Method method, int[] arguments) {
        Object[] boxed = new Object[arguments.length];
        for (int k = 0; k < boxed.length; k++) {
            boxed[k] = arguments[k];
        }
        try {
            return (Integer) method.invoke(yard, boxed);
        } catch (InvocationTargetException e) {
            if (e.getCause() instanceof RuntimeException cause) {
                throw cause;
            }
            throw new AssertionError(e);
        } catch (IllegalAccessException e) {
            throw new AssertionError(e);
        }
    }

    /** Each method answers somewhere in the examples, and throws there each exception that it may throw. */
    private static void everyMethodIsShown() {
        Set<String> names = new TreeSet<>();
        Set<String> throwing = new TreeSet<>();
        for (Method method : face()) {
            names.add(method.getName());
            for (Class<?> type : method.getExceptionTypes()) {
                throwing.add(method.getName() + ' ' + type.getSimpleName());
            }
        }
        Check.equal("methods whose answers are shown", answered.toString(), names.toString());
        Check.equal("exceptions that are shown", thrown.toString(), throwing.toString());
    }

    /** A row names methods, and has a text in the column of each exception that they may throw. */
    private static void tableOfExceptions(String text) {
        TreeMap<String, String> due = new TreeMap<>();
        for (Method method : face()) {
            List<Class<?>> types = List.of(method.getExceptionTypes());
            due.put(method.getName(), types.toString());
        }
        TreeMap<String, String> told = new TreeMap<>();
        for (String row : text.split("\n")) {
            if (row.startsWith("| `")) {
                addRow(row, told);
            }
        }
        Check.equal("the table of what is thrown", told.toString(), due.toString());
        Check.isTrue("its columns stand in the document's order",
                text.contains("\n| Methods | `" + COLUMNS.get(0).getSimpleName() + "` | `" + COLUMNS.get(1).getSimpleName()
                        + "` | `" + COLUMNS.get(2).getSimpleName() + "` |\n"));
    }

    private static void addRow(String row, TreeMap<String, String> told) {
        String[] cells = row.split("\\|", -1);
        Check.equal("cells of " + row, cells.length, COLUMNS.size() + 3);
        List<Class<?>> types = new ArrayList<>();
        for (int k = 0; k < COLUMNS.size() && k + 2 < cells.length; k++) {
            if (!cells[k + 2].isBlank()) {
                types.add(COLUMNS.get(k));
            }
        }
        for (String name : cells[1].replace("`", "").strip().split(", ")) {
            Check.equal("rows of " + name, String.valueOf(told.put(name, types.toString())), "null");
            for (int k = 0; k < COLUMNS.size() && k + 2 < cells.length; k++) {
                range(name, COLUMNS.get(k), RANGE.matcher(cells[k + 2]));
            }
        }
    }

    /** What a row says to be "not 3 .. 8" throws at 2 and 9, and not at 3 and 8; it is the last argument. */
    private static void range(String name, Class<? extends RuntimeException> due, Matcher range) {
        if (!range.find()) {
            return;
        }
        int least = Integer.parseInt(range.group(1));
        int most = Integer.parseInt(range.group(2));
        for (int last : new int[] {least - 1, least, most, most + 1}) {
            boolean inside = last >= least && last <= most;
            Check.equal(name + " with " + last + " throws", thrownWith(name, last), inside ? "nothing" : due.getSimpleName());
        }
    }

    /** What is thrown when the last argument is this and the others are 0; register 0 holds a thing. */
    private static String thrownWith(String name, int last) {
        for (Method method : face()) {
            if (method.getName().equals(name)) {
                int[] arguments = new int[method.getParameterCount()];
                arguments[arguments.length - 1] = last;
                return thrownBy(Yards.two(), method, arguments);
            }
        }
        return "no such method";
    }

    private static String thrownBy(Run yard, Method method, int[] arguments) {
        try {
            yard.call(y -> invoke(y, method, arguments));
            return "nothing";
        } catch (RuntimeException e) {
            return e.getClass().getSimpleName();
        }
    }

    private static void numberOfCalls(String text) {
        Check.sentence("Promises 1 to 20 (What it is)", "An object is used for at most " + Run.MOST_CALLS + " calls after");
        Check.endOfSentences();
        Check.isTrue("README.md says for how many calls something is promised",
                text.contains("promises something for " + Run.MOST_CALLS + " calls of one object"));
    }

    private static void everyTestIsNamed(String text) throws IOException {
        List<String> names;
        try (Stream<Path> files = Files.list(TESTS)) {
            names = files.map(file -> file.getFileName().toString()).filter(name -> name.endsWith("Test.java")).toList();
        }
        for (String name : names) {
            String test = name.replace(".java", "");
            Check.isTrue("README.md names " + test, text.contains("\n- `" + test + "`: "));
        }
        Check.isTrue("there are tests", !names.isEmpty());
    }
}
