import java.io.File;
import java.lang.reflect.Method;
import java.lang.reflect.Modifier;
import java.nio.file.Files;
import java.nio.file.Path;
import java.util.Set;
import java.util.TreeSet;
import java.util.regex.Matcher;
import java.util.regex.Pattern;

/** What README.md says holds: its examples are run, and it names every call, class, test and promise, and no others. */
public final class ReadmeTest {
    private static final Due due = new Due("ReadmeTest");

    public static void main(String[] args) throws Exception {
        String page = Files.readString(Path.of(args.length > 0 ? args[0] : "README.md"));
        examples(page);
        names(page);
        due.end();
    }

    private static void examples(String page) throws Exception {
        Matcher block = Pattern.compile("(?s)```java\n(.*?)```").matcher(page);
        int answers = 0;
        while (block.find()) {
            FourOnOne x = null;
            for (String line : block.group(1).split("\n")) {
                Matcher call = Pattern.compile("x\\.(\\w+)\\(([^)]*)\\);\\s*// (-?\\d+|true|false)\\b.*").matcher(line);
                Matcher feed = Pattern.compile("Due\\.feed\\(x, \"([^\"]*)\"\\);").matcher(line);
                if (line.equals("FourOnOne x = new FourOnOne();")) {
                    x = new FourOnOne();
                } else if (feed.matches()) {
                    Due.feed(x, feed.group(1));
                } else if (call.matches()) {
                    due.is(line, number(answer(x, call.group(1), call.group(2))), number(call.group(3)));
                    answers++;
                } else {
                    due.is("a line that can be run: " + line, false, true);
                }
            }
        }
        due.is("answers in examples: " + answers, answers > 20, true);
    }

    private static String answer(FourOnOne x, String name, String numbers) throws Exception {
        String[] parts = numbers.isEmpty() ? new String[0] : numbers.split(", ");
        Object[] values = new Object[parts.length];
        Class<?>[] types = new Class<?>[parts.length];
        for (int k = 0; k < parts.length; k++) {
            values[k] = Integer.decode(parts[k]);
            types[k] = int.class;
        }
        return String.valueOf(FourOnOne.class.getMethod(name, types).invoke(x, values));
    }

    private static long number(String answer) {
        return answer.equals("true") ? 1 : answer.equals("false") ? 0 : Long.parseLong(answer);
    }

    private static void names(String page) {
        Set<String> calls = new TreeSet<>();
        for (Method method : FourOnOne.class.getDeclaredMethods()) {
            if (Modifier.isPublic(method.getModifiers())) {
                calls.add(method.getName());
            }
        }
        alike("calls", firstColumn(page, "| calls | for |"), calls);

        Set<String> classes = new TreeSet<>(Set.of("FourOnOne"));
        for (Class<?> inside : FourOnOne.class.getDeclaredClasses()) {
            classes.add(inside.getSimpleName());
        }
        alike("classes", firstColumn(page, "| class | what it does |"), classes);

        Set<String> tests = new TreeSet<>();
        for (String file : new File("src/test/java").list()) {
            if (file.endsWith("Test.java")) {
                tests.add(file.substring(0, file.length() - 5));
            }
        }
        alike("tests", firstColumn(page, "| test | promises |"), tests);
        promises(page);
    }

    private static void alike(String what, Set<String> told, Set<String> there) {
        due.is(what + " told " + told + ", there are " + there, told.equals(there), true);
    }

    /** The names in the first column of the table with that head. */
    private static Set<String> firstColumn(String page, String head) {
        Set<String> names = new TreeSet<>();
        int from = page.indexOf(head);
        due.is("a table " + head, from >= 0, true);
        for (String row : page.substring(Math.max(from, 0)).split("\n")) {
            if (!row.startsWith("|")) {
                break;
            }
            Matcher name = Pattern.compile("`(\\w+)`").matcher(row.split("\\|")[1]);
            while (name.find()) {
                names.add(name.group(1));
            }
        }
        return names;
    }

    /** Each promise by its number and its name, as the document heads it, with a test of its own. */
    private static void promises(String page) {
        String[] of = {"a new object", "feed", "end", "house", "fault", "has", "letter", "film", "person", "taste", "seen",
            "suggest", "worth", "kept", "pleased", "refused", "pressing", "rest", "gone", "sow", "who", "sofa", "share",
            "tell", "pressed", "press", "show", "hours", "chance", "undo", "seed", "ask", "image", "octet", "on", "status"};
        for (int k = 0; k < of.length; k++) {
            boolean there = Pattern.compile("\\| `\\w+Test` \\|.*\\b" + (k + 1) + " " + of[k] + "\\b").matcher(page).find();
            due.is("promise " + (k + 1) + " " + of[k], there, true);
        }
    }
}
