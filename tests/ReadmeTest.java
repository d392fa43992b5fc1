import java.io.File;
import java.io.IOException;
import java.lang.reflect.Method;
import java.nio.file.Files;
import java.nio.file.Path;
import java.util.Arrays;
import java.util.regex.Matcher;
import java.util.regex.Pattern;

/** README.md: its example answers as it says, its STATEMENTS are told as it says, and nothing is missing on it. */
public final class ReadmeTest extends Check {
    public static void main(String[] args) throws IOException, ReflectiveOperationException {
        String page = Files.readString(Path.of("README.md"));
        example(page);
        statements(page);
        numbers(page);
        calls(page);
        tests(page);
        end("ReadmeTest");
    }

    private static void example(String page) throws ReflectiveOperationException {
        of("README: the example");
        String code = between(page, "```java", "```");
        HelpedOnlyOnce town = new HelpedOnlyOnce();
        feedOnly(town, between(code, "String text = \"", "\";"));
        Matcher line = Pattern.compile("(?m)^town\\.(\\w+)\\(([-\\d, ]*)\\); +// (-?\\d+): \\S.*$").matcher(code);
        int answered = 0;
        while (line.find()) {
            due(line.group(), answer(town, line.group(1), line.group(2)), Integer.parseInt(line.group(3)));
            answered++;
        }
        int told = code.split("\ntown\\.", -1).length - 1;
        due("lines of the example that tell an answer", answered, told);
        due("it has some", told > 0 ? 1 : 0, 1);
    }

    private static int answer(HelpedOnlyOnce town, String call, String numbers) throws ReflectiveOperationException {
        Object[] arguments = numbers.isEmpty() ? new Object[0]
            : Arrays.stream(numbers.split(", ")).map(Integer::valueOf).toArray();
        Class<?>[] types = new Class<?>[arguments.length];
        Arrays.fill(types, int.class);
        return (Integer) HelpedOnlyOnce.class.getMethod(call, types).invoke(town, arguments);
    }

    private static void statements(String page) {
        of("README: how a town is told");
        HelpedOnlyOnce x = new HelpedOnlyOnce();
        Matcher statement = Pattern.compile("(?m)\\| `([pnl][\\d,]+;)` .*\\|$").matcher(page);
        int told = 0;
        while (statement.find()) {
            due(statement.group(1), feedAll(x, statement.group(1)), 1);
            told++;
        }
        due("examples of STATEMENTS", told, 3);
        due("a DOCTOR", x.person(0, 0), 1);
        due("at 15", x.person(0, 1), 15);
        int[] need = {0, 0, 5, 2, 0};
        for (int what = 0; what < need.length; what++) {
            due("need(0, " + what + ")", x.need(0, what), need[what]);
        }
        due("the LAW YEARS", x.count(7), YEARS);
        due("SPAN 3", setting(x, SPAN), 3);
        due("SIZE 3", setting(x, SIZE), 3);
    }

    // the document tells them in the same order: "KINDS: 0 PERSON; 1 DOCTOR under PERSON; .."
    private static void numbers(String page) throws IOException {
        of("README: what the numbers stand for");
        Path document = Path.of("../shared/DOC.md");
        if (!Files.exists(document)) {
            return;
        }
        String text = Files.readString(document);
        Matcher row = Pattern.compile("(?m)^\\| (KIND|LAW|RULE) \\|(.*)\\|$").matcher(page);
        int named = 0;
        while (row.find()) {
            String[] names = row.group(2).split("\\|");
            for (int number = 0; number < names.length; number++) {
                String name = names[number].trim();
                due(row.group(1) + " " + number + " " + name, name.isEmpty() || text.contains(number + " " + name) ? 1 : 0, 1);
                named += name.isEmpty() ? 0 : 1;
            }
        }
        due("KINDS, LAWS, RULES", named, 7 + 4 + 6);
    }

    private static void calls(String page) {
        of("README: the calls");
        String table = between(page, "### The calls", "## How to run its tests");
        for (Method m : HelpedOnlyOnce.class.getMethods()) {
            if (m.getDeclaringClass() == HelpedOnlyOnce.class) {
                Matcher named = Pattern.compile("`" + m.getName() + "\\(([a-z, ]*)\\)`").matcher(table);
                boolean found = named.find();
                due(m.getName() + " is named", found ? 1 : 0, 1);
                String numbers = found ? named.group(1) : "";
                due("numbers of " + m.getName(), numbers.isEmpty() ? 0 : numbers.split(", ").length, m.getParameterCount());
            }
        }
    }

    private static void tests(String page) {
        of("README: the tests");
        String[] files = new File("tests").list((in, name) -> name.endsWith("Test.java"));
        for (String file : files) {
            String name = file.substring(0, file.length() - ".java".length());
            due(name + " is told of", page.contains("| `" + name + "` |") ? 1 : 0, 1);
        }
        due("tests told of", page.split("\\| `\\w+Test` \\|", -1).length - 1, files.length);
    }

    private static String between(String text, String from, String to) {
        int begin = text.indexOf(from);
        int end = begin < 0 ? -1 : text.indexOf(to, begin + from.length());
        due("there is " + from.trim(), end < 0 ? 0 : 1, 1);
        return end < 0 ? "" : text.substring(begin + from.length(), end);
    }
}
