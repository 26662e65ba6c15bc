import java.io.IOException;
import java.lang.reflect.Method;
import java.nio.charset.StandardCharsets;
import java.nio.file.Files;
import java.nio.file.Path;
import java.util.HashMap;
import java.util.Map;
import java.util.Set;
import java.util.TreeSet;
import java.util.regex.Matcher;
import java.util.regex.Pattern;

/** What README.md tells of the class and of its tests is as it stands. */
final class ReadmeTest {
    private static final Pattern STEP = Pattern.compile("(?:int (\\w+) = )?router\\.(\\w+)\\((.*)\\); +// (-?\\d+).*");
    private static final Pattern CALL = Pattern.compile("\\| `(\\w+\\(.*?\\))`( \\*)? \\|.*");
    private static final Pattern CONSTANT = Pattern.compile("\\| `([A-Z]+)` \\| (-\\d+) \\|.*");
    private static final Pattern COMMAND = Pattern.compile("\\| `([rpl]\\d[^`]*)` \\|.*");
    private static final Pattern TEST = Pattern.compile("\\| `(\\w+Test)` \\|.*");

    public static void main(String[] args) throws IOException, ReflectiveOperationException {
        String page = Files.readString(Path.of("README.md"), StandardCharsets.UTF_8);
        String[] lines = page.split("\n");
        example(page.substring(page.indexOf("```java\n") + 8, page.indexOf("\n```\n")).split("\n"));
        calls(lines);
        constants(lines);
        commands(lines);
        tests(lines);
        Check.finish();
    }

    private static int value(String word, Map<String, Integer> named) {
        return named.containsKey(word) ? named.get(word) : Integer.parseInt(word);
    }

    /** Each line of the example behind the first one is a call, with its answer first in the comment. */
    private static void example(String[] lines) throws ReflectiveOperationException {
        Check.dueTrue("the first line", lines[0].equals("CallRouter router = new CallRouter();"));
        CallRouter router = new CallRouter();
        Map<String, Integer> named = new HashMap<>();
        for (int i = 1; i < lines.length; i++) {
            Matcher step = STEP.matcher(lines[i]);
            Check.dueTrue("a call and its answer: " + lines[i], step.matches());
            String[] words = step.group(3).isEmpty() ? new String[0] : step.group(3).split(", ");
            Class<?>[] types = new Class<?>[words.length];
            Object[] values = new Object[words.length];
            for (int k = 0; k < words.length; k++) {
                types[k] = int.class;
                values[k] = value(words[k], named);
            }
            Method method = CallRouter.class.getMethod(step.group(2), types);
            int answer = (Integer) method.invoke(router, values);
            Check.due(lines[i], answer, Integer.parseInt(step.group(4)));
            if (step.group(1) != null) {
                named.put(step.group(1), answer);
            }
        }
    }

    /** The calls of the document's face, a star behind those that it calls an act. */
    private static void calls(String[] lines) throws IOException {
        Set<String> due = new TreeSet<>();
        for (String member : Document.face()) {
            if (member.matches("\\w+ \\w+\\(.*\\)")) {
                String call = member.replaceAll("\\b(int|long|boolean) ", "");
                due.add(call + (isAct(member) ? " *" : ""));
            }
        }
        Set<String> told = new TreeSet<>();
        for (String line : lines) {
            Matcher call = CALL.matcher(line);
            if (call.matches()) {
                told.add(call.group(1) + (call.group(2) == null ? "" : call.group(2)));
            }
        }
        Check.due("the calls of the document", due.size(), 27);
        Check.dueTrue("the calls: " + told, told.equals(due));
    }

    private static boolean isAct(String member) throws IOException {
        for (String promise : Document.text().split("## Promise ")) {
            if (promise.contains("`" + member + "`")) {
                return promise.contains("This is an act") || promise.contains("This is one act");
            }
        }
        Check.dueTrue("there is a promise for " + member, false);
        return false;
    }

    private static void constants(String[] lines) throws ReflectiveOperationException {
        int found = 0;
        for (String line : lines) {
            Matcher constant = CONSTANT.matcher(line);
            if (constant.matches()) {
                found++;
                int value = CallRouter.class.getField(constant.group(1)).getInt(null);
                Check.due(constant.group(1), value, Integer.parseInt(constant.group(2)));
            }
        }
        Check.due("the constants", found, 4);
    }

    private static void commands(String[] lines) {
        int found = 0;
        for (String line : lines) {
            Matcher command = COMMAND.matcher(line);
            if (command.matches()) {
                found++;
                Check.due("run of " + command.group(1), Scenes.run(Scenes.switches(2), command.group(1)), 1);
            }
        }
        Check.due("the commands", found, 3);
        Check.due("l9 is not possible", Scenes.run(Scenes.switches(8), "l9"), -1000);
        Check.due("an error is told first", Scenes.run(Scenes.switches(8), "l9;l"), -104);
    }

    private static void tests(String[] lines) throws IOException {
        Set<String> told = new TreeSet<>();
        for (String line : lines) {
            Matcher test = TEST.matcher(line);
            if (test.matches()) {
                told.add(test.group(1) + ".java");
            }
        }
        Set<String> due = new TreeSet<>();
        try (var files = Files.list(Path.of("src/test/java"))) {
            files.map(file -> file.getFileName().toString()).filter(name -> name.endsWith("Test.java")).forEach(due::add);
        }
        Check.dueTrue("the tests: " + told, told.equals(due));
    }
}
