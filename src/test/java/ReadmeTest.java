import java.io.IOException;
import java.lang.reflect.Field;
import java.lang.reflect.Method;
import java.lang.reflect.Modifier;
import java.nio.file.Files;
import java.nio.file.Path;
import java.util.Set;
import java.util.TreeSet;
import java.util.regex.Matcher;
import java.util.regex.Pattern;
import java.util.stream.Stream;

/** What README.md tells of the class is so: its example, its calls, its constants and its tests. */
public final class ReadmeTest {
    private static final Pattern TYPING = Pattern.compile(
            "for \\(char c : \"([^\"]*)\".toCharArray\\(\\)\\) x.type\\((\\d), c\\);\\s+// true\\b.*");
    private static final Pattern CALL = Pattern.compile("x\\.(\\w+)\\(([^)]*)\\);\\s+// (\\w+).*");
    private static final Pattern SIGNATURE = Pattern.compile("(?m)^\\| `(\\w+ \\w+\\([^)]*\\))` \\|");
    private static final Pattern CONSTANT = Pattern.compile("(?m)^\\| `([A-Z]+)` \\| (-\\d) \\|");
    private static final Pattern TEST = Pattern.compile("(?m)^\\| `(\\w+Test)` \\|");

    public static void main(String[] args) throws IOException, ReflectiveOperationException {
        String readme = Files.readString(Path.of("README.md"));
        example(readme);
        calls(readme);
        constants(readme);
        tests(readme);
        Check.end();
    }

    private static void example(String readme) {
        Check.sentence("README: 'An example with every call, and what each answers'");
        String begin = "```java\nRecordMatcher x = new RecordMatcher();\n";
        int from = readme.indexOf(begin) + begin.length();
        Talk talk = new Talk(new RecordMatcher());
        Set<String> asked = new TreeSet<>();
        for (String row : readme.substring(from, readme.indexOf("```", from)).split("\n")) {
            Matcher typing = TYPING.matcher(row);
            Matcher call = CALL.matcher(row);
            if (typing.matches()) {
                asked.add("type");
                talk.say("type " + typing.group(2) + " '" + typing.group(1) + "' = true");
            } else if (call.matches()) {
                asked.add(call.group(1));
                talk.say(call.group(1) + " " + call.group(2).replace(",", "") + " = " + call.group(3));
            } else {
                Check.due("row that can't be read: " + row, row.isEmpty(), true);
            }
        }
        Set<String> names = new TreeSet<>();
        for (Method method : publicMethods()) {
            names.add(method.getName());
        }
        Check.due("the example's calls " + asked, asked.equals(names), true);
    }

    private static Method[] publicMethods() {
        return Stream.of(RecordMatcher.class.getDeclaredMethods())
                .filter(method -> Modifier.isPublic(method.getModifiers())).toArray(Method[]::new);
    }

    private static void calls(String readme) {
        Check.sentence("README: 'The calls'");
        Set<String> face = new TreeSet<>();
        for (Method method : publicMethods()) {
            face.add(FaceTest.written(method));
        }
        Set<String> told = new TreeSet<>();
        Matcher signature = SIGNATURE.matcher(readme);
        while (signature.find()) {
            told.add(signature.group(1).replaceAll("(int|char|boolean) \\w+([,)])", "$1$2"));
        }
        Check.due("the calls " + told, told.equals(face), true);
    }

    private static void constants(String readme) throws ReflectiveOperationException {
        Check.sentence("README: 'Refusals'");
        int told = 0;
        Matcher constant = CONSTANT.matcher(readme);
        while (constant.find()) {
            Field field = RecordMatcher.class.getField(constant.group(1));
            Check.due(constant.group(1), Integer.parseInt(constant.group(2)), field.getInt(null));
            told++;
        }
        Check.due("constants", told, RecordMatcher.class.getFields().length);
    }

    private static void tests(String readme) throws IOException {
        Check.sentence("README: 'Tests'");
        Set<String> there = new TreeSet<>();
        try (Stream<Path> files = Files.list(Path.of("src/test/java"))) {
            files.map(file -> file.getFileName().toString()).filter(name -> name.endsWith("Test.java"))
                    .forEach(name -> there.add(name.replace(".java", "")));
        }
        Set<String> told = new TreeSet<>();
        Matcher test = TEST.matcher(readme);
        while (test.find()) {
            told.add(test.group(1));
        }
        Check.due("the tests " + told, told.equals(there), true);
    }
}
