import java.io.IOException;
import java.lang.reflect.Method;
import java.lang.reflect.Modifier;
import java.nio.file.Files;
import java.nio.file.Path;
import java.util.List;
import java.util.Set;
import java.util.TreeSet;
import java.util.regex.Matcher;
import java.util.regex.Pattern;
import java.util.stream.Collectors;
import java.util.stream.Stream;

/** README.md: its example answers as it says, its tables tell every call, with as many numbers, and every test. */
public final class ReadmeTest {
    private static final Pattern ASKED = Pattern.compile("x\\.(\\w+)\\((.*)\\);\\s+// (-?\\d+): .*");
    private static final Pattern ROW = Pattern.compile("\\| `(\\w+)\\(([^)]*)\\)` \\| [^|]+ \\| [^|]*\\|");

    public static void main(String[] args) throws IOException {
        List<String> lines = Files.readAllLines(Path.of("README.md"));
        example(lines);
        calls(lines);
        tests(lines);
        Due.end();
    }

    private static void example(List<String> lines) {
        int first = lines.indexOf("StepsBeyond x = new StepsBeyond();") + 1;
        Due.holds("README.md has an example", first > 0);
        StepsBeyond x = new StepsBeyond();
        for (int i = first; i < lines.size() && !lines.get(i).equals("```"); i++) {
            Matcher asked = ASKED.matcher(lines.get(i));
            Due.holds("a call with its answer: " + lines.get(i), asked.matches());
            String numbers = asked.group(2).replaceAll("L\\b", "");
            int answer = Script.answer(x, asked.group(1), Script.argsOf(asked.group(1), numbers));
            Due.is("README.md: " + lines.get(i), answer, Integer.parseInt(asked.group(3)));
        }
    }

    private static void calls(List<String> lines) {
        Set<String> told = new TreeSet<>();
        for (String line : lines) {
            Matcher row = ROW.matcher(line);
            if (row.matches()) {
                int numbers = row.group(2).isEmpty() ? 0 : row.group(2).split(",").length;
                Due.holds("told once: " + line, told.add(row.group(1) + " of " + numbers));
            }
        }
        Set<String> face = new TreeSet<>();
        for (Method m : StepsBeyond.class.getDeclaredMethods()) {
            if (Modifier.isPublic(m.getModifiers())) {
                face.add(m.getName() + " of " + m.getParameterCount());
            }
        }
        Due.holds("README.md tells " + told + ", the face has " + face, told.equals(face));
    }

    private static void tests(List<String> lines) throws IOException {
        Set<String> told = lines.stream().filter(line -> line.startsWith("| ")).map(line -> line.split("\\|")[1])
            .flatMap(names -> Stream.of(names.split(","))).map(String::trim).filter(name -> name.endsWith("Test"))
            .collect(Collectors.toSet());
        try (Stream<Path> files = Files.list(Path.of("src/test/java"))) {
            Set<String> there = files.map(file -> file.getFileName().toString()).filter(name -> name.endsWith("Test.java"))
                .map(name -> name.replace(".java", "")).collect(Collectors.toSet());
            Due.holds("README.md tells " + told + ", there are " + there, told.equals(there));
        }
    }
}
