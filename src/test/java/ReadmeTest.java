import java.io.File;
import java.io.IOException;
import java.nio.file.Files;
import java.nio.file.Path;
import java.util.ArrayList;
import java.util.List;
import java.util.Set;
import java.util.TreeSet;
import java.util.regex.Matcher;
import java.util.regex.Pattern;
import java.util.stream.Stream;

/** README.md: its example answers what it says there, and it tells of every call and every test. */
public final class ReadmeTest {
    public static void main(String[] args) throws Exception {
        String readme = Files.readString(Path.of("README.md"));
        Path place = Files.createTempDirectory("readme");
        try {
            example(readme, place);
        } finally {
            remove(place);
        }
        everyTest(readme);
        everyCall(readme);
        Due.end("ReadmeTest");
    }

    /** All rows of code together are one program; behind each row that prints stands what it prints. */
    private static void example(String readme, Path place) throws Exception {
        StringBuilder body = new StringBuilder();
        Matcher code = Pattern.compile("(?s)```java\n(.*?)```").matcher(readme);
        while (code.find()) {
            body.append(code.group(1));
        }
        List<String> want = new ArrayList<>();
        Matcher prints = Pattern.compile("println\\(.*\\); *// ([^:\n]+)").matcher(body);
        while (prints.find()) {
            want.add(prints.group(1).trim());
        }
        Due.isTrue("rows that print were found", want.size() > 10);
        Due.is("each row that prints says what", body.toString().split("println", -1).length - 1, want.size());
        Path source = place.resolve("Example.java");
        Files.writeString(source, "public final class Example {\n    public static void main(String[] args) {\n"
            + body + "    }\n}\n");
        String own = System.getProperty("java.class.path");
        run("javac", "-cp", own, "-d", place.toString(), source.toString());
        List<String> got = run("java", "-cp", own + File.pathSeparator + place, "Example");
        Due.is("how many rows it prints", got.size(), want.size());
        for (int i = 0; i < got.size() && i < want.size(); i++) {
            Due.isTrue("row " + i + " prints " + got.get(i) + ", README says " + want.get(i),
                got.get(i).equals(want.get(i)));
        }
    }

    private static List<String> run(String... command) throws Exception {
        Process process = new ProcessBuilder(command).redirectError(ProcessBuilder.Redirect.INHERIT).start();
        List<String> rows = new String(process.getInputStream().readAllBytes()).lines().toList();
        Due.is(command[0] + " of the example ends with", process.waitFor(), 0);
        return rows;
    }

    private static void remove(Path place) throws IOException {
        try (Stream<Path> files = Files.list(place)) {
            for (Path file : files.toList()) {
                Files.delete(file);
            }
        }
        Files.delete(place);
    }

    private static void everyTest(String readme) throws IOException {
        Set<String> there = new TreeSet<>();
        try (Stream<Path> files = Files.list(Path.of("src/test/java"))) {
            files.map(file -> file.getFileName().toString()).filter(name -> name.endsWith("Test.java"))
                .forEach(name -> there.add(name.replace(".java", "")));
        }
        Set<String> told = new TreeSet<>();
        Matcher row = Pattern.compile("(?m)^\\| (\\w+Test) \\|").matcher(readme);
        while (row.find()) {
            told.add(row.group(1));
        }
        Due.isTrue("tests that are told " + told + ", that are there " + there, told.equals(there));
    }

    private static void everyCall(String readme) {
        for (Calls call : Calls.values()) {
            String name = call.name().toLowerCase();
            Due.isTrue("README tells of " + name, readme.contains("`" + name + "("));
        }
    }
}
