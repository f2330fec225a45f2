import java.io.IOException;
import java.lang.reflect.Method;
import java.lang.reflect.Modifier;
import java.nio.file.Files;
import java.nio.file.Path;
import java.util.ArrayList;
import java.util.List;
import java.util.regex.Matcher;
import java.util.regex.Pattern;

/** The examples of the document as they stand there, and those of README.md. */
final class ExampleTests extends DocumentRuns {
  private static final Pattern EXAMPLE = Pattern.compile("([A-Z][^`:()]*): ([^`]*?)```text([^`]*?)```");
  private static final Pattern SHOWN = Pattern.compile("shop\\.(\\w+\\([^)]*\\)); *// (.*)");
  private static final String[] TITLES = {"Four links of wheels, a drum with a pin, and wear",
      "Planet wheels, a cam, and what is made of wishes", "Bars, limits, angles and teeth"};
  private static final int[] CALLS = {37, 36, 18};

  static void all(Path root) throws IOException {
    document(between(written(), EXAMPLES, "## Promise 1:"));
    String readme = Files.readString(root.resolve("README.md"));
    readmeExamples(readme);
    readmeNames(readme, root);
  }

  private static void document(String examples) {
    Matcher m = EXAMPLE.matcher(examples);
    int found = 0;
    while (m.find()) {
      String calls = plain(m.group(2) + " " + m.group(3));
      example(m.group(1), calls.endsWith(".") ? calls.substring(0, calls.length() - 1) : calls + " (no end)");
      found++;
    }
    if (found != TITLES.length) fault(0, EXAMPLES, "has " + found + " examples, not " + TITLES.length);
  }

  private static void example(String title, String calls) {
    int at = List.of(TITLES).indexOf(title);
    if (at < 0) {
      fault(0, title, "is no example that this test knows");
      return;
    }
    tests++;
    List<Call> all = callsOf(0, calls);
    if (all.size() != CALLS[at]) fault(0, title, "has " + all.size() + " calls, not " + CALLS[at]);
    answersAreDue(0, title, all);
    refusedCallsChangeNothing(0, title, all);
  }

  /** Each new object begins a run; behind each call stands its answer. */
  private static void readmeExamples(String readme) {
    List<String> runs = new ArrayList<>();
    boolean isCode = false;
    for (String line : readme.split("\n")) {
      if (line.startsWith("```")) isCode = line.equals("```java");
      else if (isCode && line.equals("Linkwright shop = new Linkwright();")) runs.add("");
      else if (isCode) runs.add(runs.remove(runs.size() - 1) + callOf(line));
    }
    if (runs.size() != 8) fault(0, "README.md", "has " + runs.size() + " examples, not 8");
    for (String one : runs) {
      tests++;
      answersAreDue(0, "README.md", callsOf(0, one));
    }
  }

  private static String callOf(String line) {
    Matcher m = SHOWN.matcher(line);
    if (!m.matches()) {
      fault(0, "README.md", "has a line without an answer: " + line);
      return "";
    }
    return m.group(1) + (m.group(2).startsWith("throws ") ? " " : " = ") + m.group(2) + ";";
  }

  /** README.md names each call of the face, and each program of the tests. */
  private static void readmeNames(String readme, Path root) throws IOException {
    tests++;
    for (Method one : Linkwright.class.getDeclaredMethods()) {
      boolean isFace = Modifier.isPublic(one.getModifiers());
      if (isFace && !readme.contains("`" + one.getName())) fault(0, "README.md", "does not tell of " + one.getName());
    }
    try (var files = Files.list(root.resolve("src/test/java"))) {
      for (Path file : (Iterable<Path>) files::iterator) {
        String name = file.getFileName().toString().replace(".java", "");
        if (!readme.contains("`" + name + "`") && !name.equals("ExampleTests")) fault(0, "README.md", "does not tell of " + name);
      }
    }
  }
}
