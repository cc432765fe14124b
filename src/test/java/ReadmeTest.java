import java.io.IOException;
import java.nio.file.Files;
import java.nio.file.Path;
import java.util.ArrayList;
import java.util.List;
import java.util.regex.Matcher;
import java.util.regex.Pattern;

/**
 * README.md: the calls of its example have the answers that it tells, and the tests that it names
 * are those that there are. It is started in the project's folder.
 */
public final class ReadmeTest {
  private static final Check check = new Check("ReadmeTest");
  private static final Path README = Path.of("README.md");
  private static final Path TESTS = Path.of("src/test/java");
  private static final Pattern MAKES = Pattern.compile("BeliefReviser x = new BeliefReviser\\(\\);");
  private static final Pattern CALLS =
      Pattern.compile("x\\.(\\w+)\\(([\\w, -]*)\\); +// (-?[\\w.]+)(: .+)?");

  public static void main(String[] args) throws IOException {
    List<String> lines = Files.readAllLines(README);
    check.due("an example's line that is read wrongly", readsWrongly(), "");
    int examples = 0;
    for (int k = 0; k < lines.size(); k++) {
      if (lines.get(k).equals("```java")) {
        int end = lines.subList(k, lines.size()).indexOf("```") + k;
        example(lines.subList(k + 1, end));
        examples++;
      }
    }
    check.due("README.md has an example", examples > 0, true);
    namesItsTests(String.join("\n", lines));
    check.end();
  }

  /** Each line is a call with its answer, but for the first one and for those that say why. */
  private static void example(List<String> lines) {
    check.due("the example's first line", MAKES.matcher(lines.get(0)).matches(), true);
    BeliefReviser x = new BeliefReviser();
    Model model = new Model();
    int calls = 0;
    for (String line : lines.subList(1, lines.size())) {
      if (!line.isBlank() && !line.startsWith("// ")) {
        String told = told(line);
        check.due("a line that is a call with its answer: " + line, told.isEmpty(), false);
        if (!told.isEmpty()) {
          check.due(line, Script.answer(x, told), Script.due(told));
          check.due(line + " of the model", Script.answer(model, told), Script.due(told));
          calls++;
        }
      }
    }
    check.due("the example has some calls, and no more than a life: " + calls,
        calls >= 10 && calls <= 512, true);
  }

  /** The call and its answer as a line of a script; nothing if the line has another form. */
  private static String told(String line) {
    Matcher parts = CALLS.matcher(line);
    if (!parts.matches()) {
      return "";
    }
    String arguments = parts.group(2).isEmpty() ? "" : " " + parts.group(2).replace(", ", " ");
    return parts.group(1) + arguments + " = " + parts.group(3);
  }

  private static String readsWrongly() {
    String[][] rows = {
      {"x.learn(1, 0);   // 43690: it is so", "learn 1 0 = 43690"},
      {"x.bestRemainder();  // -1", "bestRemainder = -1"},
      {"x.share(-1); // 0.5: words", "share -1 = 0.5"},
      {"x.sentence(0, true);", ""},
      {"x.height();   // tells the height", ""},
      {"y.height();   // 1", ""},
    };
    for (String[] row : rows) {
      if (!told(row[0]).equals(row[1])) {
        return row[0];
      }
    }
    return "";
  }

  private static void namesItsTests(String readme) throws IOException {
    List<String> named = new ArrayList<>();
    Matcher names = Pattern.compile("`(\\w+Test)`").matcher(readme);
    while (names.find()) {
      named.add(names.group(1));
    }
    for (String name : named) {
      check.due("there is a test " + name, Files.exists(TESTS.resolve(name + ".java")), true);
    }
    try (var files = Files.list(TESTS)) {
      for (Path file : files.sorted().toList()) {
        String name = file.getFileName().toString().replace(".java", "");
        if (name.endsWith("Test")) {
          check.due("README.md names " + name, named.contains(name), true);
        }
      }
    }
  }
}
