import java.io.IOException;
import java.nio.file.Files;
import java.nio.file.Path;
import java.util.List;
import java.util.regex.Pattern;

/**
 * Those rules of LANGUAGE.md that can be seen from the text of the class, and kept more strictly
 * than they stand where the class needs less. It is started in the project's folder.
 */
public final class LanguageTest {
  private static final Check check = new Check("LanguageTest");
  private static final Path SOURCE = Path.of("src/main/java/BeliefReviser.java");
  private static final int LONGEST = 60;

  /** A rule's number, and what no line of code may hold by it. */
  private static final String[][] RULED_OUT = {
    {"1", "^\\s*(package|import)\\b"},
    {"1", "^\\s+(public|protected) (static|final|class|enum|interface|record)\\b"},
    {"2", "->|::"},
    {"3", "\\b(Object|Map|Set|Stream|Double|Float|Boolean|Long|BigInteger)\\b[^.]"},
    {"3", "\\[\\]\\["},
    {"4", "\\bSystem\\.(?!arraycopy)"},
    {"4", "\\bMath\\.(?!min|max)|Exact\\("},
    {"5", "\\bstatic (?!final\\b)(?!.*[({])"},
    {"6", "\\b(try|catch|finally|synchronized|assert|getMessage|instanceof|toString|hashCode)\\b"},
    {"7", "[^/]/[^/*]|[^%]%[^%]"},
    {"9", "\\bwhile\\b|for \\(;;"},
    {"10", "\"\\s*\\+|\\+\\s*\""},
    {"13", "\\b(Random|Thread|nanoTime|currentTimeMillis|getenv|File)\\b"},
  };

  /** The one division of the class: of doubles, behind its test. */
  private static final String DIVISION =
      "return all == 0 ? 0.0 : (double) some / (double) all;";

  public static void main(String[] args) throws IOException {
    List<String> lines = Files.readAllLines(SOURCE);
    for (String[] rule : RULED_OUT) {
      check.due("rule " + rule[0] + ": lines that hold " + rule[1],
          linesWith(lines, Pattern.compile(rule[1])), "");
    }
    check.due("rule 11: methods with more than 60 lines", longMethods(lines), "");
    check.end();
  }

  private static String linesWith(List<String> lines, Pattern ruledOut) {
    StringBuilder found = new StringBuilder();
    for (int k = 0; k < lines.size(); k++) {
      String line = lines.get(k).trim();
      boolean isCode = !line.matches("(//|/?\\*).*") && !line.equals(DIVISION);
      if (isCode && ruledOut.matcher(lines.get(k)).find()) {
        found.append(k + 1).append(": ").append(line).append('\n');
      }
    }
    return found.toString();
  }

  /** A method begins with a line that ends in ") {" or "Exception {", and ends at its indent. */
  private static String longMethods(List<String> lines) {
    StringBuilder found = new StringBuilder();
    for (int k = 0; k < lines.size(); k++) {
      if (lines.get(k).matches("(  |    )[a-z].*(\\)|Exception) \\{")) {
        String indent = lines.get(k).replaceAll("[a-z].*", "");
        int end = k;
        while (end < lines.size() && !lines.get(end).equals(indent + "}")) {
          end++;
        }
        if (end - k >= LONGEST) {
          found.append(k + 1).append(": ").append(lines.get(k).trim()).append('\n');
        }
      }
    }
    return found.toString();
  }
}
