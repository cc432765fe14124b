import java.io.IOException;
import java.nio.file.Files;
import java.nio.file.Path;
import java.util.List;
import java.util.regex.Pattern;

/**
 * Those rules of LANGUAGE.md that can be seen from the text of the class. It is started in the
 * project's folder.
 */
public final class LanguageTest {
  private static final Check check = new Check("LanguageTest");
  private static final Path SOURCE = Path.of("src/main/java/BeliefReviser.java");
  private static final int LONGEST = 70;

  /** A rule's number, and what no line of code may hold by it. */
  private static final String[][] RULED_OUT = {
    {"1", "^\\s*package\\b"},
    {"2", "::"},
    {"2", "^(?!.*\\b(case|default)\\b).*->"},
    {"3", "\\b(Map|Set|HashMap|HashSet|BigInteger|BigDecimal|Optional|Stream)\\b"},
    {"4", "^\\s*import (?!java\\.util\\.(ArrayList|List|Arrays|Iterator|NoSuchElementException);)"},
    {"4", "\\bSystem\\.(?!arraycopy\\b)"},
    {"4", "Exact\\("},
    {"5", "^(?!.*\\bfinal\\b).*\\bstatic\\s+[\\w<>\\[\\], ]+[=;]"},
    {"5", "\\bstatic\\s*\\{"},
    {"6", "\\b(finally|synchronized|assert|getMessage|hashCode)\\b"},
    {"6", "\\bextends \\w*(Exception|Error)\\b"},
    {"6", "(ArrayIndexOutOfBounds|NullPointer|ClassCast|NegativeArraySize|ArrayStore)Exception"},
    {"9", "\\bfor \\(;;\\)|\\bwhile \\(true\\)"},
    {"13", "\\b(Random|Thread|nanoTime|currentTimeMillis|getenv)\\b"},
  };

  public static void main(String[] args) throws IOException {
    List<String> lines = Files.readAllLines(SOURCE);
    for (String[] rule : RULED_OUT) {
      check.due("rule " + rule[0] + ": lines that hold " + rule[1],
          linesWith(lines, Pattern.compile(rule[1])), "");
    }
    check.due("rule 11: methods with more than " + LONGEST + " lines", longMethods(lines), "");
    check.end();
  }

  private static String linesWith(List<String> lines, Pattern ruledOut) {
    StringBuilder found = new StringBuilder();
    for (int k = 0; k < lines.size(); k++) {
      String line = lines.get(k).trim();
      boolean isCode = !line.matches("(//|/?\\*).*");
      if (isCode && ruledOut.matcher(withoutTexts(lines.get(k))).find()) {
        found.append(k + 1).append(": ").append(line).append('\n');
      }
    }
    return found.toString();
  }

  private static String withoutTexts(String line) {
    return line.replaceAll("\"(\\\\.|[^\"\\\\])*\"", "\"\"").replaceAll("//.*", "");
  }

  /** A method begins with a line that ends in ") {" or "Exception {", and ends at its indent. */
  private static String longMethods(List<String> lines) {
    StringBuilder found = new StringBuilder();
    for (int k = 0; k < lines.size(); k++) {
      if (lines.get(k).matches("(  |    )[a-z].*(\\)|Exception) \\{")) {
        String indent = lines.get(k).replaceAll("[a-z].*", "");
        int end = k;
        while (end < lines.size() && !lines.get(end).equals(indent + "}")) {
          end++;
        }
        if (end - k >= LONGEST) {
          found.append(k + 1).append(": ").append(lines.get(k).trim()).append('\n');
        }
      }
    }
    return found.toString();
  }
}
