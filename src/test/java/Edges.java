import java.util.ArrayList;
import java.util.List;

/**
 * Holds the program to single sentences of the document. Each is told by its promise and its
 * words, and by a script of calls on a new object with the answers that are due; a call of the
 * script without one must not be refused.
 */
final class Edges {
  /** How many calls of an object the document promises something about. */
  private static final int LIFE = 512;
  private static final int MOST_TOLD = 40;

  private final String name;
  private String sentence = "";
  private int sentences = 0;
  private int checks = 0;
  private int failed = 0;

  Edges(String name) {
    this.name = name;
    Watch.start(name);
  }

  /**
   * The script's answers are due on a new object, and each of them also as the answer of the 512th
   * call; each call that is refused must change nothing, be it an early or the last but one.
   */
  void holds(String words, String... script) {
    List<String> lines = begin(words, script);
    List<String> model = followModel(lines);
    BeliefReviser x = new BeliefReviser();
    follow(x, lines, "");
    if (lines.size() + model.size() <= LIFE) {
      same("the object then", Portrait.of(x), model);
    }
    for (int k = 0; k < lines.size(); k++) {
      if (Script.hasDue(lines.get(k))) {
        holdsAsLast(lines.subList(0, k + 1));
      }
      if (Script.isRefused(lines.get(k))) {
        changesNothing(lines.subList(0, k), lines.get(k));
      }
    }
  }

  /** The script's answers are due on a new object: no more is asked where there are many scripts. */
  void answers(String words, String... script) {
    List<String> lines = begin(words, script);
    follow(new BeliefReviser(), lines, "");
  }

  /** The script, each call with the answer that the model gives to it. */
  static String asModel(String... script) {
    Model model = new Model();
    StringBuilder told = new StringBuilder();
    for (String line : Script.lines(script)) {
      told.append(Script.call(line)).append(" = ").append(Script.answer(model, line)).append(";");
    }
    return told.toString();
  }

  private List<String> begin(String words, String... script) {
    sentence = words;
    sentences++;
    List<String> lines = Script.lines(script);
    if (lines.size() > LIFE) {
      throw new IllegalStateException(words + ": the script has " + lines.size() + " calls");
    }
    return lines;
  }

  /** The model must give the same answers: it shows an answer that is wrongly held to be due. */
  private List<String> followModel(List<String> lines) {
    Model model = new Model();
    follow(model, lines, " of the model");
    return Portrait.of(model);
  }

  private void follow(Object on, List<String> lines, String who) {
    for (String line : lines) {
      String answer = Script.answer(on, line);
      if (Script.hasDue(line)) {
        due(Script.call(line) + who, answer, Script.due(line));
      } else {
        due(line + who + " is refused", Script.isRefusal(answer), false);
      }
    }
  }

  private void holdsAsLast(List<String> lines) {
    String last = Script.call(lines.get(lines.size() - 1));
    follow(aged(LIFE - lines.size()), lines, ", the 512th call being " + last);
  }

  private void changesNothing(List<String> before, String refused) {
    List<String> made = new ArrayList<>();
    for (String line : before) {
      if (!Script.isRefused(line)) {
        made.add(line);
      }
    }
    List<String> twin = Portrait.of(after(aged(0), made));
    int calls = made.size() + 1;
    String what = "the object after " + Script.call(refused);
    if (calls + twin.size() > LIFE) {
      throw new IllegalStateException(sentence + ": no room for a portrait");
    }
    made.add(refused);
    for (int age : new int[] {0, LIFE - calls - twin.size()}) {
      BeliefReviser x = aged(age);
      follow(x, made, " after " + age + " other calls");
      same(what + " and " + age + " other calls", Portrait.of(x), twin);
    }
    BeliefReviser last = aged(LIFE - calls - 1);
    follow(last, made, " as the 511th call");
    due(what + ", the digest as the 512th call", "digest = " + Script.answer(last, "digest"),
        twin.get(0));
  }

  private BeliefReviser aged(int calls) {
    return after(new BeliefReviser(), Filler.calls(calls, sentences));
  }

  private static BeliefReviser after(BeliefReviser x, List<String> lines) {
    for (String line : lines) {
      Script.answer(x, line);
    }
    return x;
  }

  private void same(String what, List<String> got, List<String> want) {
    for (int k = 0; k < Math.min(got.size(), want.size()); k++) {
      if (!got.get(k).equals(want.get(k))) {
        due(what + ", call " + k, got.get(k), want.get(k));
        return;
      }
    }
    due(what + ": calls of the portrait", got.size(), want.size());
  }

  void due(String what, Object got, Object want) {
    checks++;
    if (!got.equals(want)) {
      failed++;
      if (failed <= MOST_TOLD) {
        System.out.println(name + ": \"" + sentence + "\": " + what + " answered " + got
            + ", due is " + want);
      }
    }
  }

  void end() {
    System.out.println(name + ": " + sentences + " sentences, " + checks + " checks, " + failed
        + " failed");
    if (failed != 0 || sentences == 0) {
      System.exit(1);
    }
  }
}
