/**
 * "An object is used for at most 512 calls after it has been made": long lives, whose every call
 * up to and with the 512th is answered as it is due. (That the other sentences about limits hold
 * at the 512th call, too, is held by each Edges.holds.)
 */
public final class LifeTest {
  private static final Edges edges = new Edges("LifeTest");
  private static final int LIFE = 512;
  private static final int ALL = Build.ALL;

  public static void main(String[] args) {
    pileUpAndDown();
    baseUpAndDown();
    nothingButQuestions();
    nothingButRefusals();
    naturalUpTo510();
    firmerAndFirmer();
    strictly();
    doubtAndLoad();
    manyKinds();
    edges.end();
  }

  private static int calls(String script) {
    return Script.lines(script).size();
  }

  /** The part again and again until just so many calls of the object are left after the rest. */
  private static String fill(String before, String part, String rest) {
    int room = LIFE - calls(before) - calls(rest);
    String filled = before + part.repeat(room / calls(part));
    return filled + "height;".repeat(room % calls(part)) + rest;
  }

  private static void lives(String words, String script) {
    edges.due(words + ": calls", calls(script), LIFE);
    edges.answers(words + ", up to and with the 512th call", script);
    edges.answers(words + ", as in the model", Edges.asModel(script));
  }

  private static void pileUpAndDown() {
    lives("2 atom", fill("", "atom 3 = 1; pop = 0;", ""));
    lives("3 constant", fill("", "constant true = 1; top = 65535; pop = 0;", "constant false = 1"));
    lives("4 recall", fill("atom 1; add 9; pop;", "recall 0 = 1; pop = 0;", "recall 0 = 1"));
    lives("5 negate", fill("atom 0;", "negate = 21845; negate = 43690;", "negate = 21845"));
    lives("6 join", fill("constant true;", "atom 2 = 2; join 3;", ""));
    lives("7 pop", fill(Build.pile(11), "atom 0 = 12; pop = 11;", "pop = 10"));
    lives("2 to a full pile and back", fill("", Build.pile(12) + "atom 0 = " + Script.STATE
        + "; pop = 11; pop; pop; pop; pop; pop; pop; pop; pop; pop; pop; pop = 0; pop = "
        + Script.STATE + ";", "atom 0 = 1; top = 43690"));
  }

  private static void baseUpAndDown() {
    lives("10 add", fill("atom 1;", "add 9 = 0; drop = 0;", "add 9 = 0"));
    lives("10 add and giveUp", fill("atom 1; add 1;", "add 9 = 1; giveUp 1 = 1;",
        "sentence 0 true = 9"));
    lives("11 setRank", fill("atom 1; add 4;", "setRank 0 9 = 4; setRank 0 4 = 9;",
        "setRank 0 1 = 4"));
    lives("12 drop", fill(Build.base(9) + "atom 0;", "add 3 = 9; add 3 = " + Script.STATE
        + "; drop = 9;", "add 7 = 9; drop = 9; drop = 8"));
    lives("13 giveUp", fill("constant true;", "add 1 = 0; add 2 = 1; add 3 = 2; giveUp 5 = 1;"
        + "sentence 0 true = 2; giveUp 1 = 0;", "add 1 = 0; worlds 1 = " + ALL));
    lives("13 a full base and an empty one", fill("", Build.base(10) + "giveUp 1023 = 0;",
        "size = 0; atom 0; add 1 = 0"));
  }

  private static void nothingButQuestions() {
    String given = Build.state(5, 5);
    String[] questions = {"height", "top", "size", "sentence 4 true", "sentence 0 false",
        "worlds 31", "worlds 0", "entails 31", "kernels", "remainders", "bestRemainder", "cut",
        "degree", "isBelieved", "conflict", "core", "level 15", "possible", "firmness", "would",
        "layers", "share 3", "digest"};
    for (String question : questions) {
      String answered = Edges.asModel(given, question);
      String line = answered.substring(answered.lastIndexOf(question));
      lives("nothing but " + question, fill(given, line, line));
    }
  }

  private static void nothingButRefusals() {
    String[] refusals = {"atom 4 = " + Script.INDEX, "recall 3 = " + Script.INDEX,
        "join 4 = " + Script.ARGUMENT, "add 10 = " + Script.ARGUMENT,
        "setRank 3 1 = " + Script.INDEX, "setRank 0 0 = " + Script.ARGUMENT,
        "giveUp 8 = " + Script.ARGUMENT, "sentence -1 true = " + Script.INDEX,
        "worlds -1 = " + Script.ARGUMENT, "entails 8 = " + Script.ARGUMENT,
        "kernel -1 = " + Script.INDEX, "remainder -1 = " + Script.INDEX,
        "level 16 = " + Script.INDEX, "learn 4 0 = " + Script.ARGUMENT,
        "learn 0 10 = " + Script.ARGUMENT, "share 4 = " + Script.INDEX};
    for (String refused : refusals) {
      String given = Build.state(2, 3);
      lives("refused again and again: " + refused, fill(given, refused + ";",
          "height = 2; size = 3; atom 0 = 3; add 1 = 3; learn 1 0; drop = 3;" + refused + ";"));
    }
    String[] onEmptyPile = {"negate", "join 0", "pop", "top", "add 1", "drop", "entails 0",
        "kernels", "kernel 0", "remainders", "remainder 0", "bestRemainder", "cut", "degree",
        "isBelieved", "learn 0 0", "learn 1 0", "learn 2 0", "learn 3 0", "firmness", "would"};
    for (String call : onEmptyPile) {
      String refused = call + " = " + Script.STATE + ";";
      lives("refused again and again: " + call, fill("", refused, "atom 0 = 1; pop = 0;" + refused));
      if (!call.equals("drop")) {
        lives("refused again and again, beside a base: " + call, fill(Build.state(0, 4), refused,
            "size = 4; atom 0 = 1; pop = 0;" + refused));
      }
    }
    for (String call : new String[] {"learn 0 5", "learn 1 0", "learn 2 0", "learn 3 0"}) {
      boolean isTrue = call.startsWith("learn 3");
      lives("refused again and again: nothing to learn, " + call, fill(Build.LEVELS + "constant "
          + isTrue + ";", call + " = " + Script.STATE + ";", "negate; " + call + ";"));
    }
    for (String call : new String[] {"atom 0", "constant true", "recall 0", "add 1"}) {
      lives("refused again and again: full, " + call, fill(Build.state(12, 10), call + " = "
          + Script.STATE + ";", "pop = 11; drop = 9;"));
    }
  }

  /** The levels have no limit but the number of the calls. */
  private static void naturalUpTo510() {
    lives("31 NATURAL", fill("atom 0;", "learn 1 0 = 43690;", "level 0 = 510"));
    lives("31 NATURAL, greatest", fill("atom 0; negate;", "learn 1 0 = 21845;",
        "negate; firmness = 0; negate; firmness = 506"));
    lives("31 STRICT after NATURAL", fill("atom 0;", "learn 1 0 = 43690;",
        "atom 1; learn 2 0 = 34952; level 0 = 3; level 1 = 2; level 2 = 1; layers = 4"));
    lives("31 FIRM after NATURAL", fill("atom 0;", "learn 1 0 = 43690;",
        "layers = 2; learn 0 9 = 43690; level 0 = 9; level 1 = 0"));
    lives("31 DOUBT after NATURAL", fill("atom 0;", "learn 1 0 = 43690;",
        "level 14 = 509; learn 3 0 = 65535"));
    lives("36 digest after NATURAL", Edges.asModel(fill("atom 0;", "learn 1 0;", "digest")));
  }

  /** Three sentences in turn push one kind of worlds ever farther away. */
  private static void firmerAndFirmer() {
    String given = "atom 0; atom 1; join 3; negate; add 1; pop; atom 0; add 2; pop; atom 1; add 3;"
        + "pop; recall 1; learn 0 9; pop; recall 2; learn 0 9; pop;";
    String part = "recall 0; learn 0 9; pop; recall 1; learn 0 9; pop; recall 2; learn 0 9; pop;";
    String[] rests = {"level 0", "possible; level 0; level 1; level 2; level 3; layers; digest",
        "recall 0; learn 2 0; level 0; level 1; level 2; level 3", "recall 0; learn 3 0; level 0",
        "recall 0; negate; learn 2 0; level 0; level 1; level 2; level 3; layers",
        "constant true; learn 2 0; level 0; level 1; level 2; level 3; layers",
        "recall 1; learn 1 0; level 0", "recall 0; negate; firmness", "atom 0; negate; atom 1; would",
        "load; level 0; layers; digest"};
    for (String rest : rests) {
      lives("31 FIRM, then " + rest, Edges.asModel(fill(given, part, rest)));
    }
    lives("31 FIRM", fill(given, part, "level 15; level 0 = 1476"));
    lives("31 STRICT after FIRM", fill(given, part, "recall 0; negate; learn 2 0; level 0 = 1;"
        + "level 1 = 2; level 2 = 2; level 3 = 0; layers = 3"));
  }

  private static void strictly() {
    lives("31 STRICT", fill("atom 0; atom 1; atom 2; atom 3;", "learn 2 0; pop; learn 2 0; pop;"
        + "learn 2 0; pop; learn 2 0; pop; atom 3; negate; atom 0; atom 1; negate; atom 2;",
        "layers = 16; learn 2 0; layers = 16; level 0"));
    lives("31 STRICT to and fro", fill("atom 2;", "learn 2 0 = 61680; negate; learn 2 0 = 3855;"
        + "negate;", "layers = 2; learn 2 0 = 61680"));
  }

  private static void doubtAndLoad() {
    lives("31 DOUBT", fill("atom 0;", "learn 0 9 = 43690; learn 3 0 = 65535;",
        "learn 3 0 = 65535; possible = 65535"));
    lives("28 load", fill("atom 0; add 9;", "load = 43690; setRank 0 1 = 9; load = 43690;"
        + "setRank 0 9 = 1;", "load = 43690; level 0 = 9"));
    lives("35 share", fill("atom 0;", "learn 1 0; share 0 = 1.0; negate;"
        + "learn 1 0; share 0 = 0.0; negate;", "share 1 = 0.5"));
  }

  private static void manyKinds() {
    for (int turn = 0; turn < 20; turn++) {
      StringBuilder script = new StringBuilder();
      for (String line : Filler.calls(LIFE, turn)) {
        script.append(line).append(";");
      }
      edges.answers("calls of many kinds", Edges.asModel(script.toString()));
    }
  }
}
