/** The sentences about limits in the document's description, which no promise says again. */
public final class DescriptionEdgeTest {
  private static final Edges edges = new Edges("DescriptionEdgeTest");
  private static final int ALL = Build.ALL;
  private static final int[] SENTENCES = {1, 0x8000, 0x0810, 0x7FFF, 0xFFFE, 0xA0A0, 0x00FF, 0xFF7E};

  public static void main(String[] args) {
    worldsAndSets();
    tables();
    numbersOfSentences();
    tenSentences();
    ranks();
    leastLevelIsZero();
    leastLevelIsZeroForLife();
    entailment();
    firstExceptionIsThrown();
    edges.end();
  }

  private static void worldsAndSets() {
    for (int world = 0; world < 16; world++) {
      StringBuilder script = new StringBuilder();
      for (int atom = 0; atom < 4; atom++) {
        script.append(Build.literal((world >> atom & 1) == 1 ? atom : ~atom));
      }
      edges.holds("worlds are told as the sum of the powers 2^k of the atoms that are true: "
          + world, script.toString(), "join 0; join 0", "join 0 = " + (1 << world));
    }
    edges.holds("There are 4 atoms, 0 to 3", "atom 0 = 1; atom 1 = 2; atom 2 = 3; atom 3 = 4",
        "atom 4 = " + Script.INDEX, "atom -1 = " + Script.INDEX, "height = 4");
    edges.holds("0 to 15, and sets of worlds: the empty set and all", "constant false",
        "top = 0", "constant true", "top = 65535", "level 0 = 0; level 15 = 0",
        "level 16 = " + Script.INDEX, "level -1 = " + Script.INDEX);
  }

  private static void tables() {
    edges.holds("p IF q (true unless q is true and p is not)", "atom 0; atom 1",
        "join 2 = " + (0b1011 * 0x1111));
    edges.holds("p SAME q (true if both are true, or both are not)", "atom 0; atom 1",
        "join 3 = " + (0b1001 * 0x1111));
    edges.holds("p AND q", "atom 0; atom 1", "join 0 = " + (0b1000 * 0x1111));
    edges.holds("p OR q", "atom 0; atom 1", "join 1 = " + (0b1110 * 0x1111));
    edges.holds("NOT p", "atom 0", "negate = " + (0b0101 * 0x1111));
  }

  private static void numbersOfSentences() {
    StringBuilder script = new StringBuilder();
    for (int k = 0; k < 10; k++) {
      script.append(Build.sentence(1 << k)).append("add ").append(k % 9 + 1).append(" = ")
          .append(k).append("; pop; sentence ").append(k).append(" false = ").append(1 << k)
          .append("; sentence 0 false = 1;");
    }
    edges.holds("numbered from 0 in the order in which they were added", script.toString(),
        "sentence 9 false = 512", "giveUp 1 = 9", "sentence 0 false = 2", "sentence 8 false = 512");
  }

  private static void tenSentences() {
    String nine = "atom 0;" + Build.times(9, "add 5;");
    edges.holds("It has at most 10 sentences", nine, "size = 9", "add 5 = 9", "size = 10",
        "add 5 = " + Script.STATE, "size = 10", "worlds 1023 = " + 0xAAAA,
        "worlds 1024 = " + Script.ARGUMENT);
    edges.holds("It has at most 10 sentences: TRUE and FALSE count, too",
        "constant true;" + Build.times(5, "add 9;") + "constant false;" + Build.times(5, "add 1;"),
        "size = 10", "add 1 = " + Script.STATE, "pop", "add 9 = " + Script.STATE);
  }

  private static void ranks() {
    edges.holds("each with a rank, 1 to 9", "atom 0", "add 1 = 0; add 9 = 1",
        "add 0 = " + Script.ARGUMENT, "add 10 = " + Script.ARGUMENT, "setRank 0 9 = 1",
        "setRank 1 1 = 9", "setRank 0 0 = " + Script.ARGUMENT,
        "setRank 1 10 = " + Script.ARGUMENT, "sentence 0 true = 9", "sentence 1 true = 1",
        "size = 2");
  }

  private static int leastLevel(BeliefReviser x) {
    int least = x.level(0);
    for (int world = 1; world < 16; world++) {
      least = Math.min(least, x.level(world));
    }
    return least;
  }

  private static void leastLevelIsZero() {
    for (int sentence : SENTENCES) {
      for (int way = 0; way <= 3; way++) {
        for (int firmness : new int[] {0, 1, 9}) {
          String learn = Build.sentence(sentence) + "learn " + way + " " + firmness + ";";
          for (String given : new String[] {"", Build.LEVELS, Build.base(10) + "load;"}) {
            BeliefReviser x = Script.made(given + learn);
            String words = "the least one of all worlds is 0: " + sentence + " learned, " + way;
            edges.holds(words, given + learn, "layers; load");
            edges.due("the least level", leastLevel(x), 0);
            edges.due("whether a world is held possible", x.possible() != 0, true);
          }
        }
      }
    }
    for (int size = 0; size <= 10; size++) {
      edges.holds("the least one of all worlds is 0: loaded of " + size, Build.base(size), "load");
      edges.due("the least level", leastLevel(Script.made(Build.base(size) + "load")), 0);
    }
  }

  /** One life, in which all ways follow each other, to the 512th call. */
  private static void leastLevelIsZeroForLife() {
    for (int way = 0; way <= 3; way++) {
      BeliefReviser x = new BeliefReviser();
      int calls = 0;
      for (int k = 0; calls + 17 + 3 <= 512; k++) {
        x.atom(k % 4);
        x.learn(k % 3 == 0 ? way : k % 4, k % 10);
        x.pop();
        edges.due("the least level after " + calls + " calls", leastLevel(x), 0);
        calls += 3 + 16;
      }
    }
  }

  private static void entailment() {
    edges.holds("Sentences entail a sentence if it is true in all worlds in which all are true",
        Build.believe(0, 1), Build.believe(1, 1), "atom 0; atom 1; join 0", "entails 3 = true",
        "entails 1 = false", Build.sentence(0x8888 ^ 0x8000), "entails 3 = false",
        Build.sentence(0x8888 ^ 0x0008), "entails 3 = false", "constant true", "entails 3 = true");
    edges.holds("(no sentences entail just what is true in all worlds)", "constant true",
        "entails 0 = true", "kernels = 1", "kernel 0 = 0", "degree = 10", Build.sentence(0x7FFF),
        "entails 0 = false", "kernels = 0", "degree = 0", Build.sentence(0xFFFE),
        "entails 0 = false", "kernels = 0", "degree = 0");
    edges.holds("They are consistent if there is such a world: the conflict is above 0 if not",
        Build.believe(0, 1), Build.believe(1, 1), Build.believe(2, 1), Build.believe(3, 1),
        "worlds 15 = 32768", "conflict = 0", Build.believeIn(0x7FFF, 1), "worlds 31 = 0",
        "conflict = 1");
  }

  /** Of the exceptions of a call the one that the document names first. */
  private static void firstExceptionIsThrown() {
    String full = Build.state(12, 10);
    String bare = Build.LEVELS;
    String words = "If several exceptions apply, the one that is named first is thrown: ";
    edges.holds(words + "atom", full, "atom 4 = " + Script.INDEX, "atom -1 = " + Script.INDEX,
        "atom 3 = " + Script.STATE);
    edges.holds(words + "recall", full, "recall 10 = " + Script.INDEX,
        "recall -1 = " + Script.INDEX, "recall 9 = " + Script.STATE);
    edges.holds(words + "join", bare, "join 4 = " + Script.ARGUMENT,
        "join -1 = " + Script.ARGUMENT, "join 3 = " + Script.STATE);
    edges.holds(words + "add", bare, "add 0 = " + Script.ARGUMENT, "add 10 = " + Script.ARGUMENT,
        "add 9 = " + Script.STATE);
    edges.holds(words + "add to a full base", full, "add 0 = " + Script.ARGUMENT,
        "add 10 = " + Script.ARGUMENT, "add 9 = " + Script.STATE);
    edges.holds(words + "setRank", full, "setRank 10 0 = " + Script.INDEX,
        "setRank -1 10 = " + Script.INDEX, "setRank 9 10 = " + Script.ARGUMENT,
        "setRank 9 0 = " + Script.ARGUMENT, "setRank 9 9 = 9");
    edges.holds(words + "entails", bare, "entails 1 = " + Script.STATE,
        "entails -1 = " + Script.STATE, "atom 1", "entails 1 = " + Script.ARGUMENT,
        "entails -1 = " + Script.ARGUMENT);
    edges.holds(words + "kernel", bare, "kernel 0 = " + Script.STATE,
        "kernel -1 = " + Script.STATE, "atom 1", "kernel 0 = " + Script.INDEX,
        "kernel -1 = " + Script.INDEX);
    edges.holds(words + "remainder", bare, "remainder 1 = " + Script.STATE,
        "remainder -1 = " + Script.STATE, "atom 1", "remainder 1 = " + Script.INDEX,
        "remainder -1 = " + Script.INDEX);
    edges.holds(words + "learn", bare, "learn 4 0 = " + Script.ARGUMENT,
        "learn -1 0 = " + Script.ARGUMENT, "learn 0 -1 = " + Script.ARGUMENT,
        "learn 0 10 = " + Script.ARGUMENT, "learn 0 9 = " + Script.STATE,
        "learn 3 10 = " + Script.STATE, "constant false", "learn 4 0 = " + Script.ARGUMENT,
        "learn 0 10 = " + Script.ARGUMENT, "learn 0 9 = " + Script.STATE);
  }
}
