/** The sentences about limits in the promises 1 to 9: a new object and the pile. */
public final class PileEdgeTest {
  private static final Edges edges = new Edges("PileEdgeTest");
  private static final int ALL = Build.ALL;
  private static final String[] KINDS = {"p AND q", "p OR q", "p IF q", "p SAME q"};

  public static void main(String[] args) {
    newObject();
    newObjectBesideOthers();
    atomInside();
    atomOutside();
    atomOnFullPile();
    constant();
    constantOnFullPile();
    recallInside();
    recallOutside();
    recallOnFullPile();
    recallOfWhatIsGone();
    recallCopies();
    negate();
    joinTables();
    joinOfAll();
    joinKinds();
    joinHeights();
    pop();
    height();
    top();
    eachSentenceOnThePile();
    edges.end();
  }

  private static void newObject() {
    edges.holds("1 Creates a reviser with an empty pile", "height = 0",
        "top = " + Script.STATE, "pop = " + Script.STATE, "negate = " + Script.STATE,
        "join 0 = " + Script.STATE, "would = " + Script.STATE, "height = 0");
    edges.holds("1 .. and an empty base", "size = 0", "drop = " + Script.STATE,
        "sentence 0 true = " + Script.INDEX, "recall 0 = " + Script.INDEX, "worlds 0 = " + ALL,
        "worlds 1 = " + Script.ARGUMENT, "conflict = 0", "core = " + ALL, "giveUp 0 = 0");
    edges.holds("1 .. all levels are 0",
        Build.levels(0, 0, 0, 0, 0, 0, 0, 0, 0, 0, 0, 0, 0, 0, 0, 0),
        "possible = " + ALL, "layers = 1", "share 0 = 0.5", "share 3 = 0.5");
  }

  /** Nothing of one object is seen in another, in whatever order they are made. */
  private static void newObjectBesideOthers() {
    BeliefReviser before = new BeliefReviser();
    for (String line : Script.lines(Build.state(12, 10))) {
      Script.answer(before, line);
    }
    edges.holds("1 Creates a reviser, after another was used", "height = 0", "size = 0",
        "possible = " + ALL, "layers = 1", "digest = " + new Model().digest());
    BeliefReviser after = new BeliefReviser();
    for (String line : Script.lines("constant true; add 4; pop; atom 2; learn 0 3")) {
      Script.answer(after, line);
    }
    Model model = new Model();
    for (String line : Script.lines(Build.state(12, 10))) {
      Script.answer(model, line);
    }
    edges.due("the older object", Portrait.of(before), Portrait.of(model));
  }

  private static void atomInside() {
    for (int atom = 0; atom < 4; atom++) {
      edges.holds("2 Puts an atom on the pile: " + atom,
          "atom " + atom + " = 1", "top = " + Build.ATOMS[atom], "height = 1",
          "atom " + atom + " = 2", "top = " + Build.ATOMS[atom], "pop = 1",
          "top = " + Build.ATOMS[atom]);
    }
  }

  private static void atomOutside() {
    for (int atom : Far.outside(0, 3)) {
      String call = "atom " + atom + " = " + Script.INDEX;
      edges.holds("2 Throws IndexOutOfBoundsException if atom is not 0 to 3, on an empty pile",
          call, "height = 0", "atom 3 = 1");
      edges.holds("2 Throws IndexOutOfBoundsException if atom is not 0 to 3",
          Build.state(5, 4), call, "height = 5", "top = " + Build.pileWorlds(4));
      edges.holds("2 Throws IndexOutOfBoundsException if atom is not 0 to 3, at room for one",
          Build.state(11, 4), call, "height = 11", "atom 0 = 12");
      edges.holds("2 .. named first: atom is not 0 to 3, and the pile has 12 sentences",
          Build.state(12, 4), call, "height = 12", "top = " + Build.pileWorlds(11));
    }
  }

  private static void atomOnFullPile() {
    for (int atom = 0; atom < 4; atom++) {
      edges.holds("2 Throws IllegalStateException if the pile has 12 sentences: atom " + atom,
          Build.state(11, 4), "atom " + atom + " = 12", "top = " + Build.ATOMS[atom],
          "atom " + atom + " = " + Script.STATE, "height = 12",
          "atom " + (3 - atom) + " = " + Script.STATE, "top = " + Build.ATOMS[atom],
          "pop = 11", "atom " + atom + " = 12", "atom " + atom + " = " + Script.STATE);
    }
    edges.holds("2 Returns how many sentences the pile has then: 1 to 12", heights("atom 2"));
  }

  private static String heights(String call) {
    StringBuilder script = new StringBuilder();
    for (int k = 1; k <= 12; k++) {
      script.append(call).append(" = ").append(k).append(";");
    }
    return script + call + " = " + Script.STATE;
  }

  private static void constant() {
    edges.holds("3 Puts TRUE on the pile", "constant true = 1", "top = " + ALL, "height = 1");
    edges.holds("3 Puts FALSE on the pile", "constant false = 1", "top = 0", "height = 1");
    edges.holds("3 Puts TRUE or FALSE on the pile: both", "constant true = 1",
        "constant false = 2", "top = 0", "pop = 1", "top = " + ALL);
    edges.holds("3 Returns how many sentences the pile has then: TRUE", heights("constant true"));
    edges.holds("3 Returns how many sentences the pile has then: FALSE", heights("constant false"));
  }

  private static void constantOnFullPile() {
    for (boolean isTrue : new boolean[] {true, false}) {
      String call = "constant " + isTrue;
      edges.holds("3 Throws IllegalStateException if the pile has 12 sentences: " + isTrue,
          Build.state(11, 4), call + " = 12", call + " = " + Script.STATE,
          "constant " + !isTrue + " = " + Script.STATE, "height = 12",
          "top = " + (isTrue ? ALL : 0), "pop = 11", call + " = 12", call + " = " + Script.STATE);
    }
  }

  private static void recallInside() {
    for (int size = 1; size <= 10; size++) {
      StringBuilder script = new StringBuilder();
      for (int k = 0; k < size; k++) {
        script.append("recall ").append(k).append(" = 1; top = ").append(Build.baseWorlds(k))
            .append("; size = ").append(size).append("; pop = 0;");
      }
      edges.holds("4 Puts a sentence of the base on the pile: each of " + size,
          Build.base(size), script.toString());
    }
    edges.holds("4 Returns how many sentences the pile has then: the first of the base",
        Build.base(2), heights("recall 0"));
    edges.holds("4 Returns how many sentences the pile has then: the last of the base",
        Build.base(10), heights("recall 9"));
  }

  private static void recallOutside() {
    for (int size : new int[] {0, 1, 2, 5, 9, 10}) {
      for (int number : Far.outside(0, size - 1)) {
        edges.holds("4 Throws IndexOutOfBoundsException if there is no such sentence, of " + size,
            Build.state(2, size), "recall " + number + " = " + Script.INDEX, "height = 2");
      }
    }
  }

  private static void recallOnFullPile() {
    for (int size : new int[] {1, 10}) {
      int last = size - 1;
      edges.holds("4 Throws IllegalStateException if the pile has 12 sentences, of " + size,
          Build.state(11, size), "recall " + last + " = 12", "top = " + Build.baseWorlds(last),
          "recall " + last + " = " + Script.STATE, "recall 0 = " + Script.STATE, "height = 12",
          "pop = 11", "recall 0 = 12", "recall 0 = " + Script.STATE);
    }
    for (int size : new int[] {0, 1, 10}) {
      for (int number : Far.outside(0, size - 1)) {
        edges.holds("4 .. named first: there is no such sentence, and the pile has 12 sentences",
            Build.state(12, size), "recall " + number + " = " + Script.INDEX, "height = 12");
      }
    }
  }

  private static void recallOfWhatIsGone() {
    String gone = "recall 2 = " + Script.INDEX + ";";
    edges.holds("4 Throws IndexOutOfBoundsException if there is no such sentence: dropped",
        Build.state(1, 3), "recall 2 = 2", "drop = 2", gone, "recall 1 = 3");
    edges.holds("4 Throws IndexOutOfBoundsException if there is no such sentence: given up",
        Build.state(1, 3), "recall 2 = 2", "giveUp 1 = 2", gone, "recall 1 = 3",
        "top = " + Build.baseWorlds(2));
    edges.holds("4 Throws IndexOutOfBoundsException if there is no such sentence: all dropped",
        Build.state(1, 1), "drop = 0", "recall 0 = " + Script.INDEX);
    edges.holds("4 Throws IndexOutOfBoundsException if there is no such sentence: all given up",
        Build.state(1, 10), "giveUp 1023 = 0", "recall 0 = " + Script.INDEX,
        "recall 9 = " + Script.INDEX);
  }

  private static void recallCopies() {
    edges.holds("4 Puts a sentence of the base on the pile: it stays in the base as it was",
        Build.base(2), "recall 0 = 1", "negate", "sentence 0 false = " + Build.baseWorlds(0),
        "recall 0 = 2", "drop = 1", "drop = 0", "top = " + Build.baseWorlds(0),
        "join 3 = 0", "size = 0");
  }

  private static void negate() {
    edges.holds("5 Throws IllegalStateException if the pile is empty: new", "negate = "
        + Script.STATE, "height = 0");
    edges.holds("5 Throws IllegalStateException if the pile is empty", Build.state(0, 4),
        "negate = " + Script.STATE, "height = 0");
    edges.holds("5 Throws IllegalStateException if the pile is empty: after pop",
        "atom 0; negate = 21845; pop = 0", "negate = " + Script.STATE);
    edges.holds("5 NOT of TRUE and of FALSE", "constant true", "negate = 0", "top = 0",
        "negate = " + ALL, "top = " + ALL, "height = 1");
    for (int atom = 0; atom < 4; atom++) {
      edges.holds("5 NOT of atom " + atom, "constant true; atom " + atom,
          "negate = " + (ALL - Build.ATOMS[atom]), "top = " + (ALL - Build.ATOMS[atom]),
          "height = 2", "negate = " + Build.ATOMS[atom], "pop = 1", "top = " + ALL);
    }
    for (int height = 1; height <= 12; height++) {
      int due = ALL - Build.pileWorlds(height - 1);
      String below = height == 1 ? "" : "pop; top = " + Build.pileWorlds(height - 2);
      edges.holds("5 .. in place of the sentence on top of the pile: of " + height,
          Build.state(height, 2), "negate = " + due, "top = " + due, "height = " + height, below);
    }
  }

  private static int joined(int kind, int p, int q) {
    int[] made = {p & q, p | q, p | ALL - q, ALL - (p ^ q)};
    return made[kind];
  }

  /** The rows of the truth tables: TRUE and FALSE joined, and two atoms in both orders. */
  private static void joinTables() {
    boolean[] values = {true, false};
    for (int kind = 0; kind < 4; kind++) {
      for (boolean p : values) {
        for (boolean q : values) {
          int due = joined(kind, p ? ALL : 0, q ? ALL : 0);
          edges.holds("6 " + KINDS[kind] + ", p " + p + ", q " + q, "constant " + p,
              "constant " + q, "join " + kind + " = " + due, "top = " + due, "height = 1");
        }
      }
      for (int p = 0; p < 4; p++) {
        for (int q = 0; q < 4; q++) {
          int due = joined(kind, Build.ATOMS[p], Build.ATOMS[q]);
          edges.holds("6 " + KINDS[kind] + ": the one that was on top is q", "atom " + p,
              "atom " + q, "join " + kind + " = " + due, "top = " + due, "height = 1");
        }
      }
    }
  }

  private static void joinOfAll() {
    int[] sentences = {0, 1, ALL, 0x8000, 0x7FFF, 0xFFFE, 0x1248, 0xB7D1, 0x00FF, 0x5555};
    for (int p : sentences) {
      for (int q : sentences) {
        for (int kind = 0; kind < 4; kind++) {
          edges.answers("6 " + KINDS[kind], Build.sentence(p), Build.sentence(q),
              "join " + kind + " = " + joined(kind, p, q), "height = 1");
        }
      }
    }
  }

  private static void joinKinds() {
    for (int kind : Far.outside(0, 3)) {
      String call = "join " + kind + " = " + Script.ARGUMENT;
      edges.holds("6 Throws IllegalArgumentException if kind is not 0 to 3", Build.state(3, 2),
          call, "height = 3", "top = " + Build.pileWorlds(2));
      edges.holds("6 Throws IllegalArgumentException if kind is not 0 to 3: two on the pile",
          Build.state(2, 0), call, "height = 2", "join 0 = " + (0xAAAA & 0xCCCC));
      edges.holds("6 Throws IllegalArgumentException if kind is not 0 to 3: twelve on the pile",
          Build.state(12, 0), call, "height = 12");
      edges.holds("6 .. named first: kind is not 0 to 3, and the pile has one sentence",
          Build.state(1, 2), call, "height = 1");
      edges.holds("6 .. named first: kind is not 0 to 3, and the pile is empty",
          Build.state(0, 2), call, "height = 0");
    }
  }

  private static void joinHeights() {
    for (int kind = 0; kind < 4; kind++) {
      String call = "join " + kind + " = ";
      String words = "6 Throws IllegalStateException if the pile has fewer than two sentences: ";
      edges.holds(words + "none, new", call + Script.STATE);
      edges.holds(words + "none", Build.state(0, 5), call + Script.STATE, "height = 0");
      edges.holds(words + "one", Build.state(1, 5), call + Script.STATE, "height = 1",
          "top = " + Build.pileWorlds(0));
      edges.holds(words + "one, after a join", "atom 0; atom 0; join 0 = 43690",
          call + Script.STATE, "pop = 0", call + Script.STATE);
      for (int height = 2; height <= 12; height++) {
        int due = joined(kind, Build.pileWorlds(height - 2), Build.pileWorlds(height - 1));
        String below = height == 2 ? "" : "pop; top = " + Build.pileWorlds(height - 3);
        edges.holds("6 .. in place of the two sentences on top of the pile: of " + height,
            Build.state(height, 2), call + due, "top = " + due, "height = " + (height - 1), below);
      }
    }
  }

  private static void pop() {
    edges.holds("7 Throws IllegalStateException if the pile is empty: new",
        "pop = " + Script.STATE, "atom 1 = 1");
    edges.holds("7 Throws IllegalStateException if the pile is empty", Build.state(0, 4),
        "pop = " + Script.STATE, "height = 0", "size = 4");
    edges.holds("7 Throws IllegalStateException if the pile is empty: after the last pop",
        Build.state(2, 4), "pop = 1", "pop = 0", "pop = " + Script.STATE,
        "pop = " + Script.STATE, "atom 2 = 1", "pop = 0", "pop = " + Script.STATE);
    StringBuilder script = new StringBuilder();
    for (int left = 11; left >= 0; left--) {
      script.append("top = ").append(Build.pileWorlds(left)).append("; pop = ").append(left)
          .append(";");
    }
    edges.holds("7 Removes the sentence on top of the pile; returns how many are left: 11 to 0",
        Build.state(12, 1), script.toString(), "pop = " + Script.STATE, "top = " + Script.STATE);
  }

  private static void height() {
    for (int height = 0; height <= 12; height++) {
      edges.holds("8 Returns how many sentences the pile has: " + height,
          Build.state(height, 3), "height = " + height, "height = " + height);
    }
    edges.holds("8 Returns how many sentences the pile has: up and down", "height = 0; atom 0;"
        + "height = 1; constant true; height = 2; negate; height = 2; join 1; height = 1; add 1;"
        + "height = 1; recall 0; height = 2; learn 1 0; height = 2; pop; height = 1; pop;"
        + "height = 0");
  }

  private static void top() {
    edges.holds("9 Throws IllegalStateException if the pile is empty: new", "top = "
        + Script.STATE);
    edges.holds("9 Throws IllegalStateException if the pile is empty", Build.state(0, 4),
        "top = " + Script.STATE, "height = 0");
    edges.holds("9 Throws IllegalStateException if the pile is empty: after pop",
        Build.state(1, 4), "top = " + Build.pileWorlds(0), "pop = 0", "top = " + Script.STATE);
    for (int height = 1; height <= 12; height++) {
      String due = "top = " + Build.pileWorlds(height - 1);
      edges.holds("9 Returns the set of the worlds in which the sentence on top is true, of "
          + height, Build.state(height, 3), due, due, "height = " + height);
    }
  }

  /** Worlds are 0 to 15, sets of them 0 to 65535: each sentence there is can be made. */
  private static void eachSentenceOnThePile() {
    for (int set = 0; set <= ALL; set++) {
      edges.answers("9 .. the sum of the powers 2^w of the worlds w",
          Build.sentence(set), "top = " + set, "height = 1", "negate = " + (ALL - set));
    }
  }
}
