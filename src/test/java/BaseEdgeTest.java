/** The sentences about limits in the promises 10 to 17: the base. */
public final class BaseEdgeTest {
  private static final Edges edges = new Edges("BaseEdgeTest");
  private static final int ALL = Build.ALL;
  private static final int[] SIZES = {0, 1, 2, 5, 9, 10};

  public static void main(String[] args) {
    addRanks();
    addRanksOutside();
    addToEmptyPile();
    addToFullBase();
    addAgain();
    addTheSame();
    setRankInside();
    setRankOutside();
    setRankOfNone();
    drop();
    dropOfNone();
    giveUpSingly();
    giveUpEach();
    giveUpOutside();
    size();
    sentenceInside();
    sentenceOutside();
    worldsInside();
    worldsOfEach();
    worldsOutside();
    entailsInside();
    entailsOfNoSentences();
    entailsOutside();
    entailsOfEmptyPile();
    edges.end();
  }

  private static int all(int size) {
    return (1 << size) - 1;
  }

  private static int worlds(int set) {
    int worlds = ALL;
    for (int k = 0; k < 10; k++) {
      worlds &= (set >> k & 1) == 1 ? Build.baseWorlds(k) : ALL;
    }
    return worlds;
  }

  private static void addRanks() {
    for (int rank = 1; rank <= 9; rank++) {
      edges.holds("10 Adds the sentence on top of the pile, rank " + rank, Build.state(2, 0),
          "add " + rank + " = 0", "sentence 0 true = " + rank,
          "sentence 0 false = " + Build.pileWorlds(1), "size = 1", "height = 2",
          "top = " + Build.pileWorlds(1), "worlds 1 = " + Build.pileWorlds(1), "degree = " + rank);
      edges.holds("10 Adds the sentence on top of the pile, as the tenth, rank " + rank,
          Build.state(12, 9), "add " + rank + " = 9", "sentence 9 true = " + rank,
          "sentence 9 false = " + Build.pileWorlds(11), "height = 12");
    }
  }

  private static void addRanksOutside() {
    for (int rank : Far.outside(1, 9)) {
      String call = "add " + rank + " = " + Script.ARGUMENT;
      String words = "10 Throws IllegalArgumentException if rank is not 1 to 9";
      edges.holds(words, Build.state(3, 4), call, "size = 4");
      edges.holds(words + ", into an empty base", Build.state(1, 0), call, "size = 0",
          "add 1 = 0");
      edges.holds(words + ", at room for one", Build.state(1, 9), call, "size = 9", "add 9 = 9");
      edges.holds("10 .. named first: rank is not 1 to 9, and the pile is empty",
          Build.state(0, 4), call, "size = 4");
      edges.holds("10 .. named first: rank is not 1 to 9, and the base has 10 sentences",
          Build.state(3, 10), call, "size = 10");
      edges.holds("10 .. named first: rank is not 1 to 9, the pile is empty, the base is full",
          Build.state(0, 10), call, "size = 10");
    }
  }

  private static void addToEmptyPile() {
    for (int rank = 1; rank <= 9; rank++) {
      String call = "add " + rank + " = " + Script.STATE;
      edges.holds("10 Throws IllegalStateException if the pile is empty: new", call, "size = 0");
      edges.holds("10 Throws IllegalStateException if the pile is empty", Build.state(0, 4), call,
          "size = 4");
      edges.holds("10 Throws IllegalStateException if the pile is empty: after pop",
          "atom 1; add 2 = 0; pop = 0", call, "size = 1", "atom 3", "add " + rank + " = 1");
      edges.holds("10 Throws IllegalStateException if the pile is empty, and the base is full",
          Build.state(0, 10), call, "size = 10");
    }
  }

  private static void addToFullBase() {
    for (int rank = 1; rank <= 9; rank++) {
      String call = "add " + rank + " = " + Script.STATE;
      for (int height : new int[] {1, 2, 12}) {
        edges.holds("10 Throws IllegalStateException if the base has 10 sentences",
            Build.state(height, 10), call, "size = 10", "sentence 9 true = " + Build.baseRank(9));
      }
      edges.holds("10 Throws IllegalStateException if the base has 10 sentences: after the tenth",
          Build.state(1, 9), "add " + rank + " = 9", call, "drop = 9", "add " + rank + " = 9",
          call);
    }
  }

  private static void addAgain() {
    StringBuilder script = new StringBuilder();
    for (int k = 0; k < 10; k++) {
      script.append("add ").append(k % 9 + 1).append(" = ").append(k).append(";");
    }
    String refused = "add 1 = " + Script.STATE;
    edges.holds("10 Returns its number: 0 to 9", "atom 2", script.toString(), refused);
    for (int set : new int[] {1, 512, 1023, 0b1010101010, 0b0111111110}) {
      int left = 10 - Integer.bitCount(set);
      StringBuilder again = new StringBuilder();
      for (int k = left; k < 10; k++) {
        again.append("add 7 = ").append(k).append("; sentence ").append(k).append(" true = 7;");
      }
      edges.holds("10 .. the base has 10 sentences: just those given up are room",
          Build.state(3, 10), "giveUp " + set + " = " + left, again.toString(), refused);
    }
  }

  /** The same sentence can be in the base several times, with any ranks. */
  private static void addTheSame() {
    edges.holds("10 the same one can be there several times: with the same rank", "atom 1",
        "add 4 = 0; add 4 = 1; add 4 = 2; add 4 = 3; add 4 = 4", "add 4 = 5; add 4 = 6; add 4 = 7",
        "add 4 = 8; add 4 = 9", "size = 10", "kernels = 10", "kernel 9 = 512", "cut = 1023",
        "remainders = 1", "remainder 0 = 0", "drop = 9", "kernels = 9");
    edges.holds("10 the same one can be there several times: with other ranks", "atom 1",
        "add 2 = 0; add 9 = 1; add 1 = 2", "sentence 0 true = 2", "sentence 1 true = 9",
        "sentence 2 true = 1", "degree = 9", "giveUp 2 = 2", "degree = 2", "giveUp 1 = 1",
        "degree = 1", "sentence 0 false = " + 0xCCCC);
    edges.holds("10 Adds the sentence on top of the pile: TRUE and FALSE can be added, too",
        "constant true", "add 9 = 0", "negate = 0", "add 1 = 1", "sentence 0 false = " + ALL,
        "sentence 1 false = 0", "worlds 3 = 0", "conflict = 1");
    edges.holds("10 .. what is added stays as it was: the pile's is another", "atom 1; atom 0",
        "add 4 = 0", "negate", "sentence 0 false = " + 0xAAAA, "join 1", "pop = 0",
        "sentence 0 false = " + 0xAAAA, "worlds 1 = " + 0xAAAA);
  }

  private static void setRankInside() {
    for (int size = 1; size <= 10; size++) {
      for (int number = 0; number < size; number++) {
        StringBuilder script = new StringBuilder();
        int before = Build.baseRank(number);
        for (int rank = 1; rank <= 9; rank++) {
          script.append("setRank ").append(number).append(" ").append(rank).append(" = ")
              .append(before).append("; sentence ").append(number).append(" true = ").append(rank)
              .append(";");
          before = rank;
        }
        edges.holds("11 Sets the rank of sentence " + number + " of " + size + ": 1 to 9",
            Build.state(1, size), script.toString(), "setRank " + number + " 9 = 9",
            "setRank " + number + " 1 = 9", "size = " + size,
            "sentence " + number + " false = " + Build.baseWorlds(number));
      }
    }
  }

  private static void setRankOutside() {
    for (int size : SIZES) {
      for (int number : Far.outside(0, size - 1)) {
        edges.holds("11 Throws IndexOutOfBoundsException if there is no such sentence, of " + size,
            Build.state(2, size), "setRank " + number + " 1 = " + Script.INDEX,
            "setRank " + number + " 9 = " + Script.INDEX, "size = " + size);
        edges.holds("11 .. named first: there is no such sentence, and rank is not 1 to 9",
            Build.state(2, size), "setRank " + number + " 0 = " + Script.INDEX,
            "setRank " + number + " 10 = " + Script.INDEX);
      }
    }
    for (int rank : Far.outside(1, 9)) {
      for (int size : new int[] {1, 4, 10}) {
        int last = size - 1;
        edges.holds("11 Throws IllegalArgumentException if rank is not 1 to 9, of " + size,
            Build.state(2, size), "setRank 0 " + rank + " = " + Script.ARGUMENT,
            "setRank " + last + " " + rank + " = " + Script.ARGUMENT,
            "sentence 0 true = " + Build.baseRank(0),
            "sentence " + last + " true = " + Build.baseRank(last));
      }
      edges.holds("11 .. named first: there is no such sentence, and rank is not 1 to 9: far",
          Build.state(0, 4), "setRank 4 " + rank + " = " + Script.INDEX,
          "setRank -1 " + rank + " = " + Script.INDEX,
          "setRank " + Integer.MIN_VALUE + " " + rank + " = " + Script.INDEX,
          "setRank " + Integer.MAX_VALUE + " " + rank + " = " + Script.INDEX);
    }
  }

  private static void setRankOfNone() {
    String refused = " = " + Script.INDEX;
    edges.holds("11 Throws IndexOutOfBoundsException if there is no such sentence: new",
        "setRank 0 1" + refused, "setRank 0 0" + refused, "setRank 0 10" + refused);
    edges.holds("11 Throws IndexOutOfBoundsException if there is no such sentence: dropped",
        Build.state(1, 2), "setRank 1 4 = 7", "drop = 1", "setRank 1 4" + refused,
        "setRank 0 4 = 3", "drop = 0", "setRank 0 4" + refused);
    edges.holds("11 Throws IndexOutOfBoundsException if there is no such sentence: given up",
        Build.state(1, 2), "giveUp 1 = 1", "setRank 1 4" + refused, "setRank 0 4 = 7",
        "giveUp 1 = 0", "setRank 0 4" + refused);
    edges.holds("11 Sets the rank: an added sentence has its own, not that of a dropped one",
        Build.state(1, 2), "setRank 1 4 = 7", "drop = 1", "add 6 = 1", "setRank 1 5 = 6");
  }

  private static void drop() {
    StringBuilder script = new StringBuilder();
    for (int left = 9; left >= 0; left--) {
      script.append("sentence ").append(left).append(" true = ").append(Build.baseRank(left))
          .append("; drop = ").append(left).append("; size = ").append(left)
          .append("; sentence ").append(left).append(" true = ").append(Script.INDEX).append(";");
    }
    edges.holds("12 Removes the sentence that was added last; returns how many are left: 9 to 0",
        Build.state(0, 10), script.toString(), "drop = " + Script.STATE);
    for (int size = 1; size <= 10; size++) {
      edges.holds("12 Removes the sentence of the base that was added last: of " + size,
          Build.state(12, size), "drop = " + (size - 1), "height = 12",
          "worlds " + all(size - 1) + " = " + worlds(all(size - 1)));
    }
    edges.holds("12 .. that was added last: be its rank the greatest or not", "atom 0; add 1;"
        + "negate; add 9; setRank 0 9; setRank 1 1", "drop = 1", "sentence 0 false = " + 0xAAAA,
        "sentence 0 true = 9");
  }

  private static void dropOfNone() {
    edges.holds("12 Throws IllegalStateException if there is none: new", "drop = "
        + Script.STATE, "size = 0", "atom 1; add 3 = 0", "drop = 0", "drop = " + Script.STATE);
    edges.holds("12 Throws IllegalStateException if there is none", Build.state(12, 0),
        "drop = " + Script.STATE, "size = 0", "height = 12");
    edges.holds("12 Throws IllegalStateException if there is none: after the last one",
        Build.state(1, 2), "drop = 1", "drop = 0", "drop = " + Script.STATE,
        "drop = " + Script.STATE, "add 3 = 0", "drop = 0");
    edges.holds("12 Throws IllegalStateException if there is none: all given up",
        Build.state(1, 10), "giveUp 1023 = 0", "drop = " + Script.STATE, "add 8 = 0");
  }

  private static void giveUpSingly() {
    for (int size = 1; size <= 10; size++) {
      for (int number = 0; number < size; number++) {
        edges.holds("13 Removes sentences from the base: one of " + size, Build.state(2, size),
            "giveUp " + (1 << number) + " = " + (size - 1), "size = " + (size - 1));
      }
      edges.holds("13 Removes sentences from the base: none of " + size, Build.state(2, size),
          "giveUp 0 = " + size, "size = " + size, "worlds " + all(size) + " = "
              + worlds(all(size)));
      edges.holds("13 Removes sentences from the base: all of " + size, Build.state(2, size),
          "giveUp " + all(size) + " = 0", "size = 0", "giveUp 0 = 0", "add 5 = 0");
    }
    edges.holds("13 Removes sentences from the base: none of none", "giveUp 0 = 0", "size = 0");
  }

  /** Each set of a base of ten: the others keep their order, and are numbered anew. */
  private static void giveUpEach() {
    for (int size : new int[] {3, 7, 10}) {
      for (int set = 0; set <= all(size); set++) {
        StringBuilder script = new StringBuilder();
        int left = 0;
        int worlds = ALL;
        for (int k = 0; k < size; k++) {
          if ((set >> k & 1) == 0) {
            script.append("sentence ").append(left).append(" true = ").append(Build.baseRank(k))
                .append("; sentence ").append(left).append(" false = ")
                .append(Build.baseWorlds(k)).append("; worlds ").append(1 << left).append(" = ")
                .append(Build.baseWorlds(k)).append(";");
            worlds &= Build.baseWorlds(k);
            left++;
          }
        }
        edges.answers("13 .. the others keep their order, and are numbered anew",
            Build.base(size), "giveUp " + set + " = " + left, script.toString(),
            "sentence " + left + " true = " + Script.INDEX, "size = " + left,
            "worlds " + all(left) + " = " + worlds);
      }
    }
  }

  private static void giveUpOutside() {
    for (int size : SIZES) {
      for (int set : Far.sets(size)) {
        edges.holds("13 Throws IllegalArgumentException if set contains no sentence, of " + size,
            Build.state(2, size), "giveUp " + set + " = " + Script.ARGUMENT, "size = " + size);
      }
    }
    edges.holds("13 Throws IllegalArgumentException if set contains what is gone",
        Build.state(0, 3), "giveUp 2 = 2", "giveUp 4 = " + Script.ARGUMENT,
        "giveUp 7 = " + Script.ARGUMENT, "drop = 1", "giveUp 2 = " + Script.ARGUMENT,
        "giveUp 1 = 0", "giveUp 1 = " + Script.ARGUMENT);
  }

  private static void size() {
    for (int size = 0; size <= 10; size++) {
      edges.holds("14 Returns the number of sentences of the base: " + size,
          Build.state(3, size), "size = " + size, "size = " + size);
    }
    edges.holds("14 Returns the number of sentences of the base: up and down", "size = 0; atom 0;"
        + "size = 0; add 1; size = 1; add 1; size = 2; pop; size = 2; giveUp 1; size = 1;"
        + "recall 0; size = 1; load; size = 1; drop; size = 0");
  }

  private static void sentenceInside() {
    for (int size = 1; size <= 10; size++) {
      StringBuilder script = new StringBuilder();
      for (int k = 0; k < size; k++) {
        script.append("sentence ").append(k).append(" true = ").append(Build.baseRank(k))
            .append("; sentence ").append(k).append(" false = ").append(Build.baseWorlds(k))
            .append(";");
      }
      edges.holds("15 whether its rank is asked for; otherwise the set of the worlds: of " + size,
          Build.state(1, size), script.toString());
    }
    edges.holds("15 .. the set of the worlds in which it is true: TRUE and FALSE",
        "constant false; add 1; constant true; add 9", "sentence 0 false = 0",
        "sentence 0 true = 1", "sentence 1 false = " + ALL, "sentence 1 true = 9");
  }

  private static void sentenceOutside() {
    for (int size : SIZES) {
      for (int number : Far.outside(0, size - 1)) {
        edges.holds("15 Throws IndexOutOfBoundsException if there is no such sentence, of " + size,
            Build.state(2, size), "sentence " + number + " true = " + Script.INDEX,
            "sentence " + number + " false = " + Script.INDEX);
      }
    }
    edges.holds("15 Throws IndexOutOfBoundsException if there is no such sentence: gone",
        Build.state(0, 3), "giveUp 1 = 2", "sentence 2 true = " + Script.INDEX,
        "sentence 2 false = " + Script.INDEX, "drop = 1", "sentence 1 true = " + Script.INDEX,
        "sentence 1 false = " + Script.INDEX, "sentence 0 true = " + Build.baseRank(1));
  }

  private static void worldsInside() {
    for (int size = 0; size <= 10; size++) {
      edges.holds("16 (all worlds if it is empty), of " + size, Build.state(1, size),
          "worlds 0 = " + ALL, "worlds " + all(size) + " = " + worlds(all(size)));
      for (int k = 0; k < size; k++) {
        edges.holds("16 .. in which all of them are true: one of " + size, Build.state(0, size),
            "worlds " + (1 << k) + " = " + Build.baseWorlds(k));
      }
    }
    edges.holds("16 (all worlds if it is empty): beside TRUE and FALSE",
        "constant false; add 9; constant true; add 9", "worlds 0 = " + ALL, "worlds 1 = 0",
        "worlds 2 = " + ALL, "worlds 3 = 0");
    edges.holds("16 (all worlds if it is empty): after all were given up", Build.state(0, 10),
        "giveUp 1023 = 0", "worlds 0 = " + ALL, "worlds 1 = " + Script.ARGUMENT);
    edges.holds("16 .. in which all of them are true: the new ones, not the dropped ones",
        "atom 0; add 1; atom 1; add 1", "worlds 3 = " + 0x8888, "drop = 1", "atom 2; add 1 = 1",
        "worlds 3 = " + 0xA0A0, "worlds 2 = " + 0xF0F0, "giveUp 1 = 1", "worlds 1 = " + 0xF0F0,
        "worlds 2 = " + Script.ARGUMENT);
  }

  private static void worldsOfEach() {
    int step = 256;
    for (int from = 0; from < 1024; from += step) {
      StringBuilder script = new StringBuilder();
      for (int set = from; set < from + step; set++) {
        script.append("worlds ").append(set).append(" = ").append(worlds(set)).append(";");
      }
      edges.answers("16 .. in which all of them are true: each set of ten",
          Build.base(10), script.toString());
    }
  }

  private static void worldsOutside() {
    for (int size : SIZES) {
      for (int set : Far.sets(size)) {
        edges.holds("16 Throws IllegalArgumentException if set contains no sentence, of " + size,
            Build.state(2, size), "worlds " + set + " = " + Script.ARGUMENT,
            "worlds " + all(size) + " = " + worlds(all(size)));
      }
    }
  }

  private static void entailsInside() {
    for (int size = 0; size <= 10; size++) {
      for (int goal : new int[] {0, ALL, 0xAAAA, 0x8888, 0xEEEE, 0x0008, 0xFFFE}) {
        boolean due = (worlds(all(size)) & ~goal) == 0;
        edges.holds("17 Returns whether they entail the sentence on top: all of " + size,
            Build.LEVELS + Build.base(size) + Build.sentence(goal),
            "entails " + all(size) + " = " + due, "entails 0 = " + (goal == ALL));
      }
    }
    edges.holds("17 .. whether they entail the sentence on top: just those of the set",
        "atom 0; add 1; atom 1; add 1; atom 2; add 1; atom 0; atom 1; join 0 = 34952",
        "entails 0 = false", "entails 1 = false", "entails 2 = false", "entails 3 = true",
        "entails 4 = false", "entails 5 = false", "entails 6 = false", "entails 7 = true");
    edges.holds("17 .. true in all worlds in which all of them are true: if there is none",
        "atom 0; add 1; negate; add 1; atom 2", "entails 1 = false", "entails 2 = false",
        "entails 3 = true", "constant false", "entails 3 = true", "entails 1 = false");
    edges.holds("17 .. the sentence on top of the pile, not another one", "atom 0; add 1; atom 1",
        "entails 1 = false", "pop = 1", "entails 1 = true", "atom 0; join 1", "entails 1 = true");
  }

  /** No sentences entail just what is true in all worlds: not what fails in one alone. */
  private static void entailsOfNoSentences() {
    for (int world = 0; world < 16; world++) {
      edges.holds("17 (no sentences entail just what is true in all worlds): all but one",
          Build.base(4), Build.sentence(ALL ^ 1 << world), "entails 0 = false");
      edges.holds("17 (no sentences entail just what is true in all worlds): of an empty base",
          Build.sentence(ALL ^ 1 << world), "entails 0 = false", "kernels = 0");
      edges.holds("17 .. true in all worlds in which all of them are true: but for one",
          Build.believeIn(0x00FF | 1 << world, 3), Build.sentence(0x00FF & ~(1 << world)),
          "entails 1 = false", Build.sentence(0x00FF | 1 << world), "entails 1 = true");
    }
    edges.holds("17 (no sentences entail just what is true in all worlds): TRUE",
        "constant true", "entails 0 = true", "negate", "entails 0 = false", "atom 1; atom 1",
        "join 3", "entails 0 = true");
    edges.holds("17 (no sentences entail just what is true in all worlds): TRUE, of a full base",
        Build.state(3, 10), "constant true", "entails 0 = true", "entails 1023 = true",
        "entails 512 = true", "negate", "entails 0 = false", "entails 1023 = true");
  }

  private static void entailsOutside() {
    for (int size : SIZES) {
      for (int set : Far.sets(size)) {
        edges.holds("17 Throws IllegalArgumentException if set contains no sentence, of " + size,
            Build.state(1, size), "entails " + set + " = " + Script.ARGUMENT, "height = 1");
        edges.holds("17 .. named first: the pile is empty, and set contains no sentence",
            Build.state(0, size), "entails " + set + " = " + Script.STATE, "height = 0");
      }
    }
    edges.holds("17 Throws IllegalArgumentException if set contains no sentence: TRUE on top",
        "constant true", "entails 1 = " + Script.ARGUMENT, "add 1; drop",
        "entails 1 = " + Script.ARGUMENT, "entails 0 = true");
  }

  private static void entailsOfEmptyPile() {
    edges.holds("17 Throws IllegalStateException if the pile is empty: new",
        "entails 0 = " + Script.STATE, "entails 1 = " + Script.STATE);
    for (int size : SIZES) {
      edges.holds("17 Throws IllegalStateException if the pile is empty, of " + size,
          Build.state(0, size), "entails 0 = " + Script.STATE,
          "entails " + all(size) + " = " + Script.STATE, "constant true", "entails 0 = true",
          "pop = 0", "entails 0 = " + Script.STATE);
    }
  }
}
