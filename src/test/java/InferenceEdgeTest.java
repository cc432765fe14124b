import java.util.ArrayList;
import java.util.Arrays;
import java.util.List;

/** The sentences about limits in the promises 18 to 27: what follows from the base. */
public final class InferenceEdgeTest {
  private static final Edges edges = new Edges("InferenceEdgeTest");
  private static final int ALL = Build.ALL;

  /** For each world the sentences of a base of ten that are not true in it: 139 kernels of FALSE. */
  private static final int[] FAILING = {504, 141, 916, 793, 331, 938, 722, 62, 626, 373, 179, 620,
      598, 807, 737, 454};

  public static void main(String[] args) {
    emptyPile();
    emptyBase();
    ofTrue();
    indexOfKernel();
    indexOfRemainder();
    indexOnEmptyPile();
    fullBaseAsKernel();
    eachSentenceAsKernel();
    smallerPartsAlone();
    ascendingOrder();
    moreAndMore();
    mostKernels();
    mostRemainders();
    ofUselessSentences();
    bestRemainderByRanks();
    bestRemainderByOneRank();
    bestRemainderByNumber();
    bestRemainderAtTheEdges();
    cutByRanks();
    cutOfManyKernels();
    cutAtTheEdges();
    degreeOfEachRank();
    degreeOfSeveral();
    degreeAtTheEdges();
    conflictOfEachRank();
    belief();
    beliefOfTrue();
    coreByConflict();
    edges.end();
  }

  private static void emptyPile() {
    String[] calls = {"kernels", "remainders", "bestRemainder", "cut", "degree", "isBelieved"};
    for (int k = 0; k < calls.length; k++) {
      int promise = k == 0 ? 18 : k == 1 ? 20 : 20 + k;
      String words = promise + " Throws IllegalStateException if the pile is empty: ";
      String refused = calls[k] + " = " + Script.STATE;
      edges.holds(words + "new", refused, "height = 0");
      edges.holds(words + "an empty base", Build.state(0, 0), refused, "height = 0");
      edges.holds(words + "some sentences", Build.state(0, 4), refused, "height = 0", "size = 4");
      edges.holds(words + "a full base", Build.state(0, 10), refused, "size = 10");
      edges.holds(words + "after pop", Build.state(1, 4), calls[k], "pop = 0", refused);
      edges.holds(words + "one is enough", Build.state(1, 4), calls[k], "height = 1");
      edges.holds(words + "twelve are not too many", Build.state(12, 4), calls[k], "height = 12");
    }
  }

  private static void emptyBase() {
    for (int goal : new int[] {0, 1, 0x8000, 0xAAAA, 0xFFFE, 0x7FFF}) {
      String given = Build.LEVELS + Build.sentence(goal);
      edges.holds("18 Returns the number of its kernels: none of an empty base", given,
          "kernels = 0", "kernel 0 = " + Script.INDEX);
      edges.holds("20 Returns the number of its remainders: the empty set of an empty base", given,
          "remainders = 1", "remainder 0 = 0", "remainder 1 = " + Script.INDEX,
          "bestRemainder = 0");
      edges.holds("23 Returns its cut: of an empty base", given, "cut = 0");
      edges.holds("24 .. 0 if there is none: of an empty base", given, "degree = 0");
      edges.holds("25 .. greater than the conflict: of an empty base", given,
          "isBelieved = false");
    }
    edges.holds("26 Returns the conflict: of an empty base", "conflict = 0", "constant false",
        "conflict = 0");
    edges.holds("27 .. all sentences that are believed: of an empty base", "core = " + ALL);
  }

  /** TRUE follows from the empty set, and there is no set that does not entail it. */
  private static void ofTrue() {
    for (int size : new int[] {0, 1, 4, 9, 10}) {
      String given = Build.state(2, size) + "constant true";
      edges.holds("18 (no sentences entail just what is true in all worlds): of " + size, given,
          "kernels = 1");
      edges.holds("19 .. none of whose proper parts does: the empty set, of " + size, given,
          "kernel 0 = 0", "kernel 1 = " + Script.INDEX, "kernel -1 = " + Script.INDEX);
      edges.holds("20 .. a set of the base that does not entail it: none, of " + size, given,
          "remainders = 0");
      edges.holds("21 Throws IndexOutOfBoundsException if there is no such remainder: of " + size,
          given, "remainder 0 = " + Script.INDEX, "remainder 1 = " + Script.INDEX,
          "remainder -1 = " + Script.INDEX);
      edges.holds("22 -1 if it has none: of " + size, given, "bestRemainder = -1", "negate",
          "negate", "bestRemainder = -1");
      edges.holds("23 Returns its cut: the empty kernel has no members, of " + size, given,
          "cut = 0");
      edges.holds("24 10 if it is true in all worlds: of " + size, given, "degree = 10");
    }
    for (int world = 0; world < 16; world++) {
      String given = Build.base(3) + Build.sentence(ALL ^ 1 << world);
      edges.holds("22 -1 if it has none: not if one world is left out", given,
          "entails 0 = false", "remainder -1 = " + Script.INDEX, "kernels");
      edges.holds("24 10 if it is true in all worlds: not if one world is left out",
          Build.believeIn(ALL ^ 1 << world, 9), Build.sentence(ALL ^ 1 << world), "degree = 9");
      edges.holds("22 -1 if it has none: the empty set is one",
          Build.believeIn(ALL ^ 1 << world, 9), Build.sentence(ALL ^ 1 << world),
          "bestRemainder = 0", "remainders = 1");
    }
  }

  /** 0: a0, 1: a1 IF a0, 2: a1, 3: NOT a0; a1 is on the pile and has the kernels 3, 4 and 9. */
  private static String quarrel() {
    return Build.LEVELS + Build.believe(0, 3) + Build.believeIf(1, 0, 5) + Build.believe(1, 2)
        + Build.believe(~0, 5) + "atom 1;";
  }

  private static void indexOfKernel() {
    edges.holds("19 Returns this kernel: the first and the last", quarrel(), "kernels = 3",
        "kernel 0 = 3", "kernel 1 = 4", "kernel 2 = 9", "kernel 0 = 3");
    for (int index : Far.outside(0, 2)) {
      edges.holds("19 Throws IndexOutOfBoundsException if there is no such kernel: of three",
          quarrel(), "kernel " + index + " = " + Script.INDEX, "kernels = 3");
    }
    for (int index : Far.outside(0, 0)) {
      edges.holds("19 Throws IndexOutOfBoundsException if there is no such kernel: of one",
          Build.base(3), "constant true", "kernel " + index + " = " + Script.INDEX,
          "kernel 0 = 0");
    }
    for (int index : Far.outside(0, -1)) {
      edges.holds("19 Throws IndexOutOfBoundsException if there is no such kernel: of none",
          "atom 0; add 3; atom 1", "kernels = 0", "kernel " + index + " = " + Script.INDEX);
    }
  }

  private static void indexOfRemainder() {
    edges.holds("21 Returns this remainder: the first and the last", quarrel(), "remainders = 2",
        "remainder 0 = 1", "remainder 1 = 10", "remainder 0 = 1");
    for (int index : Far.outside(0, 1)) {
      edges.holds("21 Throws IndexOutOfBoundsException if there is no such remainder: of two",
          quarrel(), "remainder " + index + " = " + Script.INDEX, "remainders = 2");
    }
    for (int index : Far.outside(0, 0)) {
      edges.holds("21 Throws IndexOutOfBoundsException if there is no such remainder: of one",
          "atom 0; add 3; atom 1", "remainder " + index + " = " + Script.INDEX,
          "remainder 0 = 1");
    }
    for (int index : Far.outside(0, -1)) {
      edges.holds("21 Throws IndexOutOfBoundsException if there is no such remainder: of none",
          Build.base(3), "constant true", "remainder " + index + " = " + Script.INDEX,
          "remainders = 0");
    }
  }

  private static void indexOnEmptyPile() {
    for (int index : Far.outside(0, -1)) {
      for (int size : new int[] {0, 4}) {
        edges.holds("19 .. named first: the pile is empty, and there is no such kernel",
            Build.state(0, size), "kernel " + index + " = " + Script.STATE, "height = 0");
        edges.holds("21 .. named first: the pile is empty, and there is no such remainder",
            Build.state(0, size), "remainder " + index + " = " + Script.STATE, "height = 0");
      }
    }
    edges.holds("19 Throws IllegalStateException if the pile is empty: after pop", quarrel(),
        "kernel 0 = 3", "pop = 0", "kernel 0 = " + Script.STATE, "kernel 3 = " + Script.STATE);
    edges.holds("21 Throws IllegalStateException if the pile is empty: after pop", quarrel(),
        "remainder 0 = 1", "pop = 0", "remainder 0 = " + Script.STATE,
        "remainder 3 = " + Script.STATE);
  }

  /** So many sentences, each of which fails in a world of its own. */
  private static String apart(int size) {
    StringBuilder script = new StringBuilder();
    for (int k = 0; k < size; k++) {
      script.append(Build.believeIn(ALL ^ 1 << k, k % 9 + 1));
    }
    return script.toString();
  }

  private static void fullBaseAsKernel() {
    for (int size : new int[] {1, 2, 9, 10}) {
      int all = (1 << size) - 1;
      String given = apart(size) + Build.sentence(ALL & ~all);
      edges.holds("18 A kernel is a set of the base: all of " + size, given, "kernels = 1",
          "kernel 0 = " + all, "entails " + all + " = true");
      edges.holds("20 A remainder is no proper part of another: each without one of " + size,
          given, "remainders = " + size, "remainder 0 = " + (all >> 1),
          "remainder " + (size - 1) + " = " + (all - 1), "remainder " + size + " = "
              + Script.INDEX);
      edges.holds("23 Returns its cut: the least rank of all of " + size, given,
          "cut = " + (size == 10 ? 513 : 1), "setRank 0 9 = 1",
          "cut = " + (size == 10 ? 512 : size == 1 ? 1 : 2));
      edges.holds("24 Returns its degree: all of " + size + " are needed", given, "degree = 1",
          "setRank 0 2", "degree = " + (size == 10 ? 1 : 2));
    }
  }

  private static void eachSentenceAsKernel() {
    for (int size = 1; size <= 10; size++) {
      StringBuilder script = new StringBuilder();
      for (int k = 0; k < size; k++) {
        script.append("kernel ").append(k).append(" = ").append(1 << k).append(";");
      }
      int all = (1 << size) - 1;
      edges.holds("20 A remainder is a set that does not entail it: all of " + size,
          apart(size), "constant false", "kernels = 0", "kernel 0 = " + Script.INDEX,
          "remainders = 1", "remainder 0 = " + all, "remainder 1 = " + Script.INDEX,
          "bestRemainder = " + all);
      edges.holds("19 Returns this kernel: each of " + size + " alone", "atom 3",
          Build.times(size, "add 5;"), "kernels = " + size, script.toString(),
          "kernel " + size + " = " + Script.INDEX, "cut = " + all, "remainders = 1",
          "remainder 0 = 0", "bestRemainder = 0", "degree = 5");
    }
  }

  /** A set that entails it is no kernel if a part does that lacks one sentence, or several. */
  private static void smallerPartsAlone() {
    edges.holds("18 .. none of whose proper parts does: one sentence does",
        "atom 0; atom 1; join 0 = 34952; add 1; atom 0; add 2; atom 1; add 3", "kernels = 2",
        "kernel 0 = 1", "kernel 1 = 4", "atom 0; atom 1; join 0", "kernels = 2", "kernel 0 = 1",
        "kernel 1 = 6");
    edges.holds("20 .. no proper part of another set that does not: more can be had",
        Build.base(10), Build.sentence(0x8000), "remainders", "constant false", "remainders",
        "bestRemainder");
    edges.holds("20 .. a set of the base that does not entail it: all of it",
        Build.believe(0, 1), Build.believe(1, 2), Build.believe(2, 3), "atom 3",
        "remainders = 1", "remainder 0 = 7", "remainder 1 = " + Script.INDEX,
        "bestRemainder = 7", "kernels = 0", "cut = 0", "degree = 0");
    edges.holds("20 .. a set of the base that does not entail it: only the empty one",
        Build.believe(0, 1), Build.believe(0, 2), "atom 0", "remainders = 1", "remainder 0 = 0",
        "bestRemainder = 0", "kernels = 2");
  }

  /** Neither the size of the sets nor the order of the sentences in them tells the numbers. */
  private static void ascendingOrder() {
    edges.holds("19 .. in ascending order of the numbers that tell them: two before one",
        Build.believe(0, 9), Build.believeIf(1, 0, 9), Build.believe(1, 9), "atom 1",
        "kernel 0 = 3", "kernel 1 = 4", "kernels = 2");
    edges.holds("19 .. in ascending order of the numbers that tell them: one before two",
        Build.believe(1, 1), Build.believe(0, 9), Build.believeIf(1, 0, 9), "atom 1",
        "kernel 0 = 1", "kernel 1 = 6", "kernels = 2");
    edges.holds("19 .. in ascending order of the numbers that tell them: by the last one",
        Build.believe(0, 1), Build.believe(1, 1), Build.believeIf(2, 1, 1),
        Build.believeIf(2, 0, 1), "atom 2", "kernel 0 = 6", "kernel 1 = 9", "kernels = 2");
    edges.holds("21 .. in ascending order of the numbers that tell them: one before two",
        Build.believe(0, 1), Build.believe(~0, 1), Build.believe(~0, 9), "constant false",
        "remainder 0 = 1", "remainder 1 = 6", "remainders = 2");
    edges.holds("21 .. in ascending order of the numbers that tell them: two before one",
        Build.believe(0, 1), Build.believe(0, 1), Build.believe(~0, 9), "constant false",
        "remainder 0 = 3", "remainder 1 = 4", "remainders = 2");
    edges.holds("21 .. in ascending order of the numbers that tell them: not by their ranks",
        Build.believe(0, 9), Build.believe(~0, 8), "constant false", "remainder 0 = 1",
        "remainder 1 = 2", "setRank 0 1", "remainder 0 = 1", "remainder 1 = 2");
  }

  /** Pairs that contradict each other: n of them have n kernels and 2^n remainders of FALSE. */
  private static void moreAndMore() {
    StringBuilder given = new StringBuilder();
    for (int pairs = 1; pairs <= 4; pairs++) {
      given.append(Build.believe(pairs - 1, pairs)).append(Build.believe(~(pairs - 1), pairs));
      StringBuilder kernels = new StringBuilder();
      StringBuilder remainders = new StringBuilder();
      for (int k = 0; k < pairs; k++) {
        kernels.append("kernel ").append(k).append(" = ").append(3 << 2 * k).append(";");
      }
      for (int k = 0; k < 1 << pairs; k++) {
        int set = 0;
        for (int pair = 0; pair < pairs; pair++) {
          set += (k >> pair & 1) == 1 ? 2 << 2 * pair : 1 << 2 * pair;
        }
        remainders.append("remainder ").append(k).append(" = ").append(set).append(";");
      }
      edges.holds("19 Returns this kernel: of " + pairs, given.toString(), "constant false",
          "kernels = " + pairs, kernels.toString(), "kernel " + pairs + " = " + Script.INDEX);
      edges.holds("21 Returns this remainder: of " + (1 << pairs), given.toString(),
          "constant false", "remainders = " + (1 << pairs), remainders.toString(),
          "remainder " + (1 << pairs) + " = " + Script.INDEX);
    }
  }

  private static String failing() {
    StringBuilder script = new StringBuilder();
    for (int k = 0; k < 10; k++) {
      int worlds = 0;
      for (int w = 0; w < 16; w++) {
        worlds += (FAILING[w] >> k & 1) == 0 ? 1 << w : 0;
      }
      script.append(Build.believeIn(worlds, k % 9 + 1));
    }
    return script + "constant false;";
  }

  private static boolean failsEverywhere(int set) {
    for (int failing : FAILING) {
      if ((set & failing) == 0) {
        return false;
      }
    }
    return true;
  }

  /** The smallest sets of the base of which in each world one sentence fails. */
  private static List<Integer> smallestFailing() {
    List<Integer> found = new ArrayList<>();
    for (int set = 0; set < 1024; set++) {
      boolean isSmallest = failsEverywhere(set);
      for (int k = 0; k < 10; k++) {
        isSmallest &= (set >> k & 1) == 0 || !failsEverywhere(set ^ 1 << k);
      }
      if (isSmallest) {
        found.add(set);
      }
    }
    return found;
  }

  private static void mostKernels() {
    List<Integer> kernels = smallestFailing();
    int step = 20;
    edges.answers("18 Returns the number of its kernels: very many", failing(),
        "kernels = " + kernels.size(), "kernels = 139");
    for (int from = 0; from < kernels.size(); from += step) {
      StringBuilder script = new StringBuilder();
      for (int k = from; k < Math.min(from + step, kernels.size()); k++) {
        script.append("kernel ").append(k).append(" = ").append(kernels.get(k)).append(";");
      }
      edges.answers("19 Returns this kernel: of very many", failing(), script.toString());
    }
    edges.answers("19 Throws IndexOutOfBoundsException if there is no such kernel: of very many",
        failing(), "kernel 138 = " + kernels.get(138), "kernel 139 = " + Script.INDEX,
        "kernel 140 = " + Script.INDEX, "kernel -1 = " + Script.INDEX,
        "kernel " + Integer.MIN_VALUE + " = " + Script.INDEX,
        "kernel " + Integer.MAX_VALUE + " = " + Script.INDEX, "kernel 0 = " + kernels.get(0));
    int members = 0;
    for (int kernel : kernels) {
      int least = 9;
      for (int k = 0; k < 10; k++) {
        least = (kernel >> k & 1) == 1 ? Math.min(least, k % 9 + 1) : least;
      }
      for (int k = 0; k < 10; k++) {
        members |= (kernel >> k & 1) == 1 && k % 9 + 1 == least ? 1 << k : 0;
      }
    }
    edges.answers("23 .. all members of its kernels that have the least rank: of very many",
        failing(), "cut = " + members);
  }

  /** No more than 16: each is what is true in some world. */
  private static void mostRemainders() {
    int[] dues = new int[16];
    for (int w = 0; w < 16; w++) {
      dues[w] = 1023 & ~FAILING[w];
    }
    Arrays.sort(dues);
    StringBuilder script = new StringBuilder();
    for (int k = 0; k < 16; k++) {
      script.append("remainder ").append(k).append(" = ").append(dues[k]).append(";");
    }
    edges.answers("20 Returns the number of its remainders: sixteen", failing(),
        "remainders = 16");
    edges.answers("21 Returns this remainder: of sixteen", failing(), script.toString());
    edges.answers("21 Throws IndexOutOfBoundsException if there is no such remainder: of sixteen",
        failing(), "remainder 15 = " + dues[15], "remainder 16 = " + Script.INDEX,
        "remainder 17 = " + Script.INDEX, "remainder -1 = " + Script.INDEX,
        "remainder " + Integer.MIN_VALUE + " = " + Script.INDEX,
        "remainder " + Integer.MAX_VALUE + " = " + Script.INDEX, "remainder 0 = " + dues[0]);
  }

  /** TRUE is in no kernel and in each remainder; FALSE is a kernel and in no remainder. */
  private static void ofUselessSentences() {
    edges.holds("18 .. none of whose proper parts does: TRUE is never needed",
        "constant true; add 9; add 1; atom 0; add 5", "kernels = 1", "kernel 0 = 4", "cut = 4",
        "degree = 5", "remainders = 1", "remainder 0 = 3", "bestRemainder = 3",
        "constant true", "kernels = 1", "kernel 0 = 0", "remainders = 0");
    edges.holds("18 .. a set of the base that entails it: FALSE entails all",
        "constant false; add 1; atom 0; add 9; atom 1", "kernels = 1", "kernel 0 = 1", "cut = 1",
        "degree = 1", "isBelieved = false", "remainders = 1", "remainder 0 = 2",
        "bestRemainder = 2");
    edges.holds("20 .. a set of the base that does not entail it: FALSE alone in the base",
        "constant false; add 9; atom 1", "remainders = 1", "remainder 0 = 0",
        "bestRemainder = 0", "kernels = 1", "kernel 0 = 1", "degree = 9");
  }

  /** One sentence of a rank comes before nine of the next one. */
  private static void bestRemainderByRanks() {
    for (int rank = 2; rank <= 9; rank++) {
      int less = rank - 1;
      edges.holds("22 .. the most sentences of rank 9; of several, of rank 8; and so on: one of "
          + rank + " before nine of " + less, Build.believe(~0, rank),
          Build.times(9, Build.believe(0, less)), "constant false", "remainders = 2",
          "remainder 0 = 1", "remainder 1 = 1022", "bestRemainder = 1");
      edges.holds("22 .. the most sentences of rank 9; of several, of rank 8; and so on: nine of "
          + less + " are not before one of " + rank, Build.times(9, Build.believe(0, less)),
          Build.believe(~0, rank), "constant false", "remainder 0 = 511", "remainder 1 = 512",
          "bestRemainder = 512");
      edges.holds("22 .. the most sentences of rank 9: two of " + rank + " before one and seven",
          Build.believe(0, rank), Build.believe(0, rank), Build.believe(~0, rank),
          Build.times(7, Build.believe(~0, less)), "constant false", "bestRemainder = 3");
    }
    for (int rank = 1; rank <= 9; rank++) {
      edges.holds("22 .. the most sentences of rank 9: nine of " + rank + " before one of it",
          Build.believe(~0, rank), Build.times(9, Build.believe(0, rank)), "constant false",
          "bestRemainder = 1022", "setRank 0 " + Math.min(9, rank + 1),
          "bestRemainder = " + (rank == 9 ? 1022 : 1));
    }
  }

  /** Two remainders that are equal in all ranks but one. */
  private static void bestRemainderByOneRank() {
    for (int rank = 1; rank <= 9; rank++) {
      for (int equal = 1; equal <= 9; equal++) {
        edges.holds("22 .. and so on: if they are equal in rank " + equal + ", rank " + rank
            + " tells", Build.believe(0, equal), Build.believe(~0, equal), Build.believe(~0, rank),
            "constant false", "remainder 0 = 1", "remainder 1 = 6", "bestRemainder = 6");
        edges.holds("22 .. and so on: one of rank " + rank + ", or the smaller number with one of "
            + equal, "constant true; add 1; pop", Build.believe(~0, equal),
            Build.believe(0, rank), "constant false", "remainder 0 = 3", "remainder 1 = 5",
            "bestRemainder = " + (rank > equal ? 5 : 3));
      }
    }
  }

  private static void bestRemainderByNumber() {
    for (int rank = 1; rank <= 9; rank++) {
      String one = Build.believe(0, rank);
      String other = Build.believe(~0, rank);
      String words = "22 .. equal in all ranks, the one that is told by the smallest number: ";
      edges.holds(words + "rank " + rank, one, other, "constant false", "bestRemainder = 1");
      edges.holds(words + "ten of rank " + rank, Build.times(5, one + other), "constant false",
          "remainder 0 = 341", "remainder 1 = 682", "bestRemainder = 341");
      edges.holds(words + "not by the first one, rank " + rank, one, other, other, one,
          "constant false", "remainder 0 = 6", "remainder 1 = 9", "bestRemainder = 6");
    }
    edges.holds("22 .. equal in all ranks, the one that is told by the smallest number: of 16",
        Build.believe(0, 4), Build.believe(~0, 4), Build.believe(1, 4), Build.believe(~1, 4),
        Build.believe(2, 4), Build.believe(~2, 4), Build.believe(3, 4), Build.believe(~3, 4),
        "constant false", "remainders = 16", "bestRemainder = 85", "setRank 7 5",
        "bestRemainder = 149", "setRank 0 3", "bestRemainder = 150");
  }

  private static void bestRemainderAtTheEdges() {
    edges.holds("22 Returns its best remainder: the whole base of ten", Build.times(10,
        Build.believe(0, 9)), "atom 1", "bestRemainder = 1023", "remainders = 1");
    edges.holds("22 Returns its best remainder: the empty set is one, not -1",
        Build.times(10, Build.believe(0, 9)), "atom 0", "bestRemainder = 0", "remainders = 1");
    edges.holds("22 Returns its best remainder: one that is the last of sixteen",
        Build.believe(0, 1), Build.believe(~0, 2), Build.believe(1, 1), Build.believe(~1, 2),
        Build.believe(2, 1), Build.believe(~2, 2), Build.believe(3, 1), Build.believe(~3, 2),
        "constant false", "remainder 15 = 170", "bestRemainder = 170");
  }

  private static void cutByRanks() {
    for (int rank = 1; rank <= 9; rank++) {
      edges.holds("23 .. that have the least rank in such a kernel: all have rank " + rank,
          Build.believe(0, rank), Build.believeIf(1, 0, rank), "atom 1", "cut = 3");
      for (int other = 1; other <= 9; other++) {
        int due = rank < other ? 1 : rank > other ? 2 : 3;
        edges.holds("23 .. that have the least rank in such a kernel: " + rank + " and " + other,
            Build.believe(0, rank), Build.believeIf(1, 0, other), "atom 1", "cut = " + due,
            "kernel 0 = 3");
      }
      edges.holds("23 .. the least rank in such a kernel: one of rank " + rank,
          Build.believe(1, rank), Build.believe(0, 9), Build.believe(0, 1), "atom 1", "cut = 1");
    }
  }

  /** Each kernel has its own least rank, though there is a lesser one in another kernel. */
  private static void cutOfManyKernels() {
    edges.holds("23 .. the least rank in such a kernel: not the least of all kernels",
        Build.believe(0, 1), Build.believeIf(1, 0, 5), Build.believe(2, 8),
        Build.believeIf(1, 2, 9), "atom 1", "kernel 0 = 3", "kernel 1 = 12", "cut = 5");
    edges.holds("23 .. the least rank in such a kernel: it need not be so in another",
        Build.believe(0, 5), Build.believeIf(1, 0, 3), Build.believe(~0, 7), "constant true",
        "cut = 0", "atom 1", "kernel 0 = 3", "kernel 1 = 5", "kernels = 2", "cut = 3");
    edges.holds("23 .. all members of its kernels: those of no kernel stay, of lesser rank too",
        Build.believe(3, 1), Build.believe(0, 4), Build.believeIf(1, 0, 6), Build.believe(~2, 1),
        "atom 1", "cut = 2", "atom 2", "cut = 0");
    edges.holds("23 .. all members of its kernels: of several alike each one",
        Build.believe(1, 2), Build.believe(1, 9), Build.believe(1, 5), "atom 1", "cut = 7");
  }

  private static void cutAtTheEdges() {
    edges.holds("23 Returns its cut: nothing if there is no kernel", Build.state(0, 0),
        Build.believe(0, 1), Build.believe(1, 2), "atom 2", "kernels = 0", "cut = 0");
    edges.holds("23 Returns its cut: the whole base of ten", Build.times(10, Build.believe(0, 9)),
        "atom 0", "cut = 1023");
    edges.holds("23 Returns its cut: what has to go so that it is entailed no more",
        quarrel(), "cut = 5", "giveUp 5 = 2", "kernels = 0", "cut = 0");
    edges.holds("23 Returns its cut: of FALSE", quarrel(), "constant false", "cut = 1",
        "setRank 0 5", "cut = 9", "setRank 0 6", "cut = 8");
  }

  private static void degreeOfEachRank() {
    for (int rank = 1; rank <= 9; rank++) {
      edges.holds("24 .. the greatest r from 1 to 9: " + rank, Build.believe(0, rank), "atom 0",
          "degree = " + rank, "isBelieved = true", "conflict = 0");
      edges.holds("24 .. the greatest r from 1 to 9: of two that entail it, with 1 and " + rank,
          Build.believe(0, 1), Build.believe(0, rank), "atom 0", "degree = " + rank,
          "setRank 0 9 = 1", "degree = 9");
      for (int other = 1; other <= 9; other++) {
        edges.holds("24 .. the sentences with ranks of r or more entail it: both are needed",
            Build.believe(0, rank), Build.believeIf(1, 0, other), "atom 1",
            "degree = " + Math.min(rank, other));
      }
      edges.holds("24 0 if there is none: rank " + rank, Build.believe(0, rank), "atom 1",
          "degree = 0", "isBelieved = false", "atom 0; negate", "degree = 0");
    }
  }

  private static void degreeOfSeveral() {
    StringBuilder script = new StringBuilder();
    for (int least = 9; least >= 1; least--) {
      script.append("setRank ").append(least).append(" ").append(least).append("; degree = ")
          .append(least).append(";");
    }
    edges.holds("24 .. the greatest r from 1 to 9 such that those of r or more entail it",
        Build.times(10, Build.believe(0, 9)), "atom 0", "setRank 0 1", "degree = 9",
        "giveUp 1 = 9", "add 9 = 9", "pop", "constant false", "degree = 0", "atom 0",
        "degree = 9");
    edges.holds("24 .. the greatest r from 1 to 9: each of ten is needed", apart(10),
        Build.sentence(ALL & ~1023), "setRank 0 9; setRank 1 9; setRank 2 9; setRank 3 9",
        "setRank 4 9; setRank 5 9; setRank 6 9; setRank 7 9; setRank 8 9; setRank 9 9",
        "degree = 9", script.toString());
  }

  private static void degreeAtTheEdges() {
    edges.holds("24 10 if it is true in all worlds: though the base has TRUE with rank 1",
        "constant true; add 1", "degree = 10", "isBelieved = true", "conflict = 0");
    edges.holds("24 10 if it is true in all worlds: though the base contradicts itself",
        "constant false; add 9; constant true", "degree = 10", "conflict = 9",
        "isBelieved = true");
    edges.holds("24 .. those of r or more entail it: what contradicts itself entails all",
        Build.believe(0, 9), Build.believe(~0, 4), "atom 3", "degree = 4", "constant false",
        "degree = 4", "atom 0", "degree = 9", "negate", "degree = 4");
    edges.holds("24 Returns its degree: as it is then", Build.believe(0, 3), "atom 0",
        "degree = 3", "setRank 0 4", "degree = 4", "drop", "degree = 0", "add 9", "degree = 9",
        "giveUp 1", "degree = 0");
  }

  private static void conflictOfEachRank() {
    for (int rank = 1; rank <= 9; rank++) {
      edges.holds("26 Returns the conflict: FALSE with rank " + rank, "constant false",
          "add " + rank, "conflict = " + rank, "pop", "conflict = " + rank);
      for (int other = 1; other <= 9; other++) {
        edges.holds("26 Returns the conflict: the degree of FALSE, " + rank + " and " + other,
            Build.believe(0, rank), Build.believe(~0, other),
            "conflict = " + Math.min(rank, other), "drop", "conflict = 0");
      }
      edges.holds("26 Returns the conflict: none", Build.believe(0, rank), Build.believe(1, rank),
          "conflict = 0", "constant false", "degree = 0", "conflict = 0");
    }
    edges.holds("26 Returns the conflict: on a full pile and a full base", Build.state(12, 10),
        "conflict = 8", "drop = 9", "conflict = 8", "giveUp 64 = 8", "conflict = 5");
  }

  /** a0 with rank 9 against NOT a0, and a1 beside it. */
  private static String against(int conflict, int rank) {
    return Build.believe(0, 9) + Build.believe(1, rank)
        + (conflict == 0 ? "" : Build.believe(~0, conflict));
  }

  private static void belief() {
    for (int conflict = 0; conflict <= 9; conflict++) {
      for (int rank = 1; rank <= 9; rank++) {
        boolean due = rank > conflict;
        edges.holds("25 .. if its degree is greater than the conflict: rank " + rank
            + ", conflict " + conflict, against(conflict, rank), "conflict = " + conflict,
            "atom 1", "degree = " + Math.max(rank, conflict), "isBelieved = " + due,
            "atom 2", "degree = " + conflict, "isBelieved = false");
        int core = conflict == 9 ? ALL : due ? 0x8888 : 0xAAAA;
        edges.holds("27 .. all sentences are true that are believed by the base: rank " + rank
            + ", conflict " + conflict, against(conflict, rank), "core = " + core);
      }
      edges.holds("25 .. if its degree is greater than the conflict: FALSE never, conflict "
          + conflict, against(conflict, 9), "constant false", "isBelieved = false",
          "degree = " + conflict);
    }
  }

  private static void beliefOfTrue() {
    for (int conflict = 0; conflict <= 9; conflict++) {
      edges.holds("25 .. if its degree is greater than the conflict: TRUE always, conflict "
          + conflict, against(conflict, 9), "constant true", "degree = 10", "isBelieved = true");
    }
    edges.holds("25 .. if its degree is greater than the conflict: TRUE of an empty base",
        "constant true", "isBelieved = true", "negate", "isBelieved = false");
    edges.holds("25 .. is believed by the base: not by the state", "atom 0; learn 0 9",
        "firmness = 9", "isBelieved = false", "core = " + ALL, "add 1", "isBelieved = true",
        "core = " + 0xAAAA);
  }

  private static void coreByConflict() {
    edges.holds("27 .. all sentences are true that are believed: all worlds if only TRUE is",
        "constant false; add 9", "core = " + ALL, "atom 0; add 9", "core = " + ALL,
        "setRank 0 8", "core = " + 0xAAAA);
    edges.holds("27 .. all sentences are true that are believed: a single world",
        Build.believe(0, 6), Build.believe(1, 7), Build.believe(2, 8), Build.believe(3, 9),
        "core = " + 0x8000, Build.believe(~0, 5), "core = " + 0x8000, Build.believe(~0, 6),
        "core = " + 0xC000, Build.believe(~3, 8), "core = " + 0xFF00, Build.believe(~3, 9),
        "core = " + ALL);
    edges.holds("27 .. all sentences are true that are believed: not those with the conflict",
        Build.believe(0, 4), Build.believe(~0, 4), Build.believe(1, 4), Build.believe(2, 5),
        "conflict = 4", "core = " + 0xF0F0);
    edges.holds("27 .. all sentences are true that are believed: on a full pile and a full base",
        Build.state(12, 10), "core = " + (0x00FF & 0xCCCC), "drop = 9", "core = " + 0x00FF);
  }
}
