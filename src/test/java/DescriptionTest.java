/**
 * Each sentence of the document's description that says what a call answers or changes, in its
 * order: ordinary examples, worked out by hand. The limits among them are in DescriptionEdgeTest.
 */
public final class DescriptionTest {
  private static final Edges edges = new Edges("DescriptionTest");

  /** 0: a0, 1: a1 IF a0, 2: a1, 3: NOT a0. */
  private static final String QUARREL = Build.believe(0, 3) + Build.believeIf(1, 0, 5)
      + Build.believe(1, 2) + Build.believe(~0, 5);

  /** The levels 2, 4, 2, 0, 2, 4, 2, 1 twice; pile and base are empty. */
  private static final String LEVELS = Build.believe(0, 2) + Build.believeIf(1, 0, 4)
      + Build.believe(~2, 1) + "load = 2056; giveUp 7 = 0;";

  public static void main(String[] args) {
    atomsAndWorlds();
    builtOnAPile();
    knownByItsWorlds();
    entailment();
    base();
    kernels();
    remainders();
    cut();
    bestRemainder();
    degree();
    conflictAndBelief();
    levels();
    heldTrue();
    learn();
    changesNothing();
    edges.end();
  }

  private static void atomsAndWorlds() {
    edges.holds("There are 4 atoms, 0 to 3", "atom 0 = 1; top = 43690; atom 1 = 2; top = 52428",
        "atom 2 = 3; top = 61680; atom 3 = 4; top = 65280");
    edges.holds("worlds are told as the sum of the powers 2^k of the numbers of the atoms that"
        + " are true: 1 and 2 alone", Build.literal(~0), Build.literal(1), "join 0",
        Build.literal(2), "join 0", Build.literal(~3), "join 0 = 64", "learn 0 3 = 64",
        "level 6 = 0", "level 7 = 3", "level 4 = 3", "level 2 = 3", "level 14 = 3");
    edges.holds("and sets of worlds as the sum of the powers 2^w of their worlds: 3 and 11",
        Build.literal(0), Build.literal(1), "join 0", Build.literal(~2), "join 0 = 2056",
        "learn 1 0 = 2056", "possible = 2056");
  }

  private static void builtOnAPile() {
    edges.holds("TRUE", "constant true = 1", "top = 65535");
    edges.holds("FALSE", "constant false = 1", "top = 0");
    edges.holds("NOT p", "atom 1", "negate = 13107", "negate = 52428");
    edges.holds("p AND q", "atom 1; atom 3", "join 0 = 52224", "top = 52224", "height = 1");
    edges.holds("p OR q", "atom 1; atom 3", "join 1 = 65484", "top = 65484", "height = 1");
    edges.holds("p IF q (true unless q is true and p is not)", "atom 1; atom 3", "join 2 = 52479",
        "top = 52479", "height = 1");
    edges.holds("p SAME q (true if both are true, or both are not)", "atom 1; atom 3",
        "join 3 = 52275", "top = 52275", "height = 1");
    edges.holds("Sentences are built on a pile: (NOT a0 OR a1) AND (a2 SAME a3)",
        "atom 0; negate = 21845; atom 1; join 1 = 56797; atom 2; atom 3; join 3 = 61455",
        "join 0 = 53261", "height = 1");
  }

  /** Objects in which it was built in another way answer the same, whatever they are asked. */
  private static void knownByItsWorlds() {
    String first = "atom 0; atom 1; join 0; negate = 30583;";
    String other = "atom 0; negate; atom 1; negate; join 1 = 30583;";
    String then = "add 4; learn 0 2; load; atom 2;";
    edges.holds("A sentence is known by the set of the worlds in which it is true", first, then,
        "digest");
    edges.due("an object with the same sentence, built otherwise",
        Portrait.of(Script.made(other, then)), Portrait.of(Script.made(first, then)));
  }

  private static void entailment() {
    edges.holds("Sentences entail a sentence if it is true in all worlds in which all of them are"
        + " true", QUARREL, "atom 1", "entails 3 = true", "entails 1 = false", "entails 2 = false",
        "entails 4 = true", "entails 8 = false", "entails 10 = false", "entails 9 = true",
        "entails 15 = true");
    edges.holds("(no sentences entail just what is true in all worlds)", QUARREL,
        "atom 0", "entails 0 = false", "atom 0; negate; join 1 = 65535", "entails 0 = true",
        "negate", "entails 0 = false");
    edges.holds("They are consistent if there is such a world", QUARREL, "worlds 7 = 34952",
        "worlds 14 = 17476", "worlds 9 = 0", "worlds 15 = 0", "constant false",
        "entails 7 = false", "entails 14 = false", "entails 9 = true");
  }

  private static void base() {
    edges.holds("numbered from 0 in the order in which they were added", "atom 3", "add 2 = 0",
        "atom 0", "add 7 = 1", "atom 2", "add 2 = 2", "sentence 0 false = 65280",
        "sentence 1 false = 43690", "sentence 2 false = 61680");
    edges.holds("(the same one can be there several times)", "atom 3", "add 2 = 0", "add 2 = 1",
        "add 8 = 2", "size = 3", "sentence 1 false = 65280", "kernels = 3", "kernel 2 = 4",
        "drop = 2", "kernels = 2", "giveUp 1 = 1", "kernels = 1", "kernel 0 = 1");
    edges.holds("each with a rank, 1 to 9", "atom 3", "add 2", "add 9", "add 1",
        "sentence 0 true = 2", "sentence 1 true = 9", "sentence 2 true = 1", "setRank 0 6 = 2",
        "sentence 0 true = 6", "sentence 1 true = 9", "sentence 2 true = 1");
    edges.holds("Sets of them are told as the sum of the powers 2^k of their numbers", QUARREL,
        "worlds 5 = 34952", "worlds 10 = 21845", "giveUp 5 = 2", "sentence 0 false = 56797",
        "sentence 1 false = 21845");
  }

  private static void kernels() {
    edges.holds("A kernel for a sentence is a set of the base that entails it, none of whose"
        + " proper parts does", QUARREL, "atom 1", "kernels = 3", "atom 0", "kernels = 1",
        "kernel 0 = 1", "atom 2", "kernels = 1", "kernel 0 = 9", "constant true", "kernels = 1",
        "kernel 0 = 0", "constant false", "kernel 0 = 9", "kernels = 1");
    edges.holds("Both are numbered from 0 in ascending order of the numbers that tell them",
        QUARREL, "atom 1", "kernel 0 = 3", "kernel 1 = 4", "kernel 2 = 9");
  }

  private static void remainders() {
    edges.holds("A remainder for a sentence is a set of the base that does not entail it, and is"
        + " no proper part of another set of the base that does not", QUARREL, "atom 1",
        "remainders = 2", "atom 0", "remainders = 1", "remainder 0 = 14", "atom 2",
        "remainders = 2", "constant false", "remainders = 2", "constant true", "remainders = 0");
    edges.holds("Both are numbered from 0 in ascending order of the numbers that tell them",
        QUARREL, "atom 1", "remainder 0 = 1", "remainder 1 = 10", "atom 2", "remainder 0 = 7",
        "remainder 1 = 14");
  }

  private static void cut() {
    edges.holds("The cut for a sentence has all members of its kernels that have the least rank"
        + " in such a kernel", QUARREL, "atom 1", "cut = 5", "setRank 3 1 = 5", "cut = 13",
        "setRank 0 5 = 3", "cut = 15", "setRank 1 9 = 5", "cut = 13", "atom 0", "cut = 1",
        "constant false", "cut = 8", "setRank 3 5", "cut = 9", "constant true", "cut = 0");
    edges.holds("The cut: the least rank in one kernel is not that of another",
        Build.believe(0, 2), Build.believe(0, 9), Build.believe(1, 5), Build.believeIf(0, 1, 7),
        "atom 0", "kernel 0 = 1", "kernel 1 = 2", "kernel 2 = 12", "kernels = 3", "cut = 7");
  }

  private static void bestRemainder() {
    edges.holds("The best remainder is the one with the most sentences of rank 9", QUARREL,
        "atom 1", "remainder 0 = 1", "remainder 1 = 10", "bestRemainder = 10", "setRank 0 9",
        "bestRemainder = 1", "setRank 3 9", "bestRemainder = 10", "setRank 1 9",
        "bestRemainder = 10");
    edges.holds("of several, the one with the most sentences of rank 8; and so on", QUARREL,
        "atom 1", "setRank 0 9; setRank 1 9; setRank 3 8", "bestRemainder = 10",
        "setRank 0 8; setRank 1 7; setRank 3 7", "bestRemainder = 1",
        "setRank 0 4; setRank 1 3; setRank 3 4", "bestRemainder = 10", "setRank 3 3",
        "bestRemainder = 1");
    edges.holds("of several that are equal in all ranks, the one that is told by the smallest"
        + " number", Build.believe(0, 4), Build.believe(~0, 4), "constant false", "remainders = 2",
        "bestRemainder = 1", "setRank 1 5", "bestRemainder = 2", "setRank 0 5",
        "bestRemainder = 1");
  }

  private static void degree() {
    edges.holds("The degree of a sentence is the greatest r from 1 to 9 such that the sentences"
        + " of the base with ranks of r or more entail it", QUARREL, "atom 1", "degree = 3",
        "atom 0", "degree = 3", "negate", "degree = 5", "setRank 3 9", "degree = 9", "drop",
        "degree = 0", "pop", "degree = 3", "setRank 2 7", "degree = 7");
    edges.holds("0 if there is none", QUARREL, "giveUp 8 = 3", "atom 2", "degree = 0",
        "atom 0; negate", "degree = 0", "constant false", "degree = 0");
    edges.holds("10 if it is true in all worlds", QUARREL, "atom 2; negate; atom 2; join 1",
        "degree = 10", "giveUp 15 = 0", "degree = 10");
  }

  private static void conflictAndBelief() {
    edges.holds("The conflict is the degree of FALSE", QUARREL, "conflict = 3", "setRank 0 4",
        "conflict = 4", "setRank 3 2", "conflict = 2", "setRank 1 1", "conflict = 2", "drop",
        "conflict = 0", "constant false", "degree = 0");
    edges.holds("A sentence is believed by the base if its degree is greater than the conflict",
        QUARREL, "atom 1", "isBelieved = false", "atom 0", "isBelieved = false", "negate",
        "isBelieved = true", "core = 21845", "giveUp 8", "isBelieved = false", "pop",
        "isBelieved = true", "core = 34952");
    edges.holds("all sentences that are believed by the base, not those of the base alone",
        QUARREL, "atom 1; atom 0; negate; join 1 = 56797", "isBelieved = true", "atom 2; join 1",
        "isBelieved = true", "constant true", "isBelieved = true", "atom 2",
        "isBelieved = false", "core = 21845");
  }

  private static void levels() {
    edges.holds("(At first all levels are 0.)", Build.levels(new int[16]), "layers = 1",
        "possible = 65535");
    edges.holds("Each world has a level, at least 0; the least one of all worlds is 0", LEVELS,
        Build.levels(2, 4, 2, 0, 2, 4, 2, 1, 2, 4, 2, 0, 2, 4, 2, 1), "layers = 4");
    edges.holds("The worlds with the level 0 are those that are held possible", LEVELS,
        "possible = 2056", "share 0 = 1.0", "share 1 = 1.0", "share 2 = 0.0", "share 3 = 0.5");
  }

  private static void heldTrue() {
    edges.holds("a sentence is held true if it is true in all of them", LEVELS, "atom 0",
        "firmness = 2", "atom 2; negate", "firmness = 1", "atom 2", "firmness = 0", "atom 3",
        "firmness = 0", "constant true", "firmness = -1", "atom 1", "would = true", "negate",
        "would = false", "pop; atom 3", "would = false");
    edges.holds("would be held true if p were", LEVELS, "atom 2; atom 0", "would = true", "pop",
        "atom 1; negate", "would = false", "pop; pop; atom 0; negate; atom 2", "would = false");
  }

  private static void learn() {
    edges.holds("0 FIRM: the levels of worlds in which p is true become less by m; those of other"
        + " worlds become less by n, and greater by s", LEVELS, "atom 2", "learn 0 3 = 32896",
        Build.levels(5, 7, 5, 3, 1, 3, 1, 0, 5, 7, 5, 3, 1, 3, 1, 0), "possible = 32896",
        "negate", "learn 0 1 = 2056",
        Build.levels(2, 4, 2, 0, 2, 4, 2, 1, 2, 4, 2, 0, 2, 4, 2, 1), "learn 0 4 = 2056",
        Build.levels(2, 4, 2, 0, 5, 7, 5, 4, 2, 4, 2, 0, 5, 7, 5, 4), "learn 0 0 = 34952",
        Build.levels(2, 4, 2, 0, 1, 3, 1, 0, 2, 4, 2, 0, 1, 3, 1, 0));
    edges.holds("1 NATURAL: the worlds in which p is true, with the level m, get the level 0; the"
        + " level of each other world becomes greater by 1", LEVELS, "atom 2",
        "learn 1 0 = 32896", Build.levels(3, 5, 3, 1, 3, 5, 3, 0, 3, 5, 3, 1, 3, 5, 3, 0));
    edges.holds("2 STRICT: those in which p is true come ahead of the others; the levels are 0, 1,"
        + " 2 and so on, without gaps", LEVELS, "atom 2", "learn 2 0 = 32896",
        Build.levels(4, 5, 4, 3, 1, 2, 1, 0, 4, 5, 4, 3, 1, 2, 1, 0), "layers = 6");
    edges.holds("3 DOUBT: the worlds in which p is not true, with the level n, get the level 0;"
        + " the other levels stay as they are", LEVELS, "atom 2; negate", "learn 3 0 = 34952",
        Build.levels(2, 4, 2, 0, 2, 4, 2, 0, 2, 4, 2, 0, 2, 4, 2, 0), "layers = 3");
    edges.holds("n the least one of those in which it is not (if there are any)", LEVELS,
        "constant true", "learn 0 9 = 2056", "level 1 = 4", "learn 1 0 = 2056", "level 1 = 5",
        "learn 2 0 = 2056", "level 1 = 3");
  }

  /** Edges compares the object after each refused call with one that was spared it. */
  private static void changesNothing() {
    String full = Build.state(12, 10);
    refused(full, Script.STATE, "atom 0", "constant true", "recall 0", "add 5");
    refused(full, Script.INDEX, "atom 4", "recall 10", "setRank 10 1", "sentence 10 false",
        "kernel 1000", "remainder 1000", "level 16", "share 4");
    refused(full, Script.ARGUMENT, "join 4", "add 0", "setRank 0 10", "giveUp 1024",
        "worlds 1024", "entails 1024", "learn 4 0", "learn 0 10");
    refused(Build.state(0, 4), Script.STATE, "negate", "join 0", "pop", "top", "add 5",
        "entails 0", "kernels", "kernel 0", "remainders", "remainder 0", "bestRemainder", "cut",
        "degree", "isBelieved", "learn 0 5", "learn 1 0", "learn 2 0", "learn 3 0", "firmness",
        "would");
    refused(Build.state(1, 0), Script.STATE, "join 0", "drop", "would");
    refused(Build.state(3, 4) + "constant false;", Script.STATE, "learn 0 5", "learn 1 0",
        "learn 2 0");
    refused(Build.state(3, 4) + "constant true;", Script.STATE, "learn 3 0");
  }

  private static void refused(String given, String exception, String... calls) {
    for (String call : calls) {
      edges.holds("A method that throws an exception changes nothing: " + call, given,
          call + " = " + exception);
    }
  }
}
