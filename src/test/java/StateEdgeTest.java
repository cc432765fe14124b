import java.math.BigInteger;
import java.util.Arrays;
import java.util.List;
import java.util.Set;
import java.util.TreeSet;

/** The sentences about limits in the promises 28 to 36: the state, and the checksum. */
public final class StateEdgeTest {
  private static final Edges edges = new Edges("StateEdgeTest");
  private static final int ALL = Build.ALL;
  private static final int[] ZERO = new int[16];

  /** The levels 0 to 9 all occur, some in several worlds; the worlds 0 and 7 are held possible. */
  private static final int[] MIXED = {0, 2, 2, 5, 7, 7, 1, 0, 3, 3, 3, 9, 4, 6, 6, 8};
  private static final String MIX = Build.load(MIXED);

  /** The same levels; sentences on the pile and in the base, and room for more. */
  private static final String RICH = MIX + Build.base(4) + Build.pile(3);

  public static void main(String[] args) {
    loadOfNone();
    loadOfEachRank();
    loadOfSeveral();
    loadLessByTheLeast();
    loadKeeps();
    levelInside();
    levelOutside();
    possible();
    learnFirmly();
    learnFirmlyAtTheEdges();
    learnNaturally();
    learnStrictly();
    learnStrictlyWithoutGaps();
    doubt();
    learnEachWorld();
    learnWayOutside();
    learnFirmnessOutside();
    firmnessDoesNotMatter();
    learnOnEmptyPile();
    learnImpossible();
    learnLeavesTheRest();
    firmness();
    firmnessOfTrue();
    would();
    wouldOfNothing();
    wouldOfTooFew();
    layers();
    share();
    shareOfEachSet();
    shareOutside();
    digest();
    digestWraps();
    edges.end();
  }

  private static int worldsAt(int level, int... levels) {
    int set = 0;
    for (int w = 0; w < 16; w++) {
      set += levels[w] == level ? 1 << w : 0;
    }
    return set;
  }

  /** Asks for all levels, and for the worlds that are held possible with them. */
  private static String state(int... levels) {
    return Build.levels(levels) + "possible = " + worldsAt(0, levels) + ";";
  }

  private static int[] plus(int more, int... levels) {
    int[] sums = levels.clone();
    for (int w = 0; w < 16; w++) {
      sums[w] += more;
    }
    return sums;
  }

  private static int[] with(int level, int world, int... levels) {
    int[] changed = levels.clone();
    changed[world] = level;
    return changed;
  }

  private static int[] inAndOut(int worlds, int inside, int outside) {
    int[] levels = new int[16];
    for (int w = 0; w < 16; w++) {
      levels[w] = (worlds >> w & 1) == 1 ? inside : outside;
    }
    return levels;
  }

  private static void loadOfNone() {
    edges.holds("28 (0 if all are): of an empty base, new", "load = " + ALL, state(ZERO));
    edges.holds("28 (0 if all are): of an empty base, whatever was learned", MIX,
        "load = " + ALL, state(ZERO), "layers = 1");
    edges.holds("28 (0 if all are): of an empty base, what it had is gone", Build.base(10),
        "load", "giveUp 1023 = 0", "load = " + ALL, state(ZERO));
    edges.holds("28 (0 if all are): TRUE alone in the base", "constant true; add 9; add 1",
        "load = " + ALL, state(ZERO));
  }

  private static void loadOfEachRank() {
    for (int rank = 1; rank <= 9; rank++) {
      edges.holds("28 .. as its level the greatest rank of a sentence not true in it: " + rank,
          Build.believe(0, rank), "load = " + 0xAAAA, state(inAndOut(0xAAAA, 0, rank)));
      for (int world = 0; world < 16; world++) {
        edges.holds("28 .. as its level the greatest rank: of world " + world + ", " + rank,
            Build.believeIn(ALL ^ 1 << world, rank), "load = " + (ALL ^ 1 << world),
            state(with(rank, world, ZERO)));
      }
    }
  }

  private static void loadOfSeveral() {
    for (int rank = 1; rank <= 9; rank++) {
      for (int other = 1; other <= 9; other++) {
        int both = Math.max(rank, other);
        int[] due = {both, other, rank, 0, both, other, rank, 0, both, other, rank, 0, both, other,
            rank, 0};
        edges.holds("28 .. the greatest rank of a sentence not true in it: " + rank + " and "
            + other, Build.believe(0, rank), Build.believe(1, other), "load = " + 0x8888,
            state(due));
      }
    }
    StringBuilder given = new StringBuilder();
    int[] due = new int[16];
    for (int k = 0; k < 9; k++) {
      given.append(Build.believeIn(ALL ^ 1 << k, k + 1));
      due[k] = k + 1;
    }
    given.append(Build.believeIn(ALL ^ 1 << 15, 5));
    due[15] = 5;
    edges.holds("28 .. the greatest rank of a sentence not true in it: ten sentences",
        given.toString(), "load = " + 0x7E00, state(due), "layers = 10");
  }

  private static void loadLessByTheLeast() {
    for (int rank = 1; rank <= 9; rank++) {
      edges.holds("28 then all levels become less by the least one: FALSE with rank " + rank,
          "constant false; add " + rank, "load = " + ALL, state(ZERO));
      for (int other = 1; other <= 9; other++) {
        int least = Math.min(rank, other);
        int[] due = inAndOut(0xAAAA, other - least, rank - least);
        edges.holds("28 then all levels become less by the least one: " + rank + " and " + other,
            Build.believe(0, rank), Build.believe(~0, other), "load = " + worldsAt(0, due),
            state(due));
      }
      int[] due = inAndOut(0xAAAA, 0, Math.max(0, 9 - rank));
      edges.holds("28 then all levels become less by the least one: FALSE and another",
          "constant false; add " + rank + "; pop", Build.believe(0, 9),
          "load = " + worldsAt(0, due), state(due));
    }
  }

  private static void loadKeeps() {
    edges.holds("28 Makes the state from the base: neither the base nor the pile changes",
        Build.state(12, 10), "load", "height = 12", "size = 10", "conflict = 8", "load");
    edges.holds("28 Makes the state from the base: not before it is called",
        Build.believe(0, 9), state(ZERO), "load = " + 0xAAAA, "setRank 0 1", "level 0 = 9",
        "load = " + 0xAAAA, "level 0 = 1", "drop", "level 0 = 1", "load = " + ALL, "level 0 = 0");
  }

  private static void levelInside() {
    for (int world = 0; world < 16; world++) {
      edges.holds("29 Returns its level: world " + world, MIX,
          "level " + world + " = " + MIXED[world]);
      edges.holds("29 Returns its level: world " + world + " alone has one",
          Build.sentence(ALL ^ 1 << world), "learn 0 " + (world % 9 + 1),
          state(with(world % 9 + 1, world, ZERO)));
    }
  }

  private static void levelOutside() {
    for (int world : Far.outside(0, 15)) {
      String refused = "level " + world + " = " + Script.INDEX;
      edges.holds("29 Throws IndexOutOfBoundsException if world is not 0 to 15: new", refused);
      edges.holds("29 Throws IndexOutOfBoundsException if world is not 0 to 15: all full",
          Build.state(12, 10), refused);
      edges.holds("29 Throws IndexOutOfBoundsException if world is not 0 to 15", RICH, refused,
          "level 0 = 0", "level 15 = 8");
    }
  }

  private static void possible() {
    edges.holds("30 Returns the worlds that are held possible: all", "possible = " + ALL);
    edges.holds("30 Returns the worlds that are held possible: with the level 0", MIX,
        "possible = " + 0x0081);
    for (int world = 0; world < 16; world++) {
      edges.holds("30 Returns the worlds that are held possible: world " + world + " alone",
          Build.sentence(1 << world), "learn 0 1 = " + (1 << world), "possible = " + (1 << world));
      edges.holds("30 Returns the worlds that are held possible: all but world " + world,
          Build.sentence(ALL ^ 1 << world), "learn 1 0 = " + (ALL ^ 1 << world),
          "possible = " + (ALL ^ 1 << world));
    }
  }

  private static void learnFirmly() {
    for (int s = 0; s <= 9; s++) {
      int[] due = {s, 2 + s, 2 + s, 5 + s, 7 + s, 7 + s, 1 + s, s, 0, 0, 0, 6, 1, 3, 3, 5};
      edges.holds("31 FIRM, with a firmness from 0 to 9: " + s, MIX, "atom 3",
          "learn 0 " + s + " = " + worldsAt(0, due), state(due), "height = 1");
      int[] undone = {0, 2, 2, 5, 7, 7, 1, 0, s, s, s, 6 + s, 1 + s, 3 + s, 3 + s, 5 + s};
      edges.holds("31 FIRM, with a firmness from 0 to 9: of NOT, " + s, MIX, "atom 3; negate",
          "learn 0 " + s + " = " + worldsAt(0, undone), state(undone));
      edges.holds("31 FIRM: .. less by n (if there are any): TRUE with " + s, MIX,
          "constant true", "learn 0 " + s + " = " + 0x0081, state(MIXED));
      edges.holds("31 FIRM: .. less by n (if there are any): TRUE with " + s + ", new",
          "constant true", "learn 0 " + s + " = " + ALL, state(ZERO));
      edges.holds("31 FIRM, with a firmness from 0 to 9: new, " + s, "atom 1",
          "learn 0 " + s + " = " + (s == 0 ? ALL : 0xCCCC), state(inAndOut(0xCCCC, 0, s)));
      edges.holds("31 FIRM: .. less by n, and greater by s: again, " + s, "atom 1",
          "learn 0 9 = " + 0xCCCC, "learn 0 " + s + " = " + (s == 0 ? ALL : 0xCCCC),
          state(inAndOut(0xCCCC, 0, s)), "learn 0 9 = " + 0xCCCC,
          state(inAndOut(0xCCCC, 0, 9)));
    }
  }

  private static void learnFirmlyAtTheEdges() {
    edges.holds("31 FIRM: .. less by m, the least level of the worlds in which it is true: 9",
        MIX, Build.sentence(1 << 11), "learn 0 9 = " + (1 << 11),
        state(with(0, 11, plus(9, MIXED))));
    edges.holds("31 FIRM: .. less by n, the least one of those in which it is not: 9", MIX,
        Build.sentence(ALL ^ 1 << 11), "learn 0 0 = " + 0x0881, state(with(0, 11, MIXED)),
        "learn 0 9 = " + 0x0081, state(MIXED));
    edges.holds("31 FIRM: .. both m and n above 0 do not occur: m is 0, n is 1", MIX,
        Build.sentence(0x0081), "learn 0 1 = " + 0x0081, state(MIXED), "learn 0 0 = " + 0x00C1,
        state(0, 1, 1, 4, 6, 6, 0, 0, 2, 2, 2, 8, 3, 5, 5, 7));
  }

  private static void learnNaturally() {
    edges.holds("31 NATURAL: those with the level m get 0; each other becomes greater by 1", MIX,
        "atom 3", "learn 1 0 = " + 0x0700,
        state(1, 3, 3, 6, 8, 8, 2, 1, 0, 0, 0, 10, 5, 7, 7, 9));
    edges.holds("31 NATURAL: TRUE, too, makes each other level greater by 1", MIX,
        "constant true", "learn 1 0 = " + 0x0081,
        state(with(0, 0, with(0, 7, plus(1, MIXED)))));
    edges.holds("31 NATURAL: TRUE, where all levels are 0", "constant true",
        "learn 1 0 = " + ALL, state(ZERO));
    edges.holds("31 NATURAL: a single world with the greatest level", MIX,
        Build.sentence(1 << 11), "learn 1 0 = " + 0x0800, state(with(0, 11, plus(1, MIXED))));
    edges.holds("31 NATURAL: all but a single world with the greatest level", MIX,
        Build.sentence(ALL ^ 1 << 11), "learn 1 0 = " + 0x0081,
        state(with(0, 0, with(0, 7, plus(1, MIXED)))));
    edges.holds("31 NATURAL: what is held true already", "atom 0; learn 1 0 = 43690",
        "learn 1 0 = 43690", state(inAndOut(0xAAAA, 0, 2)));
    edges.holds("31 NATURAL: one of the worlds on the level m is not enough", MIX,
        Build.sentence(0x0201), "learn 1 0 = 1",
        state(0, 3, 3, 6, 8, 8, 2, 1, 4, 4, 4, 10, 5, 7, 7, 9));
  }

  private static void learnStrictly() {
    edges.holds("31 STRICT: those in which p is true come ahead; the lower level comes ahead",
        MIX, "atom 3", "learn 2 0 = " + 0x0700,
        state(5, 7, 7, 8, 9, 9, 6, 5, 0, 0, 0, 4, 1, 2, 2, 3), "layers = 10");
    edges.holds("31 STRICT: a single world with the greatest level", MIX,
        Build.sentence(1 << 11), "learn 2 0 = " + 0x0800, state(with(0, 11, plus(1, MIXED))));
    edges.holds("31 STRICT: all but a single world with the greatest level", MIX,
        Build.sentence(ALL ^ 1 << 11), "learn 2 0 = " + 0x0081, state(MIXED));
    edges.holds("31 STRICT: all but a single world with the least level", MIX,
        Build.sentence(ALL ^ 1), "learn 2 0 = " + 0x0080, state(with(10, 0, MIXED)));
    edges.holds("31 STRICT: worlds that this does not tell apart have the same level: new",
        "atom 2", "learn 2 0 = " + 0xF0F0, state(inAndOut(0xF0F0, 0, 1)), "learn 2 0 = " + 0xF0F0,
        state(inAndOut(0xF0F0, 0, 1)), "negate", "learn 2 0 = " + 0x0F0F,
        state(inAndOut(0x0F0F, 0, 1)));
    edges.holds("31 STRICT: on one level, those in which p is true come ahead", MIX,
        Build.sentence(0x0002), "learn 2 0 = 2",
        state(1, 0, 3, 6, 8, 8, 2, 1, 4, 4, 4, 10, 5, 7, 7, 9));
  }

  private static void learnStrictlyWithoutGaps() {
    edges.holds("31 STRICT: the levels are 0, 1, 2 and so on, without gaps: TRUE",
        Build.believe(0, 9) + Build.believe(1, 4) + "load; constant true", "level 0 = 9",
        "learn 2 0 = " + 0x8888, state(2, 1, 2, 0, 2, 1, 2, 0, 2, 1, 2, 0, 2, 1, 2, 0));
    edges.holds("31 STRICT: .. without gaps: TRUE, where all levels are 0", "constant true",
        "learn 2 0 = " + ALL, state(ZERO));
    edges.holds("31 STRICT: .. without gaps: between the two, and among the others",
        Build.believe(0, 9) + Build.believe(1, 4) + "load; atom 0; negate", "learn 2 0 = "
            + 0x5555, state(0, 2, 0, 1, 0, 2, 0, 1, 0, 2, 0, 1, 0, 2, 0, 1));
    edges.holds("31 STRICT: the levels are 0, 1, 2 and so on: 0 to 15", "atom 0; learn 2 0",
        "atom 1; learn 2 0; atom 2; learn 2 0; atom 3", "learn 2 0 = " + 0x8000,
        state(15, 14, 13, 12, 11, 10, 9, 8, 7, 6, 5, 4, 3, 2, 1, 0), "layers = 16",
        "negate; learn 2 0 = " + 0x0080,
        state(7, 6, 5, 4, 3, 2, 1, 0, 15, 14, 13, 12, 11, 10, 9, 8));
    edges.holds("31 STRICT: .. without gaps: levels far apart", MIX, Build.sentence(1 << 11),
        "learn 0 9; learn 0 9; learn 1 0; pop; atom 3; learn 0 9; learn 0 9; constant true",
        "learn 2 0 = 2048", state(1, 3, 3, 5, 6, 6, 2, 1, 4, 4, 4, 0, 5, 6, 6, 7), "layers = 8");
  }

  private static void doubt() {
    edges.holds("31 DOUBT: those in which p is not true, with the level n, get 0: n is 3", MIX,
        "atom 3; negate", "learn 3 0 = " + 0x0781,
        state(0, 2, 2, 5, 7, 7, 1, 0, 0, 0, 0, 9, 4, 6, 6, 8));
    edges.holds("31 DOUBT: the other levels stay as they are: n is 0", MIX, "atom 3",
        "learn 3 0 = " + 0x0081, state(MIXED));
    edges.holds("31 DOUBT: FALSE is not true in any world, n is 0", MIX, "constant false",
        "learn 3 0 = " + 0x0081, state(MIXED));
    edges.holds("31 DOUBT: FALSE, where all levels are 0", "constant false",
        "learn 3 0 = " + ALL, state(ZERO));
    edges.holds("31 DOUBT: it fails in a single world, with the greatest level", MIX,
        Build.sentence(ALL ^ 1 << 11), "learn 3 0 = " + 0x0881, state(with(0, 11, MIXED)));
    edges.holds("31 DOUBT: it is true in a single world, with the least level", MIX,
        Build.sentence(1), "learn 3 0 = " + 0x0081, state(MIXED));
    edges.holds("31 DOUBT: it is true in just the worlds held possible, n is 1", MIX,
        Build.sentence(0x0081), "learn 3 0 = " + 0x00C1, state(with(0, 6, MIXED)),
        "learn 3 0 = " + 0x00C1);
  }

  /** True in a single world, and true in all but one: neither is true in no world, or in all. */
  private static void learnEachWorld() {
    for (int world = 0; world < 16; world++) {
      int alone = 1 << world;
      int others = ALL ^ alone;
      String words = ": world " + world;
      edges.holds("31 .. the sentence is true in no world: FIRM, not if it is in one" + words, MIX,
          Build.sentence(alone), "learn 0 3 = " + alone, "level " + world + " = 0");
      edges.holds("31 .. the sentence is true in no world: NATURAL, not if it is in one" + words,
          MIX, Build.sentence(alone), "learn 1 0 = " + alone, "level " + world + " = 0");
      edges.holds("31 .. the sentence is true in no world: STRICT, not if it is in one" + words,
          MIX, Build.sentence(alone), "learn 2 0 = " + alone, "level " + world + " = 0");
      edges.holds("31 .. it is true in all worlds: DOUBT, not if it is in all but one" + words,
          MIX, Build.sentence(others), "learn 3 0 = " + (0x0081 | alone),
          state(with(0, world, MIXED)));
    }
  }

  private static void learnWayOutside() {
    for (int way : Far.outside(0, 3)) {
      for (int firmness : new int[] {0, 9, -1, 10}) {
        String call = "learn " + way + " " + firmness + " = " + Script.ARGUMENT;
        edges.holds("31 Throws IllegalArgumentException if way is not 0 to 3", Build.state(1, 4),
            call, "atom 3", call);
        edges.holds("31 .. named first: way is not 0 to 3, and the pile is empty",
            Build.state(0, 4), call);
        edges.holds("31 .. named first: way is not 0 to 3, and the sentence is TRUE or FALSE",
            Build.LEVELS, "constant false", call, "constant true", call);
      }
    }
  }

  private static void learnFirmnessOutside() {
    for (int firmness : Far.outside(0, 9)) {
      String call = "learn 0 " + firmness + " = " + Script.ARGUMENT;
      edges.holds("31 Throws IllegalArgumentException if it is 0, and firmness is not 0 to 9",
          Build.state(2, 4), call, "height = 2");
      edges.holds("31 .. named first: firmness is not 0 to 9, and the pile is empty",
          Build.state(0, 4), call);
      edges.holds("31 .. named first: firmness is not 0 to 9, and the sentence is TRUE or FALSE",
          Build.LEVELS, "constant false", call, "constant true", call);
    }
  }

  private static Set<Integer> firmnesses() {
    Set<Integer> all = new TreeSet<>(Far.outside(0, 9));
    for (int inside = 0; inside <= 9; inside++) {
      all.add(inside);
    }
    return all;
  }

  private static void firmnessDoesNotMatter() {
    for (int firmness : firmnesses()) {
      edges.holds("31 the firmness, for FIRM; otherwise it does not matter: NATURAL", MIX,
          "atom 3", "learn 1 " + firmness + " = " + 0x0700,
          state(1, 3, 3, 6, 8, 8, 2, 1, 0, 0, 0, 10, 5, 7, 7, 9));
      edges.holds("31 the firmness, for FIRM; otherwise it does not matter: STRICT", MIX,
          "atom 3", "learn 2 " + firmness + " = " + 0x0700,
          state(5, 7, 7, 8, 9, 9, 6, 5, 0, 0, 0, 4, 1, 2, 2, 3));
      edges.holds("31 the firmness, for FIRM; otherwise it does not matter: DOUBT", MIX,
          "atom 3; negate", "learn 3 " + firmness + " = " + 0x0781,
          state(0, 2, 2, 5, 7, 7, 1, 0, 0, 0, 0, 9, 4, 6, 6, 8));
    }
  }

  private static void learnOnEmptyPile() {
    for (int way = 0; way <= 3; way++) {
      for (int firmness : new int[] {0, 5, 9}) {
        String call = "learn " + way + " " + firmness + " = " + Script.STATE;
        edges.holds("31 Throws IllegalStateException if the pile is empty: new", call);
        edges.holds("31 Throws IllegalStateException if the pile is empty", Build.state(0, 4),
            call, "size = 4");
        edges.holds("31 Throws IllegalStateException if the pile is empty: after pop",
            Build.state(1, 10), "learn " + way + " " + firmness, "pop = 0", call);
      }
      if (way != 0) {
        edges.holds("31 Throws IllegalStateException if the pile is empty: any firmness",
            Build.state(0, 4), "learn " + way + " -1 = " + Script.STATE,
            "learn " + way + " 10 = " + Script.STATE,
            "learn " + way + " " + Integer.MIN_VALUE + " = " + Script.STATE,
            "learn " + way + " " + Integer.MAX_VALUE + " = " + Script.STATE);
      }
    }
  }

  private static void learnImpossible() {
    for (int firmness = 0; firmness <= 9; firmness++) {
      for (int way = 0; way <= 2; way++) {
        String call = "learn " + way + " " + firmness;
        String words = "31 .. the way is not 3, and the sentence is true in no world: way " + way;
        edges.holds(words, "constant false", call + " = " + Script.STATE, state(ZERO));
        edges.holds(words, Build.state(3, 4), "atom 0; atom 0; negate; join 0 = 0",
            call + " = " + Script.STATE, "negate = " + ALL, call);
        edges.holds(words + ", on a full pile", Build.state(11, 4), "constant false",
            call + " = " + Script.STATE);
      }
      String call = "learn 3 " + firmness;
      String words = "31 .. the way is 3, and it is true in all worlds";
      edges.holds(words, "constant true", call + " = " + Script.STATE, state(ZERO));
      edges.holds(words, Build.state(3, 4), "atom 0; atom 0; join 3 = " + ALL,
          call + " = " + Script.STATE, "negate = 0", call);
      edges.holds(words + ", on a full pile", Build.state(11, 4), "constant true",
          call + " = " + Script.STATE);
    }
    edges.holds("31 .. the sentence is true in no world: with any firmness", MIX,
        "constant false", "learn 1 -1 = " + Script.STATE, "learn 2 10 = " + Script.STATE,
        "learn 1 " + Integer.MAX_VALUE + " = " + Script.STATE,
        "learn 2 " + Integer.MIN_VALUE + " = " + Script.STATE);
    edges.holds("31 .. it is true in all worlds: with any firmness", MIX, "constant true",
        "learn 3 -1 = " + Script.STATE, "learn 3 10 = " + Script.STATE,
        "learn 3 " + Integer.MAX_VALUE + " = " + Script.STATE,
        "learn 3 " + Integer.MIN_VALUE + " = " + Script.STATE);
  }

  private static void learnLeavesTheRest() {
    for (int way = 0; way <= 3; way++) {
      edges.holds("31 Learns the sentence on top of the pile: it stays there, way " + way,
          Build.base(10), Build.pile(12), "learn " + way + " 5", "height = 12",
          "top = " + Build.pileWorlds(11), "size = 10", "conflict = 8",
          "sentence 9 false = " + Build.baseWorlds(9));
      edges.holds("31 Learns the sentence on top of the pile: not one below, way " + way,
          Build.load(inAndOut(0xAAAA, 0, 4)), "atom 2; atom 1; atom 0; negate",
          "learn " + way + " 5 = " + (way == 3 ? 0xAAAA : 0x5555));
    }
  }

  private static void firmness() {
    for (int world = 0; world < 16; world++) {
      edges.holds("32 .. the least level of the worlds in which it is not true: world " + world,
          MIX, Build.sentence(ALL ^ 1 << world), "firmness = " + MIXED[world], "height = 1");
      edges.holds("32 (0 if one of these is held possible): true in world " + world + " alone",
          MIX, Build.sentence(1 << world), "firmness = 0");
    }
    edges.holds("32 .. the least level of the worlds in which it is not true: just 0 above", MIX,
        Build.sentence(0x0081), "firmness = 1", Build.sentence(0x00C1), "firmness = 2",
        Build.sentence(0x00C7), "firmness = 3", Build.sentence(0x0080), "firmness = 0",
        Build.sentence(0x00C6), "firmness = 0");
    edges.holds("32 (0 if one of these is held possible): FALSE", MIX, "constant false",
        "firmness = 0");
    edges.holds("32 (0 if one of these is held possible): new", "constant false", "firmness = 0",
        "atom 1", "firmness = 0");
    for (int s = 0; s <= 9; s++) {
      edges.holds("32 Returns how firmly it is held true: learned with " + s, "atom 2",
          "learn 0 " + s, "firmness = " + s, "negate", "firmness = 0");
    }
    for (int size : new int[] {0, 4, 10}) {
      edges.holds("32 Throws IllegalStateException if the pile is empty, of " + size,
          Build.state(0, size), "firmness = " + Script.STATE, "constant true", "firmness = -1",
          "pop = 0", "firmness = " + Script.STATE);
    }
    edges.holds("32 Throws IllegalStateException if the pile is empty: new",
        "firmness = " + Script.STATE);
  }

  private static void firmnessOfTrue() {
    edges.holds("32 -1 if it is true in all worlds: new", "constant true", "firmness = -1");
    edges.holds("32 -1 if it is true in all worlds", MIX, "constant true", "firmness = -1",
        "negate", "firmness = 0", "atom 1; atom 1; join 2", "firmness = -1");
    edges.holds("32 -1 if it is true in all worlds: a full pile", Build.state(11, 10),
        "constant true", "firmness = -1");
    edges.holds("32 -1 if it is true in all worlds: not if it is true in those held possible",
        "atom 0; learn 0 9", "firmness = 9", "constant true", "learn 0 9", "firmness = -1");
  }

  private static void would() {
    edges.holds("33 .. all worlds with the least level among those in which p is true", MIX,
        "atom 3", Build.sentence(0x0700), "would = true", "height = 2", "pop",
        Build.sentence(0x0600), "would = false", "pop", Build.sentence(0x0300), "would = false",
        "pop", Build.sentence(0x0701), "would = true", "pop", Build.sentence(ALL ^ 0x0400),
        "would = false", "pop", "constant false", "would = false", "pop", "constant true",
        "would = true");
    edges.holds("33 .. whether q would be held true if p were: (on top) q", MIX, "atom 3",
        "atom 3; negate", "would = false", "pop; pop; atom 3; constant true", "would = true",
        "pop; pop; constant true; atom 3", "would = false");
    for (int world = 0; world < 16; world++) {
      edges.holds("33 .. all worlds with the least level: p is true in world " + world + " alone",
          MIX, Build.sentence(1 << world), Build.sentence(1 << world), "would = true", "pop",
          Build.sentence(ALL ^ 1 << world), "would = false");
      edges.holds("33 .. all worlds with the least level: all of them, q fails in " + world,
          "constant true", Build.sentence(ALL ^ 1 << world), "would = false");
    }
  }

  private static void wouldOfNothing() {
    for (String levels : new String[] {"", Build.LEVELS, MIX}) {
      edges.holds("33 also if p is true in no world: q FALSE", levels,
          "constant false; constant false", "would = true");
      edges.holds("33 also if p is true in no world: q TRUE", levels,
          "constant false; constant true", "would = true");
      edges.holds("33 also if p is true in no world: q an atom", levels, "constant false; atom 2",
          "would = true", "negate", "would = true");
      edges.holds("33 .. p is true in no world: not if it is true in one", levels,
          Build.sentence(0x0800), "constant false", "would = false", "height = 2");
    }
  }

  private static void wouldOfTooFew() {
    String refused = "would = " + Script.STATE;
    edges.holds("33 Throws IllegalStateException if the pile has fewer than two: none, new",
        refused);
    for (int size : new int[] {0, 4, 10}) {
      edges.holds("33 Throws IllegalStateException if the pile has fewer than two: none",
          Build.state(0, size), refused, "height = 0");
      edges.holds("33 Throws IllegalStateException if the pile has fewer than two: one",
          Build.state(1, size), refused, "height = 1", "atom 1", "would", "pop = 1", refused,
          "pop = 0", refused);
    }
    edges.holds("33 Throws IllegalStateException if the pile has fewer than two: one constant",
        "constant true", refused, "negate", refused, "constant false", "would = true");
    edges.holds("33 .. the two sentences on top of the pile: of twelve", Build.LEVELS,
        Build.pile(10), "constant true; constant true", "would = true", "negate",
        "would = false", "height = 12");
  }

  private static void layers() {
    StringBuilder script = new StringBuilder("layers = 1;");
    for (int world = 0; world < 16; world++) {
      script.append(Build.sentence(1 << world)).append("learn 2 0 = ").append(1 << world)
          .append("; layers = ").append(Math.min(16, world + 2)).append("; pop;");
    }
    edges.answers("34 Returns how many different levels there are: 1 to 16", script.toString());
    edges.holds("34 Returns how many different levels there are: 16 with gaps", "atom 0; learn 2 0",
        "atom 1; learn 2 0; atom 2; learn 2 0; atom 3; learn 2 0", "layers = 16", "learn 0 9",
        "layers = 16", "learn 1 0", "layers = 16");
    edges.holds("34 Returns how many different levels there are: two far apart", "atom 0",
        "learn 0 9", "layers = 2", "learn 0 0", "layers = 1");
    edges.holds("34 Returns how many different levels there are: ten", MIX, "layers = 10");
    for (int level = 1; level <= 9; level++) {
      edges.holds("34 Returns how many different levels there are: 0 and " + level,
          Build.believe(3, level), "load", "layers = 2");
    }
    edges.holds("34 Returns how many different levels there are: one", "layers = 1",
        "constant false; add 9; load", "layers = 1");
  }

  private static void share() {
    for (int atom = 0; atom < 4; atom++) {
      String call = "share " + atom + " = ";
      edges.holds("35 .. divided by the number of all that are held possible: all, atom " + atom,
          call + "0.5");
      edges.holds("35 .. in which it is true: in all of them, atom " + atom, "atom " + atom,
          "learn 0 9", call + "1.0");
      edges.holds("35 .. in which it is true: in none of them, atom " + atom, "atom " + atom,
          "negate; learn 0 9", call + "0.0");
      for (int world = 0; world < 16; world++) {
        edges.holds("35 .. divided by the number of all: only world " + world,
            Build.sentence(1 << world), "learn 1 0",
            call + (double) (Build.ATOMS[atom] >> world & 1));
      }
    }
    edges.holds("35 the number of the worlds held possible in which it is true: not of others",
        MIX, "share 0 = 0.5", "share 1 = 0.5", "share 2 = 0.5", "share 3 = 0.0");
  }

  private static void shareOfEachSet() {
    for (int set = 1; set <= ALL; set++) {
      StringBuilder script = new StringBuilder();
      for (int atom = 0; atom < 4; atom++) {
        double some = Integer.bitCount(set & Build.ATOMS[atom]);
        script.append("share ").append(atom).append(" = ")
            .append(some / Integer.bitCount(set)).append(";");
      }
      edges.answers("35 .. divided by the number of all that are held possible: each set",
          Build.sentence(set), "learn 1 0 = " + set, script.toString());
    }
  }

  private static void shareOutside() {
    for (int atom : Far.outside(0, 3)) {
      String refused = "share " + atom + " = " + Script.INDEX;
      edges.holds("35 Throws IndexOutOfBoundsException if atom is not 0 to 3: new", refused);
      edges.holds("35 Throws IndexOutOfBoundsException if atom is not 0 to 3: all full",
          Build.state(12, 10), refused);
      edges.holds("35 Throws IndexOutOfBoundsException if atom is not 0 to 3", RICH, refused,
          "share 0 = 0.5", "share 3 = 0.0");
    }
  }

  /** The checksum, counted without an end and cut to 64 bits at the last. */
  private static long digestOf(List<Integer> numbers) {
    BigInteger d = BigInteger.valueOf(191);
    for (int x : numbers) {
      d = d.multiply(BigInteger.valueOf(31)).add(BigInteger.valueOf(x));
    }
    return d.longValue();
  }

  private static void digestIs(String words, String script, Integer... numbers) {
    edges.holds("36 " + words, script, "digest = " + digestOf(List.of(numbers)));
  }

  private static void digest() {
    digestIs("A number d starts with 191: new", "",
        0, 0, 0, 0, 0, 0, 0, 0, 0, 0, 0, 0, 0, 0, 0, 0, 0, 0, 0);
    digestIs("the number of sentences on the pile, and for each of them: from the bottom",
        "constant true; constant false; atom 0", 3, ALL, 0, 0xAAAA, 0, 0,
        0, 0, 0, 0, 0, 0, 0, 0, 0, 0, 0, 0, 0, 0, 0, 0);
    digestIs("the number of sentences on the pile: what was popped does not count",
        "atom 3; atom 2; pop; pop; atom 1", 1, 0xCCCC, 0, 0,
        0, 0, 0, 0, 0, 0, 0, 0, 0, 0, 0, 0, 0, 0, 0, 0);
    digestIs("the number of sentences of the base, and for each of them this set and its rank",
        Build.believe(1, 9) + Build.believe(2, 1), 0, 2, 0xCCCC, 9, 0xF0F0, 1, 0,
        0, 0, 0, 0, 0, 0, 0, 0, 0, 0, 0, 0, 0, 0, 0, 0);
    digestIs("the conflict: 9", "constant false; add 9; pop", 0, 1, 0, 9, 9,
        0, 0, 0, 0, 0, 0, 0, 0, 0, 0, 0, 0, 0, 0, 0, 0);
    digestIs("the levels of all worlds: from world 0 to world 15", MIX, 0, 0, 0,
        0, 2, 2, 5, 7, 7, 1, 0, 3, 3, 3, 9, 4, 6, 6, 8);
    digestIs("the number of sentences: a full pile and a full base",
        Build.base(10) + Build.pile(12), 12, 0xAAAA, 0xCCCC, 0xF0F0, 0xFF00, 0x5555, 0x3333,
        0x0F0F, 0x00FF, ALL, 0, 0x0F0F, 0x00FF, 10, 0xAAAA, 3, 0x3333, 7, 0xF0F0, 1, 0x00FF, 9,
        0x5555, 5, 0xCCCC, 2, 0xFF00, 8, 0x0F0F, 4, 0xAAAA, 6, 0xCCCC, 9, 8,
        0, 0, 0, 0, 0, 0, 0, 0, 0, 0, 0, 0, 0, 0, 0, 0);
  }

  /** Each further number on the pile wraps the checksum around once more, to either sign. */
  private static void digestWraps() {
    boolean[] signs = new boolean[2];
    for (int height = 0; height <= 12; height++) {
      Integer[] all = new Integer[19 + height];
      Arrays.fill(all, 0);
      all[0] = height;
      for (int k = 0; k < height; k++) {
        all[k + 1] = Build.pileWorlds(k);
      }
      digestIs("which wraps around as a 64-bit integer: " + height, Build.pile(height), all);
      signs[digestOf(List.of(all)) < 0 ? 0 : 1] = true;
    }
    edges.due("digests below 0 and above 0", signs[0] && signs[1], true);
    edges.holds("36 Returns d: it changes nothing", Build.state(5, 5), "digest; digest; height = 5",
        "size = 5", "top = " + Build.pileWorlds(4));
  }
}
