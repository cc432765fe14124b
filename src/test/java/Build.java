/** Scripts that bring objects into states. */
final class Build {
  static final int ALL = 65535;
  static final int[] ATOMS = {0xAAAA, 0xCCCC, 0xF0F0, 0xFF00};

  /** Levels with gaps and with several worlds on some; the pile and the base stay empty. */
  static final String LEVELS = "atom 1; learn 0 4; atom 0; join 3; learn 1 0; atom 2; negate;"
      + "learn 0 7; join 1; learn 1 0; pop;";

  private static final int[] BASE_LITERALS = {0, ~1, 2, ~3, ~0, 1, 3, ~2, 0, 1};
  private static final int[] BASE_RANKS = {3, 7, 1, 9, 5, 2, 8, 4, 6, 9};

  private Build() {
  }

  /** Puts atom k on the pile for the literal k, and NOT of it for the literal ~k. */
  static String literal(int literal) {
    return literal < 0 ? "atom " + ~literal + "; negate;" : "atom " + literal + ";";
  }

  /** The worlds in which a literal is true. */
  static int worldsOf(int literal) {
    return literal < 0 ? ALL & ~ATOMS[~literal] : ATOMS[literal];
  }

  /** Adds a literal to the base and leaves the pile as it was. */
  static String believe(int literal, int rank) {
    return literal(literal) + "add " + rank + "; pop;";
  }

  /** Adds "p IF q" of two literals to the base and leaves the pile as it was. */
  static String believeIf(int p, int q, int rank) {
    return literal(p) + literal(q) + "join 2; add " + rank + "; pop;";
  }

  /** Adds the sentence that is true in just these worlds, and leaves the pile as it was. */
  static String believeIn(int worlds, int rank) {
    return sentence(worlds) + "add " + rank + "; pop;";
  }

  /** Puts the sentence that is true in just these worlds on a pile that has room for six. */
  static String sentence(int worlds) {
    return sentence(worlds, 3);
  }

  /** Tells the sentence apart by its greatest atom, as it is with and without this one. */
  private static String sentence(int worlds, int atom) {
    if (worlds == 0 || worlds == ALL) {
      return "constant " + (worlds == ALL) + ";";
    }
    int step = 1 << atom;
    int with = worlds & ATOMS[atom];
    with |= with >> step;
    int without = worlds & ~ATOMS[atom];
    without |= without << step;
    return with == without ? sentence(with, atom - 1) : apart(with, without, atom);
  }

  private static String apart(int with, int without, int atom) {
    String yes = "atom " + atom + ";";
    String no = "atom " + atom + "; negate;";
    if (with == (ALL & ~without)) {
      return with == ALL ? yes : with == 0 ? no : sentence(with, atom - 1) + yes + "join 3;";
    }
    if (without == 0 || without == ALL) {
      return sentence(with, atom - 1) + yes + (without == 0 ? "join 0;" : "join 2;");
    }
    if (with == 0 || with == ALL) {
      return sentence(without, atom - 1) + no + (with == 0 ? "join 0;" : "join 2;");
    }
    return sentence(with, atom - 1) + yes + "join 2;"
        + sentence(without, atom - 1) + no + "join 2; join 0;";
  }

  /** So many sentences in the base, with all the ranks if they are ten; the pile stays empty. */
  static String base(int size) {
    StringBuilder script = new StringBuilder();
    for (int k = 0; k < size; k++) {
      script.append(believe(BASE_LITERALS[k], BASE_RANKS[k]));
    }
    return script.toString();
  }

  static int baseWorlds(int number) {
    return worldsOf(BASE_LITERALS[number]);
  }

  static int baseRank(int number) {
    return BASE_RANKS[number];
  }

  /** So many sentences on an empty pile, no two neighbours alike. */
  static String pile(int height) {
    StringBuilder script = new StringBuilder();
    for (int k = 0; k < height; k++) {
      if (k == 8 || k == 9) {
        script.append("constant ").append(k == 8).append(";");
      } else {
        script.append("atom ").append(k % 4).append(";").append(k < 4 ? "" : "negate;");
      }
    }
    return script.toString();
  }

  static int pileWorlds(int place) {
    return place == 8 ? ALL : place == 9 ? 0 : worldsOf(place < 4 ? place : ~(place % 4));
  }

  /** A state in which a change of whatever kind can be seen. */
  static String state(int height, int size) {
    return LEVELS + base(size) + pile(height);
  }

  /** The levels 0 to 9, made by load; the pile and the base are empty then. */
  static String load(int... levels) {
    StringBuilder script = new StringBuilder();
    int added = 0;
    for (int level = 1; level <= 9; level++) {
      int elsewhere = ALL;
      for (int w = 0; w < 16; w++) {
        elsewhere -= levels[w] == level ? 1 << w : 0;
      }
      if (elsewhere != ALL) {
        script.append(believeIn(elsewhere, level));
        added++;
      }
    }
    return script + "load; giveUp " + ((1 << added) - 1) + ";";
  }

  /** Asks for the levels of all worlds. */
  static String levels(int... due) {
    StringBuilder script = new StringBuilder();
    for (int w = 0; w < 16; w++) {
      script.append("level ").append(w).append(" = ").append(due[w]).append(";");
    }
    return script.toString();
  }

  static String times(int times, String script) {
    return script.repeat(times);
  }
}
