/** What the tests build objects from. */
final class Sample {
  static final Class<IndexOutOfBoundsException> INDEX = IndexOutOfBoundsException.class;
  static final Class<IllegalArgumentException> ARGUMENT = IllegalArgumentException.class;
  static final Class<IllegalStateException> STATE = IllegalStateException.class;

  static final int ALL = 65535;
  static final int A0 = 0xAAAA;
  static final int A1 = 0xCCCC;
  static final int A2 = 0xF0F0;
  static final int A3 = 0xFF00;

  /** Wrong for everything that is counted from 0. */
  static final int[] FAR = {-1, Integer.MIN_VALUE, Integer.MAX_VALUE, -65536, 1 << 16};

  private Sample() {
  }

  static BeliefReviser fresh() {
    return new BeliefReviser();
  }

  /** Puts atom k on the pile for the literal k, and NOT of it for the literal ~k. */
  static void lay(BeliefReviser x, int literal) {
    x.atom(literal < 0 ? ~literal : literal);
    if (literal < 0) {
      x.negate();
    }
  }

  /** Adds a literal to the base and leaves the pile as it was. */
  static void believe(BeliefReviser x, int literal, int rank) {
    lay(x, literal);
    x.add(rank);
    x.pop();
  }

  /** Adds "p IF q" of two literals to the base and leaves the pile as it was. */
  static void believeIf(BeliefReviser x, int p, int q, int rank) {
    lay(x, p);
    lay(x, q);
    x.join(2);
    x.add(rank);
    x.pop();
  }

  static BeliefReviser withFullPile() {
    BeliefReviser x = fresh();
    for (int k = 0; k < 12; k++) {
      x.constant(k % 2 == 0);
    }
    return x;
  }

  /** Ten sentences: the atoms in turn, with the ranks 1 to 9 and 1. */
  static BeliefReviser withFullBase() {
    BeliefReviser x = fresh();
    for (int k = 0; k < 10; k++) {
      believe(x, k % 4, k % 9 + 1);
    }
    return x;
  }

  static String levels(BeliefReviser x) {
    StringBuilder told = new StringBuilder();
    for (int w = 0; w < 16; w++) {
      told.append(w == 0 ? "" : " ").append(x.level(w));
    }
    return told.toString();
  }
}
