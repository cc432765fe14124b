/** Promises 28 to 36: the state, and the checksum. */
public final class StateTest {
  private static final Check check = new Check("StateTest");

  public static void main(String[] args) {
    load();
    level();
    possible();
    learnFirmly();
    learnNaturally();
    learnStrictly();
    doubt();
    learnWrongly();
    learnOften();
    firmness();
    would();
    layers();
    eachWorldAlone();
    share();
    digest();
    check.end();
  }

  /** The levels of the worlds 0 to 3 are 5, 3, 5 and 0, and so on with every four. */
  private static BeliefReviser loaded() {
    BeliefReviser x = Sample.fresh();
    Sample.believe(x, 0, 5);
    Sample.believe(x, 1, 3);
    x.load();
    return x;
  }

  private static String everyFour(String levels) {
    return levels + " " + levels + " " + levels + " " + levels;
  }

  private static void load() {
    BeliefReviser x = Sample.fresh();
    check.due("28 load of none", x.load(), Sample.ALL);
    Sample.believe(x, 0, 5);
    Sample.believe(x, 1, 3);
    check.due("28 levels before load", x.possible(), Sample.ALL);
    check.due("28 load", x.load(), 0x8888);
    check.due("28 levels after load", Sample.levels(x), everyFour("5 3 5 0"));
    Sample.believe(x, ~0, 2);
    check.due("28 load of a contradiction", x.load(), 0x8888);
    check.due("28 levels less by the least", Sample.levels(x), everyFour("3 1 3 0"));
    x.setRank(2, 9);
    check.due("28 load of another rank", x.load(), 0x5555);
    check.due("28 levels then", Sample.levels(x), everyFour("0 4 0 4"));
    x.constant(false);
    x.add(9);
    check.due("28 load with FALSE", x.load(), Sample.ALL);
    x.giveUp(15);
    x.learn(3, 0);
    x.atom(2);
    x.learn(0, 7);
    check.due("28 load of none after learning", x.load(), Sample.ALL);
    check.due("28 layers then", x.layers(), 1);
  }

  private static void level() {
    BeliefReviser x = loaded();
    check.due("29 level(0)", x.level(0), 5);
    check.due("29 level(13)", x.level(13), 3);
    check.due("29 level(15)", x.level(15), 0);
    check.refuses("29 level(16)", x, Sample.INDEX, () -> x.level(16));
    for (int k : Sample.FAR) {
      check.refuses("29 level(" + k + ")", x, Sample.INDEX, () -> x.level(k));
    }
  }

  private static void possible() {
    BeliefReviser x = loaded();
    check.due("30 possible", x.possible(), 0x8888);
    x.drop();
    check.due("30 the base does not change the state", x.possible(), 0x8888);
    x.load();
    check.due("30 possible of the new state", x.possible(), 0xAAAA);
  }

  private static void learn(int literal, int way, int firmness, int possible, String levels) {
    BeliefReviser x = loaded();
    Sample.lay(x, literal);
    String call = "31 learn(" + way + ", " + firmness + ") of " + literal;
    check.due(call, x.learn(way, firmness), possible);
    check.due(call + " makes the levels", Sample.levels(x), levels);
    check.due(call + " leaves on the pile", x.height(), 1);
    check.due(call + " leaves in the base", x.size(), 2);
  }

  private static void learnFirmly() {
    learn(~0, 0, 4, 0x5555, everyFour("0 7 0 4"));
    learn(~0, 0, 0, 0xDDDD, everyFour("0 3 0 0"));
    learn(~0, 0, 9, 0x5555, everyFour("0 12 0 9"));
    learn(1, 0, 2, 0x8888, everyFour("4 2 5 0"));
    learn(1, 0, 0, 0xAAAA, everyFour("2 0 5 0"));
    BeliefReviser x = loaded();
    x.constant(true);
    check.due("31 learn(0, 9) of TRUE", x.learn(0, 9), 0x8888);
    check.due("31 levels then", Sample.levels(x), everyFour("5 3 5 0"));
  }

  private static void learnNaturally() {
    learn(~0, 1, 0, 0x5555, everyFour("0 4 0 1"));
    learn(1, 1, 10, 0x8888, everyFour("6 4 6 0"));
    learn(~1, 1, -1, 0x2222, everyFour("6 0 6 1"));
    BeliefReviser x = loaded();
    x.constant(true);
    check.due("31 learn(1, 0) of TRUE", x.learn(1, 0), 0x8888);
    check.due("31 levels then", Sample.levels(x), everyFour("6 4 6 0"));
  }

  private static void learnStrictly() {
    learn(~0, 2, 0, 0x5555, everyFour("0 2 0 1"));
    learn(1, 2, Integer.MAX_VALUE, 0x8888, everyFour("3 2 1 0"));
    learn(2, 2, Integer.MIN_VALUE, 0x8080, "5 4 5 3 2 1 2 0 5 4 5 3 2 1 2 0");
    BeliefReviser x = loaded();
    x.constant(true);
    check.due("31 learn(2, 0) of TRUE", x.learn(2, 0), 0x8888);
    check.due("31 levels then", Sample.levels(x), everyFour("2 1 2 0"));
  }

  private static void doubt() {
    learn(0, 3, 0, 0xDDDD, everyFour("0 3 0 0"));
    learn(~0, 3, 10, 0x8888, everyFour("5 3 5 0"));
    learn(1, 3, -1, 0xAAAA, everyFour("5 0 5 0"));
    BeliefReviser x = loaded();
    x.constant(false);
    check.due("31 learn(3, 0) of FALSE", x.learn(3, 0), 0x8888);
    check.due("31 levels then", Sample.levels(x), everyFour("5 3 5 0"));
  }

  private static void learnWrongly() {
    BeliefReviser x = loaded();
    for (int way = 0; way < 4; way++) {
      int w = way;
      check.refuses("31 learn of nothing", x, Sample.STATE, () -> x.learn(w, 0));
    }
    check.refuses("31 learn(4, 0) of nothing", x, Sample.ARGUMENT, () -> x.learn(4, 0));
    check.refuses("31 learn(0, 10) of nothing", x, Sample.ARGUMENT, () -> x.learn(0, 10));
    x.constant(false);
    for (int way = 0; way < 3; way++) {
      int w = way;
      check.refuses("31 learn(" + w + ", 0) of FALSE", x, Sample.STATE, () -> x.learn(w, 0));
    }
    check.refuses("31 learn(-1, 0) of FALSE", x, Sample.ARGUMENT, () -> x.learn(-1, 0));
    check.refuses("31 learn(0, -1) of FALSE", x, Sample.ARGUMENT, () -> x.learn(0, -1));
    x.constant(true);
    check.refuses("31 learn(3, 0) of TRUE", x, Sample.STATE, () -> x.learn(3, 0));
    x.atom(0);
    check.refuses("31 learn(4, 0)", x, Sample.ARGUMENT, () -> x.learn(4, 0));
    check.refuses("31 learn(0, 10)", x, Sample.ARGUMENT, () -> x.learn(0, 10));
    check.refuses("31 learn(0, -1)", x, Sample.ARGUMENT, () -> x.learn(0, -1));
    for (int far : Sample.FAR) {
      check.refuses("31 learn(" + far + ", 0)", x, Sample.ARGUMENT, () -> x.learn(far, 0));
      check.refuses("31 learn(0, " + far + ")", x, Sample.ARGUMENT, () -> x.learn(0, far));
    }
  }

  /** The levels have no bound but the number of the calls. */
  private static void learnOften() {
    BeliefReviser x = Sample.fresh();
    x.atom(0);
    x.atom(1);
    x.join(0);
    x.atom(0);
    x.negate();
    for (int k = 0; k < 100; k++) {
      x.learn(1, 0);
    }
    check.due("31 learned a hundred times", Sample.levels(x), everyFour("0 100 0 100"));
    x.learn(2, 0);
    check.due("31 then strictly", Sample.levels(x), everyFour("0 1 0 1"));
    x.pop();
    for (int k = 0; k < 50; k++) {
      x.learn(0, 9);
      x.negate();
    }
    check.due("31 then firmly to and fro", Sample.levels(x), everyFour("0 1 0 9"));
  }

  private static void firmness() {
    BeliefReviser x = loaded();
    check.refuses("32 firmness of nothing", x, Sample.STATE, x::firmness);
    int[] literals = {0, 1, ~0, ~1, 2, ~2};
    int[] due = {5, 3, 0, 0, 0, 0};
    for (int k = 0; k < literals.length; k++) {
      Sample.lay(x, literals[k]);
      check.due("32 firmness of " + literals[k], x.firmness(), due[k]);
    }
    x.constant(true);
    check.due("32 firmness of TRUE", x.firmness(), -1);
    x.constant(false);
    check.due("32 firmness of FALSE", x.firmness(), 0);
  }

  private static void would(int p, int q, boolean due) {
    BeliefReviser x = loaded();
    Sample.lay(x, p);
    Sample.lay(x, q);
    long before = x.digest();
    check.due("33 would of " + p + " and " + q, x.would(), due);
    check.due("33 would leaves the object as it was", x.digest(), before);
  }

  private static void would() {
    would(~1, 0, true);
    would(~1, ~0, false);
    would(0, ~1, false);
    would(~0, 1, false);
    would(~0, ~1, false);
    would(~0, ~0, true);
    would(2, 1, true);
    would(1, 2, false);
    BeliefReviser x = loaded();
    check.refuses("33 would of nothing", x, Sample.STATE, x::would);
    x.constant(false);
    check.refuses("33 would of one", x, Sample.STATE, x::would);
    x.constant(false);
    check.due("33 would of FALSE and FALSE", x.would(), true);
    x.constant(true);
    check.due("33 would of FALSE and TRUE", x.would(), true);
    x.constant(false);
    check.due("33 would of TRUE and FALSE", x.would(), false);
    x.constant(true);
    x.atom(1);
    check.due("33 would of TRUE and what is held true", x.would(), true);
  }

  private static void layers() {
    BeliefReviser x = Sample.fresh();
    check.due("34 layers of a new object", x.layers(), 1);
    check.due("34 layers", loaded().layers(), 3);
    for (int k = 0; k < 4; k++) {
      x.atom(k);
      x.learn(2, 0);
      check.due("34 layers of " + (k + 1) + " learned strictly", x.layers(), 2 << k);
    }
    check.due("34 sixteen layers", Sample.levels(x), "15 14 13 12 11 10 9 8 7 6 5 4 3 2 1 0");
    x.learn(0, 9);
    check.due("34 layers with gaps", x.layers(), 16);
    BeliefReviser y = Sample.fresh();
    y.atom(0);
    y.learn(0, 9);
    check.due("34 two layers with a gap", y.layers(), 2);
  }

  /** Each world in turn is the only one that is held possible; atom k has the rank 2 * k + 1. */
  private static void eachWorldAlone() {
    for (int world = 0; world < 16; world++) {
      BeliefReviser x = Sample.fresh();
      for (int k = 0; k < 4; k++) {
        Sample.believe(x, (world >> k & 1) == 1 ? k : ~k, 2 * k + 1);
      }
      check.due("28 load for world " + world, x.load(), 1 << world);
      check.due("30 possible for world " + world, x.possible(), 1 << world);
      check.due("34 layers for world " + world, x.layers(), 5);
      for (int k = 0; k < 4; k++) {
        check.due("29 level beside world " + world, x.level(world ^ 1 << k), 2 * k + 1);
        check.due("35 share for world " + world, x.share(k), (double) (world >> k & 1));
        x.recall(k);
        check.due("32 firmness for world " + world, x.firmness(), 2 * k + 1);
        x.negate();
        check.due("32 firmness of NOT for world " + world, x.firmness(), 0);
        x.recall(k);
        check.due("33 would for world " + world, x.would(), false);
        x.negate();
        check.due("33 would of NOT for world " + world, x.would(), true);
        check.due("31 doubt for world " + world, x.learn(3, 0), 1 << world);
        x.pop();
        x.pop();
      }
      x.recall(0);
      check.due("31 doubt of what is true in world " + world, x.learn(3, 0),
          1 << world | 1 << (world ^ 1));
    }
  }

  private static void share() {
    BeliefReviser x = Sample.fresh();
    for (int k = 0; k < 4; k++) {
      check.due("35 share(" + k + ") of a new object", x.share(k), 0.5);
    }
    x.atom(0);
    x.atom(1);
    x.join(1);
    x.learn(1, 0);
    check.due("35 share(0) of two thirds", x.share(0), 8.0 / 12.0);
    check.due("35 share(1) of two thirds", x.share(1), 8.0 / 12.0);
    check.due("35 share(2) of a half", x.share(2), 0.5);
    x.atom(0);
    x.negate();
    x.learn(0, 1);
    check.due("35 share(0) of none", x.share(0), 0.0);
    check.due("35 share(1) of all", x.share(1), 1.0);
    x.atom(3);
    x.learn(1, 0);
    check.due("35 share(3) of all", x.share(3), 1.0);
    check.refuses("35 share(4)", x, Sample.INDEX, () -> x.share(4));
    for (int k : Sample.FAR) {
      check.refuses("35 share(" + k + ")", x, Sample.INDEX, () -> x.share(k));
    }
  }

  private static long digestOf(long... numbers) {
    long d = 191;
    for (long x : numbers) {
      d = d * 31 + x;
    }
    return d;
  }

  private static void digest() {
    BeliefReviser x = Sample.fresh();
    check.due("36 digest of a new object", x.digest(),
        digestOf(0, 0, 0, 0, 0, 0, 0, 0, 0, 0, 0, 0, 0, 0, 0, 0, 0, 0, 0));
    Sample.believe(x, 0, 5);
    Sample.believe(x, 1, 3);
    x.load();
    Sample.believe(x, ~0, 2);
    x.atom(3);
    x.constant(false);
    x.atom(2);
    check.due("36 digest", x.digest(),
        digestOf(3, Sample.A3, 0, Sample.A2, 3, Sample.A0, 5, Sample.A1, 3, 0x5555, 2, 2,
            5, 3, 5, 0, 5, 3, 5, 0, 5, 3, 5, 0, 5, 3, 5, 0));
    check.due("36 digest again", x.digest(), x.digest());
    x.pop();
    x.pop();
    x.giveUp(5);
    check.due("36 digest after pop and giveUp", x.digest(),
        digestOf(1, Sample.A3, 1, Sample.A1, 3, 0,
            5, 3, 5, 0, 5, 3, 5, 0, 5, 3, 5, 0, 5, 3, 5, 0));
  }
}
