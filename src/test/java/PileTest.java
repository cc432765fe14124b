/** Promises 1 to 9: a new object and the pile. */
public final class PileTest {
  private static final Check check = new Check("PileTest");

  public static void main(String[] args) {
    newObject();
    atom();
    constant();
    recall();
    negate();
    join();
    joinWrongly();
    pop();
    heightAndTop();
    check.end();
  }

  private static void newObject() {
    BeliefReviser x = Sample.fresh();
    check.due("1 height of a new object", x.height(), 0);
    check.due("1 size of a new object", x.size(), 0);
    check.due("1 levels of a new object", Sample.levels(x), "0 0 0 0 0 0 0 0 0 0 0 0 0 0 0 0");
    check.due("1 possible of a new object", x.possible(), Sample.ALL);
    BeliefReviser other = Sample.fresh();
    x.atom(0);
    x.add(5);
    x.learn(0, 5);
    check.due("1 height of another object", other.height(), 0);
    check.due("1 size of another object", other.size(), 0);
    check.due("1 worlds of another object", other.worlds(0), Sample.ALL);
    check.due("1 possible of another object", other.possible(), Sample.ALL);
  }

  private static void atom() {
    BeliefReviser x = Sample.fresh();
    int[] due = {Sample.A0, Sample.A1, Sample.A2, Sample.A3};
    for (int k = 0; k < 4; k++) {
      check.due("2 atom(" + k + ")", x.atom(k), k + 1);
      check.due("2 top after atom(" + k + ")", x.top(), due[k]);
    }
    for (int k : Sample.FAR) {
      check.refuses("2 atom(" + k + ")", x, Sample.INDEX, () -> x.atom(k));
    }
    check.refuses("2 atom(4)", x, Sample.INDEX, () -> x.atom(4));
    for (int k = 5; k <= 12; k++) {
      check.due("2 atom as number " + k, x.atom(0), k);
    }
    check.refuses("2 atom as number 13", x, Sample.STATE, () -> x.atom(0));
    check.refuses("2 atom(4) as number 13", x, Sample.INDEX, () -> x.atom(4));
  }

  private static void constant() {
    BeliefReviser x = Sample.fresh();
    check.due("3 constant(true)", x.constant(true), 1);
    check.due("3 top after constant(true)", x.top(), Sample.ALL);
    check.due("3 constant(false)", x.constant(false), 2);
    check.due("3 top after constant(false)", x.top(), 0);
    BeliefReviser full = Sample.withFullPile();
    check.refuses("3 constant as number 13", full, Sample.STATE, () -> full.constant(true));
  }

  private static void recall() {
    BeliefReviser x = Sample.fresh();
    check.refuses("4 recall(0) from an empty base", x, Sample.INDEX, () -> x.recall(0));
    Sample.believe(x, 1, 3);
    Sample.believe(x, ~2, 4);
    check.due("4 recall(1)", x.recall(1), 1);
    check.due("4 top after recall(1)", x.top(), Sample.ALL & ~Sample.A2);
    check.due("4 recall(0)", x.recall(0), 2);
    check.due("4 top after recall(0)", x.top(), Sample.A1);
    check.due("4 the base stays", x.size(), 2);
    for (int k : Sample.FAR) {
      check.refuses("4 recall(" + k + ")", x, Sample.INDEX, () -> x.recall(k));
    }
    check.refuses("4 recall(2) of two", x, Sample.INDEX, () -> x.recall(2));
    x.drop();
    check.refuses("4 recall(1) after drop", x, Sample.INDEX, () -> x.recall(1));
    for (int k = 3; k <= 12; k++) {
      check.due("4 recall as number " + k, x.recall(0), k);
    }
    check.refuses("4 recall as number 13", x, Sample.STATE, () -> x.recall(0));
    check.refuses("4 recall(1) as number 13", x, Sample.INDEX, () -> x.recall(1));
    BeliefReviser full = Sample.withFullBase();
    full.recall(9);
    check.due("4 top after recall(9)", full.top(), Sample.A1);
    check.refuses("4 recall(10) of ten", full, Sample.INDEX, () -> full.recall(10));
  }

  private static void negate() {
    BeliefReviser x = Sample.fresh();
    check.refuses("5 negate of nothing", x, Sample.STATE, x::negate);
    x.atom(3);
    x.atom(0);
    check.due("5 negate", x.negate(), 0x5555);
    check.due("5 top after negate", x.top(), 0x5555);
    check.due("5 height after negate", x.height(), 2);
    check.due("5 negate twice", x.negate(), Sample.A0);
    x.pop();
    check.due("5 what is below negate", x.top(), Sample.A3);
    x.constant(true);
    check.due("5 negate of TRUE", x.negate(), 0);
    check.due("5 negate of FALSE", x.negate(), Sample.ALL);
    BeliefReviser full = Sample.withFullPile();
    check.due("5 negate on a full pile", full.negate(), Sample.ALL);
    check.due("5 height of a full pile after negate", full.height(), 12);
  }

  private static void join() {
    int[] due = {0x8888, 0xEEEE, 0xBBBB, 0x9999};
    for (int kind = 0; kind < 4; kind++) {
      BeliefReviser x = Sample.fresh();
      x.atom(3);
      x.atom(0);
      x.atom(1);
      check.due("6 join(" + kind + ")", x.join(kind), due[kind]);
      check.due("6 top after join(" + kind + ")", x.top(), due[kind]);
      check.due("6 height after join(" + kind + ")", x.height(), 2);
      x.pop();
      check.due("6 what is below join(" + kind + ")", x.top(), Sample.A3);
    }
    BeliefReviser full = Sample.withFullPile();
    check.due("6 join on a full pile", full.join(1), Sample.ALL);
    check.due("6 height of a full pile after join", full.height(), 11);
  }

  private static void joinWrongly() {
    BeliefReviser x = Sample.fresh();
    check.refuses("6 join of nothing", x, Sample.STATE, () -> x.join(0));
    check.refuses("6 join(4) of nothing", x, Sample.ARGUMENT, () -> x.join(4));
    x.atom(0);
    check.refuses("6 join of one", x, Sample.STATE, () -> x.join(3));
    check.refuses("6 join(-1) of one", x, Sample.ARGUMENT, () -> x.join(-1));
    x.atom(1);
    check.refuses("6 join(4)", x, Sample.ARGUMENT, () -> x.join(4));
    for (int kind : Sample.FAR) {
      check.refuses("6 join(" + kind + ")", x, Sample.ARGUMENT, () -> x.join(kind));
    }
  }

  private static void pop() {
    BeliefReviser x = Sample.fresh();
    check.refuses("7 pop of nothing", x, Sample.STATE, x::pop);
    x.atom(0);
    x.atom(1);
    check.due("7 pop", x.pop(), 1);
    check.due("7 top after pop", x.top(), Sample.A0);
    check.due("7 pop of the last", x.pop(), 0);
    check.refuses("7 pop of nothing more", x, Sample.STATE, x::pop);
    check.due("7 pop of a full pile", Sample.withFullPile().pop(), 11);
  }

  private static void heightAndTop() {
    BeliefReviser x = Sample.fresh();
    check.due("8 height", x.height(), 0);
    check.refuses("9 top of nothing", x, Sample.STATE, x::top);
    x.atom(2);
    check.due("8 height of one", x.height(), 1);
    check.due("9 top", x.top(), Sample.A2);
    check.due("9 top again", x.top(), Sample.A2);
    check.due("8 height after top", x.height(), 1);
    check.due("8 height of a full pile", Sample.withFullPile().height(), 12);
    check.due("9 top of a full pile", Sample.withFullPile().top(), 0);
  }
}
