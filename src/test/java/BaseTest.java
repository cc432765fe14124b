/** Promises 10 to 17: the base. */
public final class BaseTest {
  private static final Check check = new Check("BaseTest");

  public static void main(String[] args) {
    add();
    addWrongly();
    setRank();
    drop();
    giveUp();
    giveUpWrongly();
    giveUpOfMany();
    sizeAndSentence();
    worlds();
    entails();
    check.end();
  }

  private static void add() {
    BeliefReviser x = Sample.fresh();
    x.atom(0);
    check.due("10 add(9)", x.add(9), 0);
    check.due("10 height after add", x.height(), 1);
    check.due("10 top after add", x.top(), Sample.A0);
    check.due("10 add of the same", x.add(1), 1);
    x.atom(1);
    check.due("10 add(5)", x.add(5), 2);
    check.due("10 size after add", x.size(), 3);
    check.due("10 rank of the first", x.sentence(0, true), 9);
    check.due("10 rank of the same", x.sentence(1, true), 1);
    check.due("10 the same", x.sentence(1, false), Sample.A0);
    check.due("10 the third", x.sentence(2, false), Sample.A1);
    x.negate();
    check.due("10 what was added stays as it was", x.sentence(2, false), Sample.A1);
  }

  private static void addWrongly() {
    BeliefReviser x = Sample.fresh();
    check.refuses("10 add of nothing", x, Sample.STATE, () -> x.add(1));
    check.refuses("10 add(0) of nothing", x, Sample.ARGUMENT, () -> x.add(0));
    x.atom(0);
    check.refuses("10 add(0)", x, Sample.ARGUMENT, () -> x.add(0));
    check.refuses("10 add(10)", x, Sample.ARGUMENT, () -> x.add(10));
    for (int rank : Sample.FAR) {
      check.refuses("10 add(" + rank + ")", x, Sample.ARGUMENT, () -> x.add(rank));
    }
    for (int k = 0; k < 10; k++) {
      check.due("10 add as number " + k, x.add(3), k);
    }
    check.refuses("10 add of an eleventh", x, Sample.STATE, () -> x.add(3));
    check.refuses("10 add(10) of an eleventh", x, Sample.ARGUMENT, () -> x.add(10));
    x.drop();
    check.due("10 add after drop", x.add(3), 9);
  }

  private static void setRank() {
    BeliefReviser x = Sample.fresh();
    check.refuses("11 setRank(0, 1) of none", x, Sample.INDEX, () -> x.setRank(0, 1));
    Sample.believe(x, 0, 2);
    Sample.believe(x, 1, 7);
    check.due("11 setRank(1, 9)", x.setRank(1, 9), 7);
    check.due("11 setRank(1, 1)", x.setRank(1, 1), 9);
    check.due("11 the rank then", x.sentence(1, true), 1);
    check.due("11 the other rank", x.sentence(0, true), 2);
    check.due("11 the sentence", x.sentence(1, false), Sample.A1);
    check.refuses("11 setRank(2, 1) of two", x, Sample.INDEX, () -> x.setRank(2, 1));
    check.refuses("11 setRank(2, 0) of two", x, Sample.INDEX, () -> x.setRank(2, 0));
    check.refuses("11 setRank(0, 0)", x, Sample.ARGUMENT, () -> x.setRank(0, 0));
    check.refuses("11 setRank(0, 10)", x, Sample.ARGUMENT, () -> x.setRank(0, 10));
    for (int far : Sample.FAR) {
      check.refuses("11 setRank(" + far + ", 1)", x, Sample.INDEX, () -> x.setRank(far, 1));
      check.refuses("11 setRank(0, " + far + ")", x, Sample.ARGUMENT, () -> x.setRank(0, far));
    }
  }

  private static void drop() {
    BeliefReviser x = Sample.fresh();
    check.refuses("12 drop of none", x, Sample.STATE, x::drop);
    Sample.believe(x, 0, 2);
    Sample.believe(x, 1, 3);
    check.due("12 drop", x.drop(), 1);
    check.due("12 what stays", x.sentence(0, false), Sample.A0);
    check.due("12 its rank", x.sentence(0, true), 2);
    check.refuses("12 what is gone", x, Sample.INDEX, () -> x.sentence(1, false));
    check.due("12 drop of the last", x.drop(), 0);
    check.refuses("12 drop of none more", x, Sample.STATE, x::drop);
    check.due("12 drop of ten", Sample.withFullBase().drop(), 9);
  }

  private static void giveUp() {
    BeliefReviser x = Sample.fresh();
    check.due("13 giveUp(0) of none", x.giveUp(0), 0);
    for (int k = 0; k < 4; k++) {
      Sample.believe(x, k, k + 1);
    }
    check.due("13 giveUp(0)", x.giveUp(0), 4);
    check.due("13 worlds after giveUp(0)", x.worlds(9), Sample.A0 & Sample.A3);
    check.due("13 giveUp(5)", x.giveUp(5), 2);
    check.due("13 size after it", x.size(), 2);
    check.due("13 the first then", x.sentence(0, false), Sample.A1);
    check.due("13 its rank", x.sentence(0, true), 2);
    check.due("13 the second then", x.sentence(1, false), Sample.A3);
    check.due("13 its rank", x.sentence(1, true), 4);
    check.due("13 worlds of the first then", x.worlds(1), Sample.A1);
    check.due("13 worlds of both then", x.worlds(3), Sample.A1 & Sample.A3);
    check.due("13 giveUp of the last", x.giveUp(2), 1);
    check.due("13 giveUp of all", x.giveUp(1), 0);
    check.due("13 worlds of none then", x.worlds(0), Sample.ALL);
  }

  private static void giveUpWrongly() {
    BeliefReviser x = Sample.fresh();
    check.refuses("13 giveUp(1) of none", x, Sample.ARGUMENT, () -> x.giveUp(1));
    Sample.believe(x, 0, 2);
    Sample.believe(x, 1, 3);
    for (int set : new int[] {4, 5, 7, -1, -4, 1024, Integer.MIN_VALUE, Integer.MAX_VALUE}) {
      check.refuses("13 giveUp(" + set + ") of two", x, Sample.ARGUMENT, () -> x.giveUp(set));
    }
  }

  private static void giveUpOfMany() {
    BeliefReviser x = Sample.withFullBase();
    check.refuses("13 giveUp(1024) of ten", x, Sample.ARGUMENT, () -> x.giveUp(1024));
    check.due("13 giveUp(682) of ten", x.giveUp(682), 5);
    int[] ranks = {1, 3, 5, 7, 9};
    int[] sentences = {Sample.A0, Sample.A2, Sample.A0, Sample.A2, Sample.A0};
    for (int k = 0; k < 5; k++) {
      check.due("13 rank " + k + " of those left", x.sentence(k, true), ranks[k]);
      check.due("13 sentence " + k + " of those left", x.sentence(k, false), sentences[k]);
    }
    check.due("13 giveUp(1023) of ten", Sample.withFullBase().giveUp(1023), 0);
  }

  private static void sizeAndSentence() {
    BeliefReviser x = Sample.fresh();
    check.due("14 size of none", x.size(), 0);
    check.refuses("15 sentence of none", x, Sample.INDEX, () -> x.sentence(0, true));
    Sample.believe(x, ~1, 6);
    check.due("14 size of one", x.size(), 1);
    check.due("15 its worlds", x.sentence(0, false), 0x3333);
    check.due("15 its rank", x.sentence(0, true), 6);
    check.refuses("15 sentence(1) of one", x, Sample.INDEX, () -> x.sentence(1, false));
    for (int k : Sample.FAR) {
      check.refuses("15 rank of " + k, x, Sample.INDEX, () -> x.sentence(k, true));
      check.refuses("15 worlds of " + k, x, Sample.INDEX, () -> x.sentence(k, false));
    }
    BeliefReviser full = Sample.withFullBase();
    check.due("14 size of ten", full.size(), 10);
    check.due("15 rank of the tenth", full.sentence(9, true), 1);
    check.refuses("15 sentence(10) of ten", full, Sample.INDEX, () -> full.sentence(10, true));
  }

  private static void worlds() {
    BeliefReviser x = Sample.fresh();
    check.due("16 worlds of none", x.worlds(0), Sample.ALL);
    check.refuses("16 worlds(1) of none", x, Sample.ARGUMENT, () -> x.worlds(1));
    Sample.believe(x, 0, 1);
    Sample.believe(x, ~3, 1);
    Sample.believe(x, ~0, 1);
    int[] due = {Sample.ALL, 0xAAAA, 0x00FF, 0x00AA, 0x5555, 0, 0x0055, 0};
    for (int set = 0; set < 8; set++) {
      check.due("16 worlds(" + set + ")", x.worlds(set), due[set]);
    }
    for (int set : new int[] {8, 9, -1, -8, 1024, Integer.MIN_VALUE, Integer.MAX_VALUE}) {
      check.refuses("16 worlds(" + set + ") of three", x, Sample.ARGUMENT, () -> x.worlds(set));
    }
    x.drop();
    check.refuses("16 worlds(4) after drop", x, Sample.ARGUMENT, () -> x.worlds(4));
    Sample.believe(x, 2, 1);
    check.due("16 worlds(7) after another add", x.worlds(7), 0x00A0);
    BeliefReviser full = Sample.withFullBase();
    check.due("16 worlds(1023) of ten", full.worlds(1023), 0x8000);
    check.due("16 worlds(512) of ten", full.worlds(512), Sample.A1);
    check.refuses("16 worlds(1024) of ten", full, Sample.ARGUMENT, () -> full.worlds(1024));
  }

  private static void entails() {
    BeliefReviser x = Sample.fresh();
    check.refuses("17 entails of an empty pile", x, Sample.STATE, () -> x.entails(0));
    check.refuses("17 entails(1) of an empty pile", x, Sample.STATE, () -> x.entails(1));
    Sample.believe(x, 0, 1);
    Sample.believeIf(x, 1, 0, 1);
    Sample.believe(x, ~0, 1);
    x.atom(1);
    boolean[] due = {false, false, false, true, false, true, false, true};
    for (int set = 0; set < 8; set++) {
      check.due("17 entails(" + set + ")", x.entails(set), due[set]);
    }
    for (int set : new int[] {8, -1, 1024, Integer.MIN_VALUE, Integer.MAX_VALUE}) {
      check.refuses("17 entails(" + set + ") of three", x, Sample.ARGUMENT, () -> x.entails(set));
    }
    x.constant(true);
    check.due("17 none entail TRUE", x.entails(0), true);
    x.constant(false);
    check.due("17 none entail FALSE", x.entails(0), false);
    check.due("17 those that contradict entail FALSE", x.entails(5), true);
  }
}
