/** Promises 18 to 27: what follows from the base. */
public final class InferenceTest {
  private static final Check check = new Check("InferenceTest");

  public static void main(String[] args) {
    kernels();
    remainders();
    ofNoSentences();
    ofTrueAndFalse();
    wrongly();
    manyFound();
    bestRemainder();
    bestOfManySentences();
    cut();
    degree();
    belief();
    beliefAtTheEdges();
    check.end();
  }

  /** 0: a0, 1: a1 IF a0, 2: a1, 3: NOT a0; a1 is on the pile. */
  private static BeliefReviser quarrel() {
    BeliefReviser x = Sample.fresh();
    Sample.believe(x, 0, 3);
    Sample.believeIf(x, 1, 0, 5);
    Sample.believe(x, 1, 2);
    Sample.believe(x, ~0, 5);
    x.atom(1);
    return x;
  }

  private static void kernels() {
    BeliefReviser x = quarrel();
    check.due("18 kernels", x.kernels(), 3);
    check.due("19 kernel(0)", x.kernel(0), 3);
    check.due("19 kernel(1)", x.kernel(1), 4);
    check.due("19 kernel(2)", x.kernel(2), 9);
    check.refuses("19 kernel(3)", x, Sample.INDEX, () -> x.kernel(3));
    x.atom(3);
    check.due("18 kernels of what only follows from a contradiction", x.kernels(), 1);
    check.due("19 the contradiction", x.kernel(0), 9);
    Sample.believe(x, 1, 2);
    x.pop();
    check.due("18 kernels with the same sentence twice", x.kernels(), 4);
    check.due("19 the same sentence", x.kernel(3), 16);
  }

  private static void remainders() {
    BeliefReviser x = quarrel();
    check.due("20 remainders", x.remainders(), 2);
    check.due("21 remainder(0)", x.remainder(0), 1);
    check.due("21 remainder(1)", x.remainder(1), 10);
    check.refuses("21 remainder(2)", x, Sample.INDEX, () -> x.remainder(2));
    x.atom(3);
    check.due("20 remainders of what only follows from a contradiction", x.remainders(), 2);
    check.due("21 without the one", x.remainder(0), 7);
    check.due("21 without the other", x.remainder(1), 14);
    x.drop();
    check.due("20 remainders of what does not follow", x.remainders(), 1);
    check.due("21 all of the base", x.remainder(0), 7);
    Sample.believe(x, 2, 1);
    x.drop();
    check.due("20 remainders as if the dropped one had never been", x.remainders(), 1);
    check.due("21 all of the base without it", x.remainder(0), 7);
    check.due("22 bestRemainder without it", x.bestRemainder(), 7);
  }

  private static void ofNoSentences() {
    BeliefReviser x = Sample.fresh();
    x.atom(0);
    check.due("18 kernels of none", x.kernels(), 0);
    check.refuses("19 kernel of none", x, Sample.INDEX, () -> x.kernel(0));
    check.due("20 remainders of none", x.remainders(), 1);
    check.due("21 remainder of none", x.remainder(0), 0);
    check.due("22 bestRemainder of none", x.bestRemainder(), 0);
    check.due("23 cut of none", x.cut(), 0);
    check.due("24 degree of none", x.degree(), 0);
    check.due("25 isBelieved of none", x.isBelieved(), false);
    check.due("26 conflict of none", x.conflict(), 0);
    check.due("27 core of none", x.core(), Sample.ALL);
  }

  private static void ofTrueAndFalse() {
    BeliefReviser x = quarrel();
    x.constant(true);
    check.due("18 kernels for TRUE", x.kernels(), 1);
    check.due("19 kernel for TRUE", x.kernel(0), 0);
    check.due("20 remainders for TRUE", x.remainders(), 0);
    check.refuses("21 remainder for TRUE", x, Sample.INDEX, () -> x.remainder(0));
    check.due("22 bestRemainder for TRUE", x.bestRemainder(), -1);
    check.due("23 cut for TRUE", x.cut(), 0);
    check.due("24 degree of TRUE", x.degree(), 10);
    check.due("25 isBelieved of TRUE", x.isBelieved(), true);
    x.negate();
    check.due("18 kernels for FALSE", x.kernels(), 1);
    check.due("19 kernel for FALSE", x.kernel(0), 9);
    check.due("20 remainders for FALSE", x.remainders(), 2);
    check.due("22 bestRemainder for FALSE", x.bestRemainder(), 14);
    check.due("23 cut for FALSE", x.cut(), 1);
    check.due("24 degree of FALSE", x.degree(), 3);
    check.due("25 isBelieved of FALSE", x.isBelieved(), false);
  }

  private static void wrongly() {
    BeliefReviser x = quarrel();
    for (int k : Sample.FAR) {
      check.refuses("19 kernel(" + k + ")", x, Sample.INDEX, () -> x.kernel(k));
      check.refuses("21 remainder(" + k + ")", x, Sample.INDEX, () -> x.remainder(k));
    }
    x.pop();
    check.refuses("18 kernels", x, Sample.STATE, x::kernels);
    check.refuses("19 kernel(0) of an empty pile", x, Sample.STATE, () -> x.kernel(0));
    check.refuses("19 kernel(-1) of an empty pile", x, Sample.STATE, () -> x.kernel(-1));
    check.refuses("20 remainders", x, Sample.STATE, x::remainders);
    check.refuses("21 remainder(0) of an empty pile", x, Sample.STATE, () -> x.remainder(0));
    check.refuses("21 remainder(-1) of an empty pile", x, Sample.STATE, () -> x.remainder(-1));
    check.refuses("22 bestRemainder", x, Sample.STATE, x::bestRemainder);
    check.refuses("23 cut", x, Sample.STATE, x::cut);
    check.refuses("24 degree", x, Sample.STATE, x::degree);
    check.refuses("25 isBelieved", x, Sample.STATE, x::isBelieved);
    check.due("26 conflict of an empty pile", x.conflict(), 3);
    check.due("27 core of an empty pile", x.core(), 0x5555);
  }

  /** Five pairs: a0 and NOT a0 five times each have 25 kernels for FALSE. */
  private static void manyFound() {
    BeliefReviser x = Sample.fresh();
    for (int k = 0; k < 10; k++) {
      Sample.believe(x, k % 2 == 0 ? 0 : ~0, 9);
    }
    x.constant(false);
    check.due("18 kernels of ten sentences", x.kernels(), 25);
    check.due("19 the first of them", x.kernel(0), 3);
    check.due("19 the second of them", x.kernel(1), 6);
    check.due("19 the third of them", x.kernel(2), 9);
    check.due("19 the last of them", x.kernel(24), 768);
    check.due("20 remainders of ten sentences", x.remainders(), 2);
    check.due("21 the first of them", x.remainder(0), 341);
    check.due("21 the last of them", x.remainder(1), 682);
    check.due("22 the best of them", x.bestRemainder(), 341);
    check.due("23 cut of ten sentences", x.cut(), 1023);
    check.due("26 conflict of ten sentences", x.conflict(), 9);
  }

  private static void bestRemainder() {
    BeliefReviser x = quarrel();
    check.due("22 the one with the greater ranks", x.bestRemainder(), 10);
    x.setRank(0, 9);
    check.due("22 one of rank 9 before two of 5", x.bestRemainder(), 1);
    x.setRank(0, 5);
    check.due("22 two of rank 5 before one of 5", x.bestRemainder(), 10);
    BeliefReviser y = Sample.fresh();
    Sample.believe(y, 0, 4);
    Sample.believe(y, ~0, 4);
    y.constant(false);
    check.due("22 of equal ones the smaller number", y.bestRemainder(), 1);
    y.setRank(1, 5);
    check.due("22 the greater rank before the smaller number", y.bestRemainder(), 2);
    y.atom(0);
    check.due("22 that of another sentence", y.bestRemainder(), 2);
    y.atom(1);
    check.due("22 if both are needed", y.bestRemainder(), 2);
  }

  private static void bestOfManySentences() {
    BeliefReviser x = Sample.fresh();
    Sample.believe(x, ~0, 9);
    for (int k = 1; k < 10; k++) {
      Sample.believe(x, 0, 8);
    }
    x.constant(false);
    check.due("22 one of rank 9 before nine of 8", x.bestRemainder(), 1);
    x.setRank(0, 8);
    check.due("22 nine of rank 8 before one of 8", x.bestRemainder(), 1022);
    x.setRank(9, 7);
    x.setRank(0, 9);
    x.setRank(1, 9);
    check.due("22 if they are equal in rank 9, rank 8 tells", x.bestRemainder(), 1022);
    for (int k = 0; k < 10; k++) {
      x.setRank(k, k == 0 ? 2 : 1);
    }
    check.due("22 one of rank 2 before nine of 1", x.bestRemainder(), 1);
  }

  private static void cut() {
    BeliefReviser x = quarrel();
    check.due("23 the least of each kernel", x.cut(), 5);
    x.setRank(0, 5);
    check.due("23 several least of a kernel", x.cut(), 15);
    x.setRank(0, 6);
    check.due("23 another least of a kernel, one less than the next", x.cut(), 14);
    x.setRank(0, 9);
    check.due("23 another least of a kernel", x.cut(), 14);
    x.atom(2);
    x.atom(3);
    check.due("23 of a contradiction", x.cut(), 8);
    x.giveUp(8);
    check.due("23 of what does not follow", x.cut(), 0);
  }

  private static void degree() {
    BeliefReviser x = quarrel();
    check.due("24 degree", x.degree(), 3);
    check.due("26 conflict", x.conflict(), 3);
    x.setRank(2, 9);
    check.due("24 degree of one of rank 9", x.degree(), 9);
    x.giveUp(12);
    check.due("24 degree of what two entail", x.degree(), 3);
    x.setRank(0, 1);
    check.due("24 degree of what one of rank 1 is needed for", x.degree(), 1);
    check.due("26 no conflict", x.conflict(), 0);
    check.due("25 isBelieved with degree 1 and no conflict", x.isBelieved(), true);
    x.negate();
    check.due("24 degree of what does not follow", x.degree(), 0);
    check.due("25 isBelieved of what does not follow", x.isBelieved(), false);
    x.constant(true);
    x.add(9);
    check.due("24 degree of TRUE in the base", x.degree(), 10);
  }

  private static void belief() {
    BeliefReviser x = quarrel();
    check.due("25 isBelieved with the degree of the conflict", x.isBelieved(), false);
    check.due("27 core above the conflict", x.core(), 0x5555);
    Sample.lay(x, ~0);
    check.due("24 degree above the conflict", x.degree(), 5);
    check.due("25 isBelieved above the conflict", x.isBelieved(), true);
    x.setRank(2, 4);
    x.pop();
    check.due("25 isBelieved just above the conflict", x.isBelieved(), true);
    check.due("27 core just above the conflict", x.core(), 0x4444);
    BeliefReviser y = Sample.fresh();
    Sample.believe(y, 0, 1);
    Sample.believe(y, 2, 9);
    check.due("27 core without conflict", y.core(), 0xA0A0);
    check.due("26 conflict of those that agree", y.conflict(), 0);
  }

  private static void beliefAtTheEdges() {
    BeliefReviser x = Sample.fresh();
    Sample.believe(x, 0, 9);
    Sample.believe(x, ~0, 9);
    Sample.believe(x, 1, 9);
    check.due("26 conflict of rank 9", x.conflict(), 9);
    check.due("27 core with a conflict of rank 9", x.core(), Sample.ALL);
    x.atom(1);
    check.due("24 degree with a conflict of rank 9", x.degree(), 9);
    check.due("25 isBelieved with a conflict of rank 9", x.isBelieved(), false);
    x.constant(true);
    check.due("25 isBelieved of TRUE with a conflict of rank 9", x.isBelieved(), true);
    BeliefReviser y = Sample.fresh();
    y.constant(false);
    y.add(1);
    check.due("26 conflict of FALSE with rank 1", y.conflict(), 1);
    y.add(8);
    check.due("26 conflict of FALSE with rank 8", y.conflict(), 8);
    check.due("19 FALSE entails FALSE", y.kernel(1), 2);
    check.due("20 remainders without FALSE", y.remainders(), 1);
    check.due("22 bestRemainder without FALSE", y.bestRemainder(), 0);
  }
}
