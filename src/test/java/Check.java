/** Compares answers with those that are due, and counts them. */
final class Check {
  private final String name;
  private int passed = 0;
  private int failed = 0;

  Check(String name) {
    this.name = name;
    Watch.start(name);
  }

  void due(String what, Object got, Object want) {
    if (got.equals(want)) {
      passed++;
    } else {
      failed++;
      System.out.println(name + ": " + what + " answered " + got + ", due is " + want);
    }
  }

  /** The call must throw just this, and must leave the object as it was. */
  void refuses(String what, BeliefReviser x, Class<? extends RuntimeException> want, Runnable call) {
    long before = x.digest();
    due(what, thrownBy(call), want.getSimpleName());
    due(what + " leaves the object as it was", x.digest(), before);
  }

  private static String thrownBy(Runnable call) {
    try {
      call.run();
      return "nothing";
    } catch (RuntimeException e) {
      return e.getClass().getSimpleName();
    }
  }

  void end() {
    System.out.println(name + ": " + passed + " passed, " + failed + " failed");
    if (failed != 0 || passed == 0) {
      System.exit(1);
    }
  }
}
