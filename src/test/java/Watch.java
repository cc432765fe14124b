/** Ends a test that does not come to an end: no call may ever fail to end. */
final class Watch {
  private static final long LIMIT_MILLIS = 120_000L;

  private Watch() {
  }

  static void start(String name) {
    Thread watch = new Thread(() -> stopLate(name));
    watch.setDaemon(true);
    watch.start();
  }

  private static void stopLate(String name) {
    try {
      Thread.sleep(LIMIT_MILLIS);
    } catch (InterruptedException e) {
      return;
    }
    System.out.println(name + ": does not come to an end");
    Runtime.getRuntime().halt(1);
  }
}
