import java.util.Set;
import java.util.TreeSet;

/** Numbers outside a limit: the next ones, the smallest and the greatest int, and others. */
final class Far {
  private static final int SETS_END = 32;

  private Far() {
  }

  /**
   * Ints that are not from least to greatest. Beside the next ones and the ends these are such as
   * differ from one inside by a single bit or by a sign: a test of some bits alone takes them in.
   */
  static Set<Integer> outside(int least, int greatest) {
    Set<Integer> far = new TreeSet<>();
    for (int inside : new int[] {least, least + 1, greatest}) {
      far.add(-inside);
      far.add(~inside);
      for (int bit = 0; bit < Integer.SIZE; bit++) {
        far.add(inside ^ 1 << bit);
      }
    }
    far.add(least - 1);
    far.add(greatest + 1);
    far.add(Integer.MIN_VALUE);
    far.add(Integer.MAX_VALUE);
    far.removeIf(number -> number >= least && number <= greatest);
    return far;
  }

  /** Ints that tell a set with a member that is not less than the size. */
  static Set<Integer> sets(int size) {
    int all = (1 << size) - 1;
    Set<Integer> far = new TreeSet<>();
    for (int k = size; k < SETS_END; k++) {
      far.add(1 << k);
      far.add(1 << k | all);
    }
    far.add(-1);
    far.add(~all);
    far.add(Integer.MIN_VALUE);
    far.add(Integer.MAX_VALUE);
    return far;
  }
}
