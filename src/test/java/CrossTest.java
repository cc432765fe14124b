import java.util.ArrayList;
import java.util.List;

/**
 * Each call, with numbers inside and outside its limits, in states at the limits of the pile and
 * of the base: whatever it answers, and whether it is refused, is as in the model.
 */
public final class CrossTest {
  private static final Edges edges = new Edges("CrossTest");
  private static final int MIN = Integer.MIN_VALUE;
  private static final int MAX = Integer.MAX_VALUE;

  public static void main(String[] args) {
    int[][] states = {{0, 0}, {1, 0}, {2, 0}, {12, 0}, {0, 1}, {1, 1}, {2, 1}, {5, 5}, {11, 9},
        {0, 10}, {1, 10}, {2, 10}, {12, 9}, {11, 10}, {12, 10}};
    for (int[] state : states) {
      each("a pile of " + state[0], Build.state(state[0], state[1]), state[1]);
    }
    for (int size : new int[] {0, 4, 10}) {
      each("TRUE on top", Build.state(2, size) + "constant true", size);
      each("FALSE on top", Build.state(2, size) + "constant false", size);
      each("FALSE and TRUE", Build.base(size) + "load; constant false; constant true", size);
      each("TRUE and FALSE", Build.base(size) + "load; constant true; constant false", size);
      each("an empty pile and loaded", Build.base(size) + "load", size);
    }
    each("new", "", 0);
    edges.end();
  }

  private static void each(String words, String given, int size) {
    for (String call : calls(size)) {
      String after = Edges.asModel(given, call, "digest");
      List<String> lines = Script.lines(after);
      edges.holds(words + ", a base of " + size + ": " + call, given,
          lines.get(lines.size() - 2));
    }
  }

  private static List<String> calls(int size) {
    List<String> calls = new ArrayList<>(List.of("constant true", "constant false", "negate", "pop",
        "height", "top", "drop", "size", "kernels", "remainders", "bestRemainder", "cut", "degree",
        "isBelieved", "conflict", "core", "load", "possible", "firmness", "would", "layers",
        "digest"));
    with(calls, "atom", "", -1, 0, 1, 2, 3, 4, MIN, MAX);
    with(calls, "share", "", -1, 0, 1, 2, 3, 4, MIN, MAX);
    with(calls, "join", "", -1, 0, 1, 2, 3, 4, MIN, MAX);
    with(calls, "add", "", -1, 0, 1, 5, 9, 10, MIN, MAX);
    with(calls, "level", "", -1, 0, 8, 15, 16, MIN, MAX);
    with(calls, "kernel", "", -1, 0, 1, 2, 10, MIN, MAX);
    with(calls, "remainder", "", -1, 0, 1, 2, 10, MIN, MAX);
    with(calls, "recall", "", numbers(size));
    with(calls, "sentence", " true", numbers(size));
    with(calls, "sentence", " false", numbers(size));
    with(calls, "giveUp", "", sets(size));
    with(calls, "worlds", "", sets(size));
    with(calls, "entails", "", sets(size));
    for (int rank : new int[] {-1, 0, 1, 9, 10, MIN, MAX}) {
      with(calls, "setRank", " " + rank, numbers(size));
    }
    for (int firmness : new int[] {-1, 0, 5, 9, 10, MIN, MAX}) {
      with(calls, "learn", " " + firmness, -1, 0, 1, 2, 3, 4, MIN, MAX);
    }
    return calls;
  }

  private static int[] numbers(int size) {
    return new int[] {-1, 0, size - 1, size, 10, MIN, MAX};
  }

  private static int[] sets(int size) {
    int all = (1 << size) - 1;
    return new int[] {0, 1, all >> 1, all, all + 1, all * 2 + 1, 1023, 1024, -1, ~all, MIN, MAX};
  }

  private static void with(List<String> calls, String method, String second, int... numbers) {
    for (int number : numbers) {
      String call = method + " " + number + second;
      if (!calls.contains(call)) {
        calls.add(call);
      }
    }
  }
}
