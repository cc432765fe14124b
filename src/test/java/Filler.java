import java.util.ArrayList;
import java.util.List;

/** Calls that make an object older and leave it as a new one. */
final class Filler {
  private static final String[] BLOCKS = {
    "atom 0; negate; top; pop",
    "atom 4; join 0; pop; drop; giveUp 1; level 16; share -1; learn 4 0; entails 0; sentence 0 true",
    "constant true; add 9; setRank 0 1; sentence 0 false; worlds 1; entails 1; drop; pop",
    "atom 1; learn 0 9; learn 1 0; learn 2 0; learn 3 0; firmness; pop; load; learn 0 0",
    "atom 2; atom 3; would; join 2; add 5; kernels; kernel 0; remainders; remainder 0; cut; load;"
        + "giveUp 1; load; pop",
    "height; size; conflict; core; possible; layers; digest; level 15; share 3; worlds 0",
    Build.pile(12) + "atom 0; recall 0; add 10;" + Build.times(12, "pop;"),
    Build.base(10) + "recall 9; add 1; degree; isBelieved; bestRemainder; pop; load; giveUp 1023; load",
    "constant false; add 1; add 1; recall 1; join 3; setRank 1 9; load; drop; drop; load; pop",
  };
  private static final String[] SINGLE = {"height", "digest", "conflict", "load", "core", "pop"};

  private Filler() {
  }

  /** Just so many calls; which block comes first is told by the turn. */
  static List<String> calls(int number, int turn) {
    List<String> calls = new ArrayList<>();
    List<String> block = Script.lines(BLOCKS[turn % BLOCKS.length]);
    for (int k = turn + 1; calls.size() + block.size() <= number; k++) {
      calls.addAll(block);
      block = Script.lines(BLOCKS[k % BLOCKS.length]);
    }
    while (calls.size() < number) {
      calls.add(SINGLE[calls.size() % SINGLE.length]);
    }
    return calls;
  }
}
