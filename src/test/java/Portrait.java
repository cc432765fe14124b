import java.util.ArrayList;
import java.util.List;

/**
 * What an object answers to some 250 calls, told as "call = answer": first those that change
 * nothing, then those that take the pile and the base apart. Of two objects that have the same
 * portrait none has changed beside the other.
 */
final class Portrait {
  private static final int PILE = 12;
  private static final int BASE = 10;

  private final Object on;
  private final List<String> rows = new ArrayList<>();

  private Portrait(Object on) {
    this.on = on;
  }

  /** Each row is one call. */
  static List<String> of(Object on) {
    Portrait portrait = new Portrait(on);
    portrait.lookAtAll();
    portrait.lookAtTop();
    portrait.takePileApart();
    portrait.takeBaseApart();
    return portrait.rows;
  }

  private String ask(String call) {
    String answer = Script.answer(on, call);
    rows.add(call + " = " + answer);
    return answer;
  }

  private int askNumber(String call, int atMost) {
    String answer = ask(call);
    return Script.isRefusal(answer) ? 0 : Math.min(atMost, Integer.parseInt(answer));
  }

  private void lookAtAll() {
    for (String call : new String[] {"digest", "height", "conflict", "core", "possible", "layers"}) {
      ask(call);
    }
    lookAtLevels();
    for (int atom = 0; atom < 4; atom++) {
      ask("share " + atom);
    }
    int size = lookAtBase();
    for (int k = 0; k < size; k++) {
      ask("worlds " + (1 << k));
    }
    ask("worlds 0");
    ask("worlds " + ((1 << size) - 1));
  }

  private void lookAtLevels() {
    for (int world = 0; world < 16; world++) {
      ask("level " + world);
    }
  }

  private int lookAtBase() {
    int size = askNumber("size", BASE);
    for (int k = 0; k < size; k++) {
      ask("sentence " + k + " true");
      ask("sentence " + k + " false");
    }
    return size;
  }

  private void lookAtTop() {
    for (String call : new String[] {"top", "entails 0", "bestRemainder", "cut", "degree",
        "isBelieved", "firmness", "would"}) {
      ask(call);
    }
    int kernels = askNumber("kernels", 1000);
    ask("kernel 0");
    ask("kernel " + (kernels - 1));
    int remainders = askNumber("remainders", 1000);
    ask("remainder 0");
    ask("remainder " + (remainders - 1));
  }

  /** Fills it first: how many more it holds must be the same, too. */
  private void takePileApart() {
    int height = askNumber("height", PILE);
    for (int k = height; k <= PILE; k++) {
      ask("constant " + (k % 2 == 0));
    }
    for (int k = 0; k <= PILE; k++) {
      ask("top");
      ask("pop");
    }
  }

  private void takeBaseApart() {
    ask("load");
    lookAtLevels();
    ask("atom 1");
    for (int k = askNumber("size", BASE); k <= BASE; k++) {
      ask("add " + (k % 9 + 1));
    }
    lookAtBase();
    ask("worlds 1023");
    ask("load");
    ask("digest");
    for (int k = 0; k <= BASE; k++) {
      ask("drop");
    }
    ask("digest");
  }
}
