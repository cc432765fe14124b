import java.util.ArrayList;
import java.util.Arrays;
import java.util.List;
import java.util.TreeSet;

/**
 * The document once more, in the words of its description and without any short cut: what
 * OracleTest compares the program with. The methods bear the names of the document's face.
 */
public final class Model {
  private static final int ALL = 65535;

  private final List<Integer> pile = new ArrayList<>();
  private final List<Integer> base = new ArrayList<>();
  private final List<Integer> ranks = new ArrayList<>();
  private int[] levels = new int[16];

  private static boolean in(int set, int member) {
    return (set & (1 << member)) != 0;
  }

  private static void need(boolean holds, RuntimeException otherwise) {
    if (!holds) {
      throw otherwise;
    }
  }

  private int need(int height) {
    need(pile.size() >= height, new IllegalStateException());
    return height == 0 ? 0 : pile.get(pile.size() - height);
  }

  private void needSentence(int sentence) {
    need(sentence >= 0 && sentence < base.size(), new IndexOutOfBoundsException());
  }

  private void needSet(int set) {
    for (int k = base.size(); k < 32; k++) {
      if (in(set, k)) {
        throw new IllegalArgumentException();
      }
    }
  }

  private int lay(int sentence) {
    need(pile.size() < 12, new IllegalStateException());
    pile.add(sentence);
    return pile.size();
  }

  private int unlay() {
    return pile.remove(pile.size() - 1);
  }

  public int atom(int atom) {
    need(atom >= 0 && atom <= 3, new IndexOutOfBoundsException());
    int set = 0;
    for (int w = 0; w < 16; w++) {
      set += in(w, atom) ? 1 << w : 0;
    }
    return lay(set);
  }

  public int constant(boolean isTrue) {
    return lay(isTrue ? ALL : 0);
  }

  public int recall(int sentence) {
    needSentence(sentence);
    return lay(base.get(sentence));
  }

  public int negate() {
    need(1);
    pile.add(ALL - unlay());
    return top();
  }

  public int join(int kind) {
    need(kind >= 0 && kind <= 3, new IllegalArgumentException());
    need(2);
    int q = unlay();
    int p = unlay();
    int made = 0;
    for (int w = 0; w < 16; w++) {
      boolean[] joined = {in(p, w) && in(q, w), in(p, w) || in(q, w), !(in(q, w) && !in(p, w)),
          in(p, w) == in(q, w)};
      made += joined[kind] ? 1 << w : 0;
    }
    pile.add(made);
    return made;
  }

  public int pop() {
    need(1);
    unlay();
    return pile.size();
  }

  public int height() {
    return pile.size();
  }

  public int top() {
    return need(1);
  }

  public int add(int rank) {
    need(rank >= 1 && rank <= 9, new IllegalArgumentException());
    int added = need(1);
    need(base.size() < 10, new IllegalStateException());
    base.add(added);
    ranks.add(rank);
    return base.size() - 1;
  }

  public int setRank(int sentence, int rank) {
    needSentence(sentence);
    need(rank >= 1 && rank <= 9, new IllegalArgumentException());
    return ranks.set(sentence, rank);
  }

  public int drop() {
    need(base.size() > 0, new IllegalStateException());
    return giveUp(1 << (base.size() - 1));
  }

  public int giveUp(int set) {
    needSet(set);
    for (int k = base.size() - 1; k >= 0; k--) {
      if (in(set, k)) {
        base.remove(k);
        ranks.remove(k);
      }
    }
    return base.size();
  }

  public int size() {
    return base.size();
  }

  public int sentence(int sentence, boolean isRank) {
    needSentence(sentence);
    return isRank ? ranks.get(sentence) : base.get(sentence);
  }

  public int worlds(int set) {
    needSet(set);
    int all = ALL;
    for (int k = 0; k < base.size(); k++) {
      all &= in(set, k) ? base.get(k) : ALL;
    }
    return all;
  }

  private boolean entail(int set, int p) {
    int all = worlds(set);
    for (int w = 0; w < 16; w++) {
      if (in(all, w) && !in(p, w)) {
        return false;
      }
    }
    return true;
  }

  public boolean entails(int set) {
    int p = need(1);
    needSet(set);
    return entail(set, p);
  }

  /** For each set of the base whether it entails the sentence on top of the pile. */
  private boolean[] entailing() {
    int p = need(1);
    boolean[] entail = new boolean[1 << base.size()];
    for (int set = 0; set < entail.length; set++) {
      entail[set] = entail(set, p);
    }
    return entail;
  }

  private List<Integer> allKernels() {
    boolean[] entail = entailing();
    List<Integer> found = new ArrayList<>();
    for (int set = 0; set < entail.length; set++) {
      boolean fits = entail[set];
      for (int part = set; fits && part > 0;) {
        part = (part - 1) & set;
        fits = !entail[part];
      }
      if (fits) {
        found.add(set);
      }
    }
    return found;
  }

  private List<Integer> allRemainders() {
    boolean[] entail = entailing();
    List<Integer> found = new ArrayList<>();
    for (int set = 0; set < entail.length; set++) {
      boolean fits = !entail[set];
      for (int whole = set; fits && whole < entail.length - 1;) {
        whole = (whole + 1) | set;
        fits = entail[whole];
      }
      if (fits) {
        found.add(set);
      }
    }
    return found;
  }

  private static int numbered(List<Integer> found, int index) {
    need(index >= 0 && index < found.size(), new IndexOutOfBoundsException());
    return found.get(index);
  }

  public int kernels() {
    return allKernels().size();
  }

  public int kernel(int index) {
    return numbered(allKernels(), index);
  }

  public int remainders() {
    return allRemainders().size();
  }

  public int remainder(int index) {
    return numbered(allRemainders(), index);
  }

  private int countOf(int set, int rank) {
    int count = 0;
    for (int k = 0; k < base.size(); k++) {
      count += in(set, k) && ranks.get(k) == rank ? 1 : 0;
    }
    return count;
  }

  public int bestRemainder() {
    List<Integer> left = allRemainders();
    for (int rank = 9; rank >= 1; rank--) {
      int most = 0;
      for (int set : left) {
        most = Math.max(most, countOf(set, rank));
      }
      List<Integer> kept = new ArrayList<>();
      for (int set : left) {
        if (countOf(set, rank) == most) {
          kept.add(set);
        }
      }
      left = kept;
    }
    return left.isEmpty() ? -1 : left.get(0);
  }

  public int cut() {
    int members = 0;
    for (int kernel : allKernels()) {
      int rank = 1;
      while (rank < 9 && countOf(kernel, rank) == 0) {
        rank++;
      }
      for (int k = 0; k < base.size(); k++) {
        members |= in(kernel, k) && ranks.get(k) == rank ? 1 << k : 0;
      }
    }
    return members;
  }

  private int degreeOf(int p) {
    int degree = p == ALL ? 10 : 0;
    for (int r = 1; r <= 9; r++) {
      int set = 0;
      for (int k = 0; k < base.size(); k++) {
        set += ranks.get(k) >= r ? 1 << k : 0;
      }
      degree = entail(set, p) ? Math.max(degree, r) : degree;
    }
    return degree;
  }

  public int degree() {
    return degreeOf(need(1));
  }

  public boolean isBelieved() {
    return degree() > conflict();
  }

  public int conflict() {
    return degreeOf(0);
  }

  /** A world is lost just if a sentence that is true in all other worlds is believed. */
  public int core() {
    int all = 0;
    for (int w = 0; w < 16; w++) {
      all += degreeOf(ALL - (1 << w)) > conflict() ? 0 : 1 << w;
    }
    return all;
  }

  /** The core without any short cut: each of the 65536 sentences is asked for. */
  int wholeCore() {
    int conflict = conflict();
    int all = ALL;
    for (int p = 0; p <= ALL; p++) {
      all &= degreeOf(p) > conflict ? p : ALL;
    }
    return all;
  }

  public int load() {
    for (int w = 0; w < 16; w++) {
      levels[w] = 0;
      for (int k = 0; k < base.size(); k++) {
        levels[w] = in(base.get(k), w) ? levels[w] : Math.max(levels[w], ranks.get(k));
      }
    }
    int least = Arrays.stream(levels).min().getAsInt();
    for (int w = 0; w < 16; w++) {
      levels[w] -= least;
    }
    return possible();
  }

  public int level(int world) {
    need(world >= 0 && world <= 15, new IndexOutOfBoundsException());
    return levels[world];
  }

  public int possible() {
    int set = 0;
    for (int w = 0; w < 16; w++) {
      set += levels[w] == 0 ? 1 << w : 0;
    }
    return set;
  }

  private int least(int worlds) {
    int least = Integer.MAX_VALUE;
    for (int w = 0; w < 16; w++) {
      least = in(worlds, w) ? Math.min(least, levels[w]) : least;
    }
    return least;
  }

  public int learn(int way, int firmness) {
    need(way >= 0 && way <= 3, new IllegalArgumentException());
    need(way != 0 || firmness >= 0 && firmness <= 9, new IllegalArgumentException());
    int p = need(1);
    need(way == 3 || p != 0, new IllegalStateException());
    need(way != 3 || p != ALL, new IllegalStateException());
    int m = least(p);
    int n = least(ALL - p);
    int[] then = new int[16];
    for (int w = 0; w < 16; w++) {
      int now = levels[w];
      switch (way) {
        case 0 -> then[w] = in(p, w) ? now - m : now - n + firmness;
        case 1 -> then[w] = in(p, w) && now == m ? 0 : now + 1;
        case 2 -> then[w] = placeOf(w, p);
        default -> then[w] = !in(p, w) && now == n ? 0 : now;
      }
    }
    levels = then;
    return possible();
  }

  /** How many kinds of worlds come ahead of a world when p is learned strictly. */
  private int placeOf(int world, int p) {
    TreeSet<Long> ahead = new TreeSet<>();
    for (int v = 0; v < 16; v++) {
      boolean isAhead = in(p, v) == in(p, world) ? levels[v] < levels[world] : in(p, v);
      if (isAhead) {
        ahead.add(2L * levels[v] + (in(p, v) ? 1 : 0));
      }
    }
    return ahead.size();
  }

  public int firmness() {
    int p = need(1);
    return p == ALL ? -1 : least(ALL - p);
  }

  public boolean would() {
    int p = need(2);
    int q = need(1);
    for (int w = 0; w < 16; w++) {
      if (in(p, w) && levels[w] == least(p) && !in(q, w)) {
        return false;
      }
    }
    return true;
  }

  public int layers() {
    return (int) Arrays.stream(levels).distinct().count();
  }

  public double share(int atom) {
    need(atom >= 0 && atom <= 3, new IndexOutOfBoundsException());
    double all = 0;
    double some = 0;
    for (int w = 0; w < 16; w++) {
      if (levels[w] == 0) {
        all++;
        some += in(w, atom) ? 1 : 0;
      }
    }
    return some / all;
  }

  public long digest() {
    List<Integer> numbers = new ArrayList<>();
    numbers.add(pile.size());
    numbers.addAll(pile);
    numbers.add(base.size());
    for (int k = 0; k < base.size(); k++) {
      numbers.add(base.get(k));
      numbers.add(ranks.get(k));
    }
    numbers.add(conflict());
    Arrays.stream(levels).forEach(numbers::add);
    long d = 191;
    for (int x : numbers) {
      d = d * 31 + x;
    }
    return d;
  }
}
