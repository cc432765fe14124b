/**
 * A reviser of beliefs: a pile on which sentences are built, a base of sentences with ranks, and a
 * state of mind that says how implausible each world is. A sentence is the set of the worlds in
 * which it is true; sets of worlds, and sets of sentences of the base, are the bits of an int.
 */
public final class BeliefReviser {
  private static final int PILE_LIMIT = 12;
  private static final int BASE_LIMIT = 10;
  private static final int BASE_SETS = 1 << BASE_LIMIT;
  private static final int TOP_RANK = 9;
  private static final int ALWAYS_DEGREE = 10;
  private static final int WORLDS = 16;
  private static final int NOWHERE = 0;
  private static final int EVERYWHERE = 65535;
  private static final int[] ATOM_WORLDS = {0xAAAA, 0xCCCC, 0xF0F0, 0xFF00};

  private static final int AND = 0;
  private static final int OR = 1;
  private static final int IF = 2;
  private static final int SAME = 3;

  private static final int FIRM = 0;
  private static final int NATURAL = 1;
  private static final int STRICT = 2;
  private static final int DOUBT = 3;
  private static final int TOP_FIRMNESS = 9;

  private static final long DIGEST_START = 191L;

  private final Pile pile = new Pile();
  private final Base base = new Base();
  private final Mind mind = new Mind();

  public BeliefReviser() {
  }

  // ---- the pile

  public int atom(int atom) throws IndexOutOfBoundsException, IllegalStateException {
    requireAtom(atom);
    requirePileRoom();
    pile.lay(at(ATOM_WORLDS, atom));
    return pile.count();
  }

  public int constant(boolean isTrue) throws IllegalStateException {
    requirePileRoom();
    pile.lay(isTrue ? EVERYWHERE : NOWHERE);
    return pile.count();
  }

  public int recall(int sentence) throws IndexOutOfBoundsException, IllegalStateException {
    requireSentence(sentence);
    requirePileRoom();
    pile.lay(base.sentenceAt(sentence));
    return pile.count();
  }

  public int negate() throws IllegalStateException {
    int made = not(requireTop());
    pile.replace(1, made);
    return made;
  }

  public int join(int kind) throws IllegalArgumentException, IllegalStateException {
    if (kind < AND || kind > SAME) {
      throw new IllegalArgumentException("the kind is not 0 to 3");
    }
    requireTwo();
    int made = joined(kind, pile.below(1), pile.below(0));
    pile.replace(2, made);
    return made;
  }

  public int pop() throws IllegalStateException {
    requireTop();
    pile.take(1);
    return pile.count();
  }

  public int height() {
    return pile.count();
  }

  public int top() throws IllegalStateException {
    return requireTop();
  }

  // ---- the base

  public int add(int rank) throws IllegalArgumentException, IllegalStateException {
    requireRank(rank);
    int added = requireTop();
    if (base.isFull()) {
      throw new IllegalStateException("the base has 10 sentences");
    }
    base.include(added, rank);
    return base.count() - 1;
  }

  public int setRank(int sentence, int rank)
      throws IndexOutOfBoundsException, IllegalArgumentException {
    requireSentence(sentence);
    requireRank(rank);
    int before = base.rankAt(sentence);
    base.rerank(sentence, rank);
    return before;
  }

  public int drop() throws IllegalStateException {
    if (base.count() == 0) {
      throw new IllegalStateException("the base is empty");
    }
    base.removeLast();
    return base.count();
  }

  public int giveUp(int set) throws IllegalArgumentException {
    requireSet(set);
    base.remove(set);
    return base.count();
  }

  public int size() {
    return base.count();
  }

  public int sentence(int sentence, boolean isRank) throws IndexOutOfBoundsException {
    requireSentence(sentence);
    return isRank ? base.rankAt(sentence) : base.sentenceAt(sentence);
  }

  public int worlds(int set) throws IllegalArgumentException {
    requireSet(set);
    return base.meetOf(set);
  }

  public boolean entails(int set) throws IllegalStateException, IllegalArgumentException {
    int goal = requireTop();
    requireSet(set);
    return base.reaches(set, goal);
  }

  // ---- what follows from the base

  public int kernels() throws IllegalStateException {
    return base.countFound(true, requireTop());
  }

  public int kernel(int index) throws IllegalStateException, IndexOutOfBoundsException {
    return requireFound(true, requireTop(), index);
  }

  public int remainders() throws IllegalStateException {
    return base.countFound(false, requireTop());
  }

  public int remainder(int index) throws IllegalStateException, IndexOutOfBoundsException {
    return requireFound(false, requireTop(), index);
  }

  public int bestRemainder() throws IllegalStateException {
    return base.heaviestRemainder(requireTop());
  }

  public int cut() throws IllegalStateException {
    return base.cutFor(requireTop());
  }

  public int degree() throws IllegalStateException {
    return base.degreeOf(requireTop());
  }

  public boolean isBelieved() throws IllegalStateException {
    return base.degreeOf(requireTop()) > base.degreeOf(NOWHERE);
  }

  public int conflict() {
    return base.degreeOf(NOWHERE);
  }

  public int core() {
    return base.believedWorlds();
  }

  // ---- the state

  public int load() {
    mind.loadFrom(base);
    return mind.open();
  }

  public int level(int world) throws IndexOutOfBoundsException {
    if (world < 0 || world >= WORLDS) {
      throw new IndexOutOfBoundsException("the world is not 0 to 15");
    }
    return mind.levelOf(world);
  }

  public int possible() {
    return mind.open();
  }

  public int learn(int way, int firmness) throws IllegalArgumentException, IllegalStateException {
    if (way < FIRM || way > DOUBT) {
      throw new IllegalArgumentException("the way is not 0 to 3");
    }
    if (way == FIRM && (firmness < 0 || firmness > TOP_FIRMNESS)) {
      throw new IllegalArgumentException("the firmness is not 0 to 9");
    }
    int learned = requireTop();
    if (learned == (way == DOUBT ? EVERYWHERE : NOWHERE)) {
      throw new IllegalStateException("the sentence can't be learned in this way");
    }
    mind.take(way, learned, firmness);
    return mind.open();
  }

  public int firmness() throws IllegalStateException {
    return mind.leastLevel(not(requireTop()));
  }

  public boolean would() throws IllegalStateException {
    requireTwo();
    return (mind.mostPlausible(pile.below(1)) & not(pile.below(0))) == NOWHERE;
  }

  public int layers() {
    return mind.countLevels();
  }

  public double share(int atom) throws IndexOutOfBoundsException {
    requireAtom(atom);
    int open = mind.open();
    int all = Integer.bitCount(open);
    int some = Integer.bitCount(open & at(ATOM_WORLDS, atom));
    return all == 0 ? 0.0 : (double) some / (double) all;
  }

  public long digest() {
    long soFar = base.digestOnto(pile.digestOnto(DIGEST_START));
    return mind.digestOnto(digestStep(soFar, base.degreeOf(NOWHERE)));
  }

  // ---- what calls require

  private static void requireAtom(int atom) throws IndexOutOfBoundsException {
    if (atom < 0 || atom >= ATOM_WORLDS.length) {
      throw new IndexOutOfBoundsException("the atom is not 0 to 3");
    }
  }

  private static void requireRank(int rank) throws IllegalArgumentException {
    if (rank < 1 || rank > TOP_RANK) {
      throw new IllegalArgumentException("the rank is not 1 to 9");
    }
  }

  private void requirePileRoom() throws IllegalStateException {
    if (pile.isFull()) {
      throw new IllegalStateException("the pile has 12 sentences");
    }
  }

  private int requireTop() throws IllegalStateException {
    if (pile.count() < 1) {
      throw new IllegalStateException("the pile is empty");
    }
    return pile.below(0);
  }

  private void requireTwo() throws IllegalStateException {
    if (pile.count() < 2) {
      throw new IllegalStateException("the pile has fewer than two sentences");
    }
  }

  private void requireSentence(int sentence) throws IndexOutOfBoundsException {
    if (sentence < 0 || sentence >= base.count()) {
      throw new IndexOutOfBoundsException("the base has no such sentence");
    }
  }

  private void requireSet(int set) throws IllegalArgumentException {
    if (set < 0 || set >= base.countSets()) {
      throw new IllegalArgumentException("the set has what is no sentence of the base");
    }
  }

  private int requireFound(boolean isKernel, int goal, int index)
      throws IndexOutOfBoundsException {
    int found = base.findAt(isKernel, goal, index);
    if (found < 0) {
      throw new IndexOutOfBoundsException("there is none of this number");
    }
    return found;
  }

  // ---- sentences and rows

  private static int not(int p) {
    return EVERYWHERE & ~p;
  }

  private static int joined(int kind, int p, int q) {
    switch (kind) {
      case AND:
        return p & q;
      case OR:
        return p | q;
      case IF:
        return p | not(q);
      default:
        return not(p ^ q);
    }
  }

  private static boolean has(int set, int member) {
    return ((set >> member) & 1) == 1;
  }

  private static long digestStep(long soFar, int number) {
    return soFar * 31 + number;
  }

  // Rows are read and written through these two wherever the index is no counter that runs
  // below the row's own length, so that no index is ever used unseen.

  private static int at(int[] row, int index) {
    return index >= 0 && index < row.length ? row[index] : 0;
  }

  private static void put(int[] row, int index, int value) {
    if (index >= 0 && index < row.length) {
      row[index] = value;
    }
  }

  /** The pile on which sentences are built. */
  private static final class Pile {
    private final int[] sentences = new int[PILE_LIMIT];
    private int count = 0;

    int count() {
      return count;
    }

    boolean isFull() {
      return count >= PILE_LIMIT;
    }

    void lay(int sentence) {
      if (!isFull()) {
        put(sentences, count, sentence);
        count++;
      }
    }

    void take(int number) {
      count = Math.max(0, count - number);
    }

    void replace(int number, int sentence) {
      take(number);
      lay(sentence);
    }

    /** The sentence that has so many sentences above it. */
    int below(int number) {
      return at(sentences, count - 1 - number);
    }

    long digestOnto(long start) {
      long soFar = digestStep(start, count);
      for (int k = 0; k < count; k++) {
        soFar = digestStep(soFar, at(sentences, k));
      }
      return soFar;
    }
  }

  /** The base: sentences with ranks, and what follows from sets of them. */
  private static final class Base {
    private final int[] sentences = new int[BASE_LIMIT];
    private final int[] ranks = new int[BASE_LIMIT];
    // For each set of the base the worlds in which all its sentences are true: kept, because
    // kernels and remainders ask for them again and again.
    private final int[] meets = new int[BASE_SETS];
    private int count = 0;

    Base() {
      put(meets, 0, EVERYWHERE);
    }

    int count() {
      return count;
    }

    int countSets() {
      return 1 << count;
    }

    boolean isFull() {
      return count >= BASE_LIMIT;
    }

    int sentenceAt(int number) {
      return at(sentences, number);
    }

    int rankAt(int number) {
      return at(ranks, number);
    }

    void rerank(int number, int rank) {
      put(ranks, number, rank);
    }

    void include(int sentence, int rank) {
      if (isFull()) {
        return;
      }
      put(sentences, count, sentence);
      put(ranks, count, rank);
      int without = countSets();
      for (int set = 0; set < without; set++) {
        put(meets, without + set, at(meets, set) & sentence);
      }
      count++;
    }

    void removeLast() {
      count = Math.max(0, count - 1);
    }

    void remove(int set) {
      int before = count;
      // What is kept is included again from an empty base: never at a higher number than it had,
      // so that nothing is overwritten before it is read.
      count = 0;
      for (int k = 0; k < before; k++) {
        if (!has(set, k)) {
          include(at(sentences, k), at(ranks, k));
        }
      }
    }

    int meetOf(int set) {
      return at(meets, set);
    }

    boolean reaches(int set, int goal) {
      return (at(meets, set) & not(goal)) == NOWHERE;
    }

    /** More sentences never entail less, so the parts that lack one sentence stand for all. */
    private boolean isKernelFor(int set, int goal) {
      if (!reaches(set, goal)) {
        return false;
      }
      for (int k = 0; k < count; k++) {
        if (has(set, k) && reaches(set ^ (1 << k), goal)) {
          return false;
        }
      }
      return true;
    }

    /** As with kernels, the sets that have one sentence more stand for all. */
    private boolean isRemainderFor(int set, int goal) {
      if (reaches(set, goal)) {
        return false;
      }
      for (int k = 0; k < count; k++) {
        if (!has(set, k) && !reaches(set | (1 << k), goal)) {
          return false;
        }
      }
      return true;
    }

    private boolean isFound(boolean isKernel, int set, int goal) {
      return isKernel ? isKernelFor(set, goal) : isRemainderFor(set, goal);
    }

    int countFound(boolean isKernel, int goal) {
      int sets = countSets();
      int found = 0;
      for (int set = 0; set < sets; set++) {
        if (isFound(isKernel, set, goal)) {
          found++;
        }
      }
      return found;
    }

    /** The kernel or remainder with this number; -1 if there is none. */
    int findAt(boolean isKernel, int goal, int index) {
      int sets = countSets();
      int found = 0;
      for (int set = 0; set < sets; set++) {
        if (isFound(isKernel, set, goal)) {
          if (found == index) {
            return set;
          }
          found++;
        }
      }
      return -1;
    }

    int heaviestRemainder(int goal) {
      int sets = countSets();
      int best = -1;
      for (int set = 0; set < sets; set++) {
        if (isRemainderFor(set, goal) && (best < 0 || weight(set) > weight(best))) {
          best = set;
        }
      }
      return best;
    }

    /**
     * How many sentences of each rank a set has, the higher ranks in the higher bits: four bits
     * hold a count, which is at most ten.
     */
    private long weight(int set) {
      long sum = 0;
      for (int k = 0; k < count; k++) {
        if (has(set, k)) {
          sum += 1L << (4 * rankAt(k));
        }
      }
      return sum;
    }

    int cutFor(int goal) {
      int sets = countSets();
      int members = 0;
      for (int set = 0; set < sets; set++) {
        if (isKernelFor(set, goal)) {
          members |= leastRanked(set);
        }
      }
      return members;
    }

    private int leastRanked(int set) {
      int least = TOP_RANK;
      for (int k = 0; k < count; k++) {
        if (has(set, k)) {
          least = Math.min(least, rankAt(k));
        }
      }
      return set & ~rankedFrom(least + 1);
    }

    private int rankedFrom(int rank) {
      int set = 0;
      for (int k = 0; k < count; k++) {
        if (rankAt(k) >= rank) {
          set |= 1 << k;
        }
      }
      return set;
    }

    int degreeOf(int goal) {
      if (goal == EVERYWHERE) {
        return ALWAYS_DEGREE;
      }
      for (int rank = TOP_RANK; rank >= 1; rank--) {
        if (reaches(rankedFrom(rank), goal)) {
          return rank;
        }
      }
      return 0;
    }

    /** Just what the sentences above the conflict entail has a degree above it. */
    int believedWorlds() {
      return meetOf(rankedFrom(degreeOf(NOWHERE) + 1));
    }

    int greatestRankFalseIn(int world) {
      int greatest = 0;
      for (int k = 0; k < count; k++) {
        if (!has(sentenceAt(k), world)) {
          greatest = Math.max(greatest, rankAt(k));
        }
      }
      return greatest;
    }

    long digestOnto(long start) {
      long soFar = digestStep(start, count);
      for (int k = 0; k < count; k++) {
        soFar = digestStep(digestStep(soFar, sentenceAt(k)), rankAt(k));
      }
      return soFar;
    }
  }

  /** The state of mind: a level for each world. */
  private static final class Mind {
    private final int[] levels = new int[WORLDS];
    private final int[] keys = new int[WORLDS];

    int levelOf(int world) {
      return at(levels, world);
    }

    int open() {
      return worldsAt(EVERYWHERE, 0);
    }

    /** The least level of some worlds; -1 if there are none. */
    int leastLevel(int worlds) {
      int least = -1;
      for (int w = 0; w < levels.length; w++) {
        if (has(worlds, w) && (least < 0 || levels[w] < least)) {
          least = levels[w];
        }
      }
      return least;
    }

    private int worldsAt(int worlds, int level) {
      int set = 0;
      for (int w = 0; w < levels.length; w++) {
        if (has(worlds, w) && levels[w] == level) {
          set |= 1 << w;
        }
      }
      return set;
    }

    /** Those of some worlds that have the least level among them; none if there are none. */
    int mostPlausible(int worlds) {
      return worldsAt(worlds, leastLevel(worlds));
    }

    private void shift(int worlds, int difference) {
      for (int w = 0; w < levels.length; w++) {
        if (has(worlds, w)) {
          levels[w] += difference;
        }
      }
    }

    private void bringForward(int worlds) {
      for (int w = 0; w < levels.length; w++) {
        if (has(worlds, w)) {
          levels[w] = 0;
        }
      }
    }

    void loadFrom(Base base) {
      for (int w = 0; w < levels.length; w++) {
        levels[w] = base.greatestRankFalseIn(w);
      }
      shift(EVERYWHERE, -leastLevel(EVERYWHERE));
    }

    void take(int way, int learned, int firmness) {
      switch (way) {
        case FIRM:
          takeFirmly(learned, firmness);
          break;
        case NATURAL:
          takeNaturally(learned);
          break;
        case STRICT:
          takeStrictly(learned);
          break;
        default:
          bringForward(mostPlausible(not(learned)));
          break;
      }
    }

    private void takeFirmly(int learned, int firmness) {
      int others = not(learned);
      shift(learned, -leastLevel(learned));
      // If there are no others, they have no least level, but nothing is shifted either.
      shift(others, firmness - leastLevel(others));
    }

    private void takeNaturally(int learned) {
      int nearest = mostPlausible(learned);
      shift(EVERYWHERE, 1);
      bringForward(nearest);
    }

    private void takeStrictly(int learned) {
      // Far enough that the last of the worlds ahead stays ahead of the first of the others.
      int behind = greatestLevel() + 1;
      for (int w = 0; w < levels.length && w < keys.length; w++) {
        keys[w] = has(learned, w) ? levels[w] : levels[w] + behind;
      }
      setLevelsByKeys();
    }

    private int greatestLevel() {
      int greatest = 0;
      for (int w = 0; w < levels.length; w++) {
        greatest = Math.max(greatest, levels[w]);
      }
      return greatest;
    }

    private void setLevelsByKeys() {
      for (int w = 0; w < levels.length; w++) {
        levels[w] = countDifferent(keys, at(keys, w));
      }
    }

    int countLevels() {
      return countDifferent(levels, greatestLevel() + 1);
    }

    /** How many different numbers of a row are less than a bound. */
    private static int countDifferent(int[] row, int bound) {
      int different = 0;
      for (int k = 0; k < row.length; k++) {
        if (row[k] < bound && isFirst(row, k)) {
          different++;
        }
      }
      return different;
    }

    private static boolean isFirst(int[] row, int index) {
      for (int k = 0; k < index; k++) {
        if (at(row, k) == at(row, index)) {
          return false;
        }
      }
      return true;
    }

    long digestOnto(long start) {
      long soFar = start;
      for (int w = 0; w < levels.length; w++) {
        soFar = digestStep(soFar, levels[w]);
      }
      return soFar;
    }
  }
}
