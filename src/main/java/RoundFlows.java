/**
 * A bench for round flows: a small net of posts and pointed roads, a flow on it, and what can be
 * counted, found and parted there. What cannot be done is told by one of eight findings; only
 * worth() may have an answer of its own that is as low.
 */
public final class RoundFlows {
  private static final int BEYOND = -1000001;
  private static final int MISSING = -1000002;
  private static final int SIZE = -1000003;
  private static final int KIND = -1000004;
  private static final int FULL = -1000005;
  private static final int NONE = -1000006;
  private static final int LONG = -1000007;
  private static final int OFF = -1000008;

  private static final int MOST_POSTS = 6;
  private static final int MOST_ROADS = 10;
  private static final int MOST_LENGTH = 9;
  private static final int MOST_NUMBER = 100;
  private static final int LEAST_MODULUS = 2;
  private static final int MOST_MODULUS = 12;
  private static final int MOST_FACTOR = 10;
  private static final int MOST_FOUND_SIZE = 6;
  private static final int MOST_COUNTED_SIZE = 4;
  private static final int MOST_COUNTED_GENUS = 6;
  private static final int MOST_DOUBLED_GENUS = 4;
  private static final int LEAST_WORTH_AT = -6;
  private static final int MOST_WORTH_AT = 12;
  private static final int FOURS_STEP = 2048;

  private static final int SLOT_COUNT = 4;
  private static final int SHEET_COUNT = 4;
  private static final int SHEET_ROOM = 24;
  private static final int UNDO_ROOM = 25;

  private static final int FLOW_KIND = 0;
  private static final int RESTS_KIND = 1;
  private static final int BITS_KIND = 2;
  private static final int SIZED_KIND = 3;

  private final Net net = new Net();
  private final Past past = new Past();
  private final Slot[] slots = new Slot[SLOT_COUNT];
  private final Sheet[] sheets = new Sheet[SHEET_COUNT];
  private final Forest forest = new Forest();
  private final Survey survey = new Survey();
  private final Nowheres nowheres = new Nowheres();
  private final Parting parting = new Parting();
  private final Layout layout = new Layout();
  private boolean surveyed = false;
  private int findings = 0;

  public RoundFlows() {
    for (int i = 0; i < SLOT_COUNT; i++) {
      slots[i] = new Slot();
    }
    for (int i = 0; i < SHEET_COUNT; i++) {
      sheets[i] = new Sheet();
    }
  }

  // ---- the net.

  public int anew() {
    int before = net.roads;
    begin();
    net.empty();
    return before;
  }

  public int post() {
    if (net.posts >= MOST_POSTS) {
      return tell(FULL);
    }
    begin();
    net.posts++;
    return net.posts - 1;
  }

  public int road(int from, int to) {
    if (!net.hasPost(from) || !net.hasPost(to)) {
      return tell(BEYOND);
    }
    if (net.roads >= MOST_ROADS) {
      return tell(FULL);
    }
    begin();
    net.build(from, to);
    return net.roads - 1;
  }

  public int length(int road, int v) {
    if (!net.hasRoad(road) || v < 1 || v > MOST_LENGTH) {
      return tell(BEYOND);
    }
    begin();
    int before = net.lengths[road];
    net.lengths[road] = v;
    return before;
  }

  public int turn(int road) {
    if (!net.hasRoad(road)) {
      return tell(BEYOND);
    }
    begin();
    int start = net.starts[road];
    net.starts[road] = net.ends[road];
    net.ends[road] = start;
    net.numbers[road] = -net.numbers[road];
    return net.numbers[road];
  }

  public int take(int road) {
    if (!net.hasRoad(road)) {
      return tell(BEYOND);
    }
    begin();
    net.drop(road);
    return net.roads;
  }

  public int melt(int road) {
    if (!net.hasRoad(road)) {
      return tell(BEYOND);
    }
    if (net.isLoop(road)) {
      return tell(KIND);
    }
    begin();
    int low = Math.min(net.starts[road], net.ends[road]);
    int high = Math.max(net.starts[road], net.ends[road]);
    net.drop(road);
    net.unite(low, high);
    return net.posts;
  }

  public int of(int road, int what) {
    if (!net.hasRoad(road)) {
      return tell(BEYOND);
    }
    switch (what) {
      case 0:
        return net.starts[road];
      case 1:
        return net.ends[road];
      case 2:
        return net.lengths[road];
      case 3:
        return net.rest(net.numbers[road]);
      default:
        return tell(BEYOND);
    }
  }

  public int undo() {
    if (past.size == 0) {
      return tell(NONE);
    }
    past.goBack(net);
    surveyed = false;
    return past.size;
  }

  // ---- sheets.

  public int sheet(int s, int bits, int n) {
    if (!isSheet(s) || (bits != 0 && bits != 8 && bits != 16 && bits != 32)) {
      return tell(BEYOND);
    }
    if (n < 0) {
      return tell(SIZE);
    }
    if (n > SHEET_ROOM) {
      return tell(BEYOND);
    }
    sheets[s].prepare(bits, n);
    return sheets[s].size;
  }

  public int put(int s, int i, int v) {
    if (!isSheet(s)) {
      return tell(BEYOND);
    }
    if (sheets[s].isMissing()) {
      return tell(MISSING);
    }
    if (!sheets[s].holds(i, 1)) {
      return tell(BEYOND);
    }
    sheets[s].write(i, v);
    return 0;
  }

  public int copy(int s, int from, int t, int to, int n) {
    if (!isSheet(s) || !isSheet(t)) {
      return tell(BEYOND);
    }
    if (sheets[s].isMissing() || sheets[t].isMissing()) {
      return tell(MISSING);
    }
    if (sheets[s].bits != sheets[t].bits) {
      return tell(KIND);
    }
    if (!sheets[s].holds(from, n) || !sheets[t].holds(to, n)) {
      return tell(BEYOND);
    }
    System.arraycopy(sheets[s].numbers, from, sheets[t].numbers, to, n);
    return n;
  }

  public int lay(int s) {
    if (!isSheet(s)) {
      return tell(BEYOND);
    }
    if (sheets[s].isMissing()) {
      return tell(MISSING);
    }
    int pairs = sheets[s].size / 2;
    int[] numbers = sheets[s].numbers;
    for (int i = 0; i < 2 * pairs; i++) {
      if (!net.hasPost(numbers[i])) {
        return tell(BEYOND);
      }
    }
    if (net.roads + pairs > MOST_ROADS) {
      return tell(FULL);
    }
    begin();
    for (int i = 0; i < pairs; i++) {
      net.build(numbers[2 * i], numbers[2 * i + 1]);
    }
    return pairs;
  }

  // ---- the flow.

  public int group(int m) {
    if (m != 0 && (m < LEAST_MODULUS || m > MOST_MODULUS)) {
      return tell(BEYOND);
    }
    begin();
    int before = net.modulus;
    net.modulus = m;
    return before;
  }

  public int set(int road, int v) {
    if (!net.hasRoad(road) || !fits(v)) {
      return tell(BEYOND);
    }
    begin();
    int before = net.rest(net.numbers[road]);
    net.numbers[road] = v;
    return before;
  }

  public int excess(int post) {
    if (!net.hasPost(post)) {
      return tell(BEYOND);
    }
    return net.surplus(post);
  }

  public int off() {
    return net.offPosts();
  }

  public int whole() {
    return net.isWhole() ? 1 : 0;
  }

  public int find(int k) {
    if (k < 2 || k > MOST_FOUND_SIZE) {
      return tell(BEYOND);
    }
    forest.grow(net);
    if (forest.bridgeSet() != 0 || !nowheres.exists(net, k)) {
      return tell(NONE);
    }
    begin();
    net.modulus = 0;
    System.arraycopy(nowheres.values, 0, net.numbers, 0, net.roads);
    return k;
  }

  public int sized(int k) {
    if (k < 2 || k > MOST_COUNTED_SIZE) {
      return tell(BEYOND);
    }
    forest.grow(net);
    if (forest.genus > MOST_COUNTED_GENUS) {
      return tell(LONG);
    }
    return forest.bridgeSet() != 0 ? 0 : nowheres.number(net, k);
  }

  public int least() {
    if (net.roads == 0) {
      return 1;
    }
    forest.grow(net);
    if (forest.bridgeSet() != 0) {
      return tell(NONE);
    }
    // A net without a bridge always has one of size 6 (Seymour), so that 6 needs no search.
    for (int k = 2; k < MOST_FOUND_SIZE; k++) {
      if (nowheres.exists(net, k)) {
        return k;
      }
    }
    return MOST_FOUND_SIZE;
  }

  public int rounds(int i, boolean number) {
    if (net.modulus != 0) {
      return tell(KIND);
    }
    if (net.offPosts() != 0) {
      return tell(OFF);
    }
    if (net.hasNegative()) {
      return tell(SIZE);
    }
    parting.part(net);
    if (i == -1) {
      return parting.size;
    }
    if (i < 0 || i >= parting.size) {
      return tell(NONE);
    }
    return number ? parting.amounts[i] : parting.sets[i];
  }

  // ---- polynomials.

  public int flowPoly(int i) {
    if (i < 0 || i > MOST_ROADS) {
      return tell(BEYOND);
    }
    look();
    return survey.flowTerms[i];
  }

  public int colourPoly(int i) {
    if (i < 0 || i > MOST_ROADS) {
      return tell(BEYOND);
    }
    look();
    return survey.colourTerms[i];
  }

  public long worth(boolean colours, int m) {
    if (m < LEAST_WORTH_AT || m > MOST_WORTH_AT) {
      return tell(BEYOND);
    }
    look();
    return worthAt(colours ? survey.colourTerms : survey.flowTerms, m);
  }

  // ---- even sets, bridges, trees.

  public int bridges() {
    forest.grow(net);
    return forest.bridgeSet();
  }

  public int even(int i) {
    forest.grow(net);
    int many = 1 << forest.genus;
    if (i == -1) {
      return many;
    }
    if (i < 0 || i >= many) {
      return tell(NONE);
    }
    return forest.evenSet(i);
  }

  public int fours() {
    forest.grow(net);
    // No even set has a bridge, so that with one there is nothing to search.
    int pair = forest.bridgeSet() != 0 ? -1 : firstFours();
    return pair < 0 ? tell(NONE) : pair;
  }

  public int twice() {
    forest.grow(net);
    if (forest.bridgeSet() != 0) {
      return tell(NONE);
    }
    if (forest.genus > MOST_DOUBLED_GENUS) {
      return tell(LONG);
    }
    if (net.roads == 0) {
      return 0;
    }
    // Two sets must both be all roads. Else three do: two even sets that together have all roads,
    // and the roads that are in just one of them; the least net without a bridge that lacks two
    // such sets is Petersen's, of genus 6 and 15 roads.
    return forest.evenSet((1 << forest.genus) - 1) == net.allRoads() ? 2 : 3;
  }

  public int walked(boolean set) {
    forest.grow(net);
    int all = net.allRoads();
    int best = all;
    int least = net.lengthOf(all);
    // What is walked twice has odd ends just where all roads together have them: it is all roads
    // but for an even set. As even sets go up, it goes down: of equal sums the last one is due.
    for (int i = 1; i < 1 << forest.genus; i++) {
      int other = all ^ forest.evenSet(i);
      int sum = net.lengthOf(other);
      if (sum <= least) {
        least = sum;
        best = other;
      }
    }
    return set ? best : least;
  }

  public int trees() {
    look();
    forest.grow(net);
    return survey.forests[forest.pieces];
  }

  public int count(int what) {
    switch (what) {
      case 0:
        forest.grow(net);
        return forest.pieces;
      case 1:
        forest.grow(net);
        return forest.genus;
      case 2:
        return waysToPoint(false);
      case 3:
        return waysToPoint(true);
      default:
        return tell(BEYOND);
    }
  }

  // ---- faces.

  public int faces() {
    layout.arrange(net);
    return layout.orbits(net);
  }

  public int face(int road, boolean back) {
    if (!net.hasRoad(road)) {
      return tell(BEYOND);
    }
    layout.arrange(net);
    return Integer.bitCount(layout.orbit(back ? 2 * road + 1 : 2 * road));
  }

  // ---- slots.

  public int keep(int slot) {
    if (!isSlot(slot)) {
      return tell(BEYOND);
    }
    slots[slot].store(net);
    return slots[slot].kind;
  }

  public int bring(int slot) {
    int refusal = refusalOf(slot);
    if (refusal != 0) {
      return tell(refusal);
    }
    begin();
    net.modulus = slots[slot].modulus;
    System.arraycopy(slots[slot].numbers, 0, net.numbers, 0, net.roads);
    return slots[slot].kind;
  }

  public int add(int slot) {
    int refusal = refusalOf(slot);
    if (refusal != 0) {
      return tell(refusal);
    }
    int[] numbers = slots[slot].numbers;
    for (int i = 0; i < net.roads; i++) {
      if (!fits(net.numbers[i] + numbers[i])) {
        return tell(FULL);
      }
    }
    begin();
    for (int i = 0; i < net.roads; i++) {
      net.numbers[i] += numbers[i];
    }
    return 1;
  }

  public int times(int c) {
    if (c < -MOST_FACTOR || c > MOST_FACTOR) {
      return tell(BEYOND);
    }
    for (int i = 0; i < net.roads; i++) {
      if (!fits(net.numbers[i] * c)) {
        return tell(FULL);
      }
    }
    begin();
    for (int i = 0; i < net.roads; i++) {
      net.numbers[i] *= c;
    }
    return 1;
  }

  public int as(int slot, int kind) {
    if (!isSlot(slot) || kind < FLOW_KIND || kind > SIZED_KIND) {
      return tell(BEYOND);
    }
    if (!slots[slot].filled) {
      return tell(NONE);
    }
    if (!slots[slot].countsAs(kind)) {
      return tell(KIND);
    }
    return slots[slot].roads;
  }

  public int told(int what) {
    switch (what) {
      case 0:
        return net.posts;
      case 1:
        return net.roads;
      case 2:
        return net.modulus;
      case 3:
        return findings;
      default:
        return tell(BEYOND);
    }
  }

  private int tell(int finding) {
    findings++;
    return finding;
  }

  /** Every act that can be undone starts here, once it is sure that it will be done. */
  private void begin() {
    past.remember(net);
    surveyed = false;
  }

  /** The survey goes through all sets of roads, so that it is kept until the next act. */
  private void look() {
    if (!surveyed) {
      survey.gather(net);
      surveyed = true;
    }
  }

  /** Ways to point roads: each polynomial tells them at -1, but for the sign (Stanley). */
  private int waysToPoint(boolean colours) {
    look();
    return (int) Math.abs(worthAt(colours ? survey.colourTerms : survey.flowTerms, -1));
  }

  private int firstFours() {
    int all = net.allRoads();
    int many = 1 << forest.genus;
    for (int i = 0; i < many; i++) {
      int first = forest.evenSet(i);
      for (int j = i; j < many; j++) {
        int second = forest.evenSet(j);
        if ((first | second) == all) {
          return FOURS_STEP * first + second;
        }
      }
    }
    return -1;
  }

  /** What bring() and add() refuse alike; 0 if nothing. */
  private int refusalOf(int slot) {
    if (!isSlot(slot)) {
      return BEYOND;
    }
    if (!slots[slot].filled) {
      return NONE;
    }
    return slots[slot].roads != net.roads ? SIZE : 0;
  }

  private static boolean isSlot(int slot) {
    return slot >= 0 && slot < SLOT_COUNT;
  }

  private static boolean isSheet(int s) {
    return s >= 0 && s < SHEET_COUNT;
  }

  private static boolean fits(int number) {
    return number >= -MOST_NUMBER && number <= MOST_NUMBER;
  }

  private static long worthAt(int[] terms, int m) {
    long sum = 0;
    for (int i = MOST_ROADS; i >= 0; i--) {
      sum = sum * m + terms[i];
    }
    return sum;
  }

  /** The net and THE FLOW on it; numbers stand as they were given, rests are taken when asked. */
  private static final class Net {
    static final int ROOM = 3 + 4 * MOST_ROADS;

    int posts = 0;
    int roads = 0;
    int modulus = 0;
    final int[] starts = new int[MOST_ROADS];
    final int[] ends = new int[MOST_ROADS];
    final int[] lengths = new int[MOST_ROADS];
    final int[] numbers = new int[MOST_ROADS];

    void empty() {
      posts = 0;
      roads = 0;
      modulus = 0;
    }

    void writeTo(int[] row, int at) {
      row[at] = posts;
      row[at + 1] = roads;
      row[at + 2] = modulus;
      System.arraycopy(starts, 0, row, at + 3, MOST_ROADS);
      System.arraycopy(ends, 0, row, at + 3 + MOST_ROADS, MOST_ROADS);
      System.arraycopy(lengths, 0, row, at + 3 + 2 * MOST_ROADS, MOST_ROADS);
      System.arraycopy(numbers, 0, row, at + 3 + 3 * MOST_ROADS, MOST_ROADS);
    }

    void readFrom(int[] row, int at) {
      posts = row[at];
      roads = row[at + 1];
      modulus = row[at + 2];
      System.arraycopy(row, at + 3, starts, 0, MOST_ROADS);
      System.arraycopy(row, at + 3 + MOST_ROADS, ends, 0, MOST_ROADS);
      System.arraycopy(row, at + 3 + 2 * MOST_ROADS, lengths, 0, MOST_ROADS);
      System.arraycopy(row, at + 3 + 3 * MOST_ROADS, numbers, 0, MOST_ROADS);
    }

    boolean hasPost(int post) {
      return post >= 0 && post < posts;
    }

    boolean hasRoad(int road) {
      return road >= 0 && road < roads;
    }

    boolean isLoop(int road) {
      return starts[road] == ends[road];
    }

    int allRoads() {
      return (1 << roads) - 1;
    }

    void build(int start, int end) {
      if (roads >= MOST_ROADS) {
        return;
      }
      starts[roads] = start;
      ends[roads] = end;
      lengths[roads] = 1;
      numbers[roads] = 0;
      roads++;
    }

    void drop(int road) {
      for (int i = road; i + 1 < roads; i++) {
        starts[i] = starts[i + 1];
        ends[i] = ends[i + 1];
        lengths[i] = lengths[i + 1];
        numbers[i] = numbers[i + 1];
      }
      roads--;
    }

    void unite(int low, int high) {
      for (int i = 0; i < roads; i++) {
        starts[i] = united(starts[i], low, high);
        ends[i] = united(ends[i], low, high);
      }
      posts--;
    }

    private static int united(int post, int low, int high) {
      if (post == high) {
        return low;
      }
      return post > high ? post - 1 : post;
    }

    int rest(int number) {
      return modulus == 0 ? number : Math.floorMod(number, modulus);
    }

    int surplus(int post) {
      int sum = 0;
      for (int i = 0; i < roads; i++) {
        if (ends[i] == post) {
          sum += numbers[i];
        }
        if (starts[i] == post) {
          sum -= numbers[i];
        }
      }
      return rest(sum);
    }

    int offPosts() {
      int off = 0;
      for (int p = 0; p < posts; p++) {
        if (surplus(p) != 0) {
          off++;
        }
      }
      return off;
    }

    boolean isWhole() {
      for (int i = 0; i < roads; i++) {
        if (rest(numbers[i]) == 0) {
          return false;
        }
      }
      return offPosts() == 0;
    }

    boolean hasNegative() {
      for (int i = 0; i < roads; i++) {
        if (numbers[i] < 0) {
          return true;
        }
      }
      return false;
    }

    int kindOfFlow() {
      if (modulus == 0) {
        return isWhole() ? SIZED_KIND : FLOW_KIND;
      }
      return modulus == 2 ? BITS_KIND : RESTS_KIND;
    }

    int lengthOf(int roadSet) {
      int sum = 0;
      for (int i = 0; i < roads; i++) {
        if ((roadSet >> i & 1) != 0) {
          sum += lengths[i];
        }
      }
      return sum;
    }
  }

  /** The nets before the latest acts, in one row that goes round so that the oldest is given up. */
  private static final class Past {
    private final int[] row = new int[UNDO_ROOM * Net.ROOM];
    private int next = 0;
    int size = 0;

    void remember(Net net) {
      net.writeTo(row, next * Net.ROOM);
      next = next + 1 < UNDO_ROOM ? next + 1 : 0;
      size = Math.min(size + 1, UNDO_ROOM);
    }

    void goBack(Net net) {
      if (size == 0) {
        return;
      }
      next = next > 0 ? next - 1 : UNDO_ROOM - 1;
      size--;
      net.readFrom(row, next * Net.ROOM);
    }
  }

  private static final class Slot {
    boolean filled = false;
    int roads = 0;
    int modulus = 0;
    int kind = FLOW_KIND;
    final int[] numbers = new int[MOST_ROADS];

    void store(Net net) {
      filled = true;
      roads = net.roads;
      modulus = net.modulus;
      kind = net.kindOfFlow();
      System.arraycopy(net.numbers, 0, numbers, 0, MOST_ROADS);
    }

    boolean countsAs(int asked) {
      return asked == kind || asked == FLOW_KIND || (asked == RESTS_KIND && kind == BITS_KIND);
    }
  }

  /** A sheet is MISSING while its numbers have 0 bits. */
  private static final class Sheet {
    int bits = 0;
    int size = 0;
    final int[] numbers = new int[SHEET_ROOM];

    void prepare(int newBits, int newSize) {
      bits = newBits;
      size = newBits == 0 ? 0 : newSize;
      for (int i = 0; i < SHEET_ROOM; i++) {
        numbers[i] = 0;
      }
    }

    boolean isMissing() {
      return bits == 0;
    }

    boolean holds(int first, int many) {
      return first >= 0 && many >= 0 && first <= size - many;
    }

    void write(int i, int v) {
      if (bits == 8) {
        numbers[i] = (byte) v;
      } else if (bits == 16) {
        numbers[i] = (short) v;
      } else {
        numbers[i] = v;
      }
    }
  }

  /**
   * A forest of the lowest roads that hangs all pieces together. Each other road closes one round
   * with forest roads below it; these rounds make up all even sets.
   */
  private static final class Forest {
    private final int[] roots = new int[MOST_POSTS];
    private final int[] paths = new int[MOST_POSTS];
    private final int[] closed = new int[MOST_ROADS];
    private int offRounds = 0;
    int pieces = 0;
    int genus = 0;

    void grow(Net net) {
      pieces = net.posts;
      genus = 0;
      offRounds = net.allRoads();
      for (int p = 0; p < net.posts; p++) {
        roots[p] = p;
        paths[p] = 0;
      }
      for (int i = 0; i < net.roads; i++) {
        int start = net.starts[i];
        int end = net.ends[i];
        int way = paths[start] ^ paths[end] ^ 1 << i;
        if (roots[start] == roots[end]) {
          closed[genus] = way;
          genus++;
          offRounds &= ~way;
        } else {
          hang(roots[end], roots[start], way, net.posts);
        }
      }
    }

    private void hang(int root, int newRoot, int way, int posts) {
      for (int p = 0; p < posts; p++) {
        if (roots[p] == root) {
          roots[p] = newRoot;
          paths[p] ^= way;
        }
      }
      pieces--;
    }

    /** A road of no round is a bridge, for a LOOP is a round of its own. */
    int bridgeSet() {
      return offRounds;
    }

    /**
     * The i-th even set by numbers: the highest road of each closed round is in no other one, and
     * these go up, so that the bits of i are in the order of the sets.
     */
    int evenSet(int i) {
      int roadSet = 0;
      for (int j = 0; j < genus; j++) {
        if ((i >> j & 1) != 0) {
          roadSet ^= closed[j];
        }
      }
      return roadSet;
    }
  }

  /** What is summed over all sets of roads: both polynomials, and forests by their pieces. */
  private static final class Survey {
    private static final int LABEL_BITS = 3;
    private static final int LABEL_MASK = 7;

    final int[] flowTerms = new int[MOST_ROADS + 1];
    final int[] colourTerms = new int[MOST_ROADS + 1];
    final int[] forests = new int[MOST_POSTS + 1];

    void gather(Net net) {
      clear(flowTerms);
      clear(colourTerms);
      clear(forests);
      int labels = 0;
      for (int p = 0; p < net.posts; p++) {
        labels |= p << LABEL_BITS * p;
      }
      choose(net, 0, labels, net.posts, 0);
    }

    private static void clear(int[] row) {
      for (int i = 0; i < row.length; i++) {
        row[i] = 0;
      }
    }

    /** Posts' labels (of which piece each is) stand in one int, so that nothing is to be undone. */
    private void choose(Net net, int road, int labels, int pieces, int chosen) {
      if (road >= net.roads) {
        enter(net, pieces, chosen);
        return;
      }
      choose(net, road + 1, labels, pieces, chosen);
      int start = labelAt(labels, net.starts[road]);
      int end = labelAt(labels, net.ends[road]);
      if (start == end) {
        choose(net, road + 1, labels, pieces, chosen + 1);
      } else {
        int joined = relabelled(labels, end, start, net.posts);
        choose(net, road + 1, joined, pieces - 1, chosen + 1);
      }
    }

    private void enter(Net net, int pieces, int chosen) {
      int genus = chosen - net.posts + pieces;
      flowTerms[genus] += (net.roads - chosen & 1) == 0 ? 1 : -1;
      colourTerms[pieces] += (chosen & 1) == 0 ? 1 : -1;
      if (genus == 0) {
        forests[pieces]++;
      }
    }

    private static int labelAt(int labels, int post) {
      return labels >> LABEL_BITS * post & LABEL_MASK;
    }

    private static int relabelled(int labels, int label, int newLabel, int posts) {
      int result = labels;
      for (int p = 0; p < posts; p++) {
        if (labelAt(labels, p) == label) {
          result ^= (label ^ newLabel) << LABEL_BITS * p;
        }
      }
      return result;
    }
  }

  /**
   * The search for NOWHERES, road by road. A road without which the roads from it on would hang
   * less together has its number forced by those before it, so that only the others are tried.
   * What can follow depends on the step and the posts' surpluses alone, so that it is noted for
   * when they come again; a note may be overwritten, and is searched again then.
   */
  private static final class Nowheres {
    private static final int NOTES = 128;
    private static final int NOTE_SHIFT = 57;
    private static final long NOTE_MIX = 0x9E3779B97F4A7C15L;
    private static final long NO_STATE = -1;
    private static final int SURPLUS_BITS = 7;
    private static final int STEP_BITS = 4;

    final int[] values = new int[MOST_ROADS];
    private final int[] order = new int[MOST_ROADS];
    private final int[] surpluses = new int[MOST_POSTS];
    private final int[] sides = new int[MOST_ROADS];
    private final int[] laterAtStart = new int[MOST_ROADS];
    private final int[] laterAtEnd = new int[MOST_ROADS];
    private final int[] hanging = new int[MOST_POSTS];
    private final int[] later = new int[MOST_POSTS];
    private final long[] notedStates = new long[NOTES];
    private final int[] notedWays = new int[NOTES];
    private int size = 0;
    private boolean firstOnly = false;

    /** Whether there is one; values then has the first. */
    boolean exists(Net net, int k) {
      prepare(net, k, true);
      return tally(net, 0) != 0;
    }

    int number(Net net, int k) {
      prepare(net, k, false);
      return tally(net, 0);
    }

    private void prepare(Net net, int k, boolean stopAtFirst) {
      size = k;
      firstOnly = stopAtFirst;
      for (int i = 0; i < NOTES; i++) {
        notedStates[i] = NO_STATE;
      }
      for (int p = 0; p < MOST_POSTS; p++) {
        surpluses[p] = 0;
        later[p] = 0;
        hanging[p] = 1 << p;
      }
      arrangeRoads(net);
      for (int i = net.roads - 1; i >= 0; i--) {
        lookAhead(net, order[i]);
      }
    }

    /** The first one goes by roads' numbers; a count is free, and short if posts are done early. */
    private void arrangeRoads(Net net) {
      int placed = 0;
      for (int pair = 0; pair < MOST_POSTS * MOST_POSTS; pair++) {
        for (int i = 0; i < net.roads; i++) {
          if (pairOf(net, i) == pair) {
            order[placed] = firstOnly ? placed : i;
            placed++;
          }
        }
      }
    }

    private static int pairOf(Net net, int road) {
      int low = Math.min(net.starts[road], net.ends[road]);
      return MOST_POSTS * low + Math.max(net.starts[road], net.ends[road]);
    }

    /** Called from the last road back: what hangs together then does so by later roads alone. */
    private void lookAhead(Net net, int road) {
      int start = net.starts[road];
      int end = net.ends[road];
      laterAtStart[road] = later[start];
      laterAtEnd[road] = later[end];
      sides[road] = 0;
      if (start == end) {
        return;
      }
      later[start]++;
      later[end]++;
      if (hanging[start] == hanging[end]) {
        return;
      }
      sides[road] = hanging[end];
      int both = hanging[start] | hanging[end];
      for (int p = 0; p < net.posts; p++) {
        if ((both >> p & 1) != 0) {
          hanging[p] = both;
        }
      }
    }

    /** How many ways there are from a step on; no more than 1 if only the first is wanted. */
    private int tally(Net net, int step) {
      if (step >= net.roads) {
        return 1;
      }
      int road = order[step];
      if (net.isLoop(road)) {
        // A LOOP may have any number, and no post feels it.
        values[road] = 1;
        return (firstOnly ? 1 : 2 * (size - 1)) * tally(net, step + 1);
      }
      if (sides[road] != 0) {
        return tallyWith(net, step, -surplusOf(sides[road]));
      }
      long state = stateAt(step);
      int note = (int) (state * NOTE_MIX >>> NOTE_SHIFT);
      if (notedStates[note] == state) {
        return notedWays[note];
      }
      int ways = tallyFree(net, step);
      notedStates[note] = state;
      notedWays[note] = ways;
      return ways;
    }

    private int tallyFree(Net net, int step) {
      int ways = 0;
      for (int v = 1; v < size; v++) {
        ways += tallyWith(net, step, v);
        if (firstOnly && ways != 0) {
          return ways;
        }
        ways += tallyWith(net, step, -v);
        if (firstOnly && ways != 0) {
          return ways;
        }
      }
      return ways;
    }

    private int tallyWith(Net net, int step, int v) {
      if (v == 0 || Math.abs(v) >= size) {
        return 0;
      }
      int road = order[step];
      int start = net.starts[road];
      int end = net.ends[road];
      values[road] = v;
      surpluses[start] -= v;
      surpluses[end] += v;
      int ways = 0;
      if (canLevel(surpluses[start], laterAtStart[road])
          && canLevel(surpluses[end], laterAtEnd[road])) {
        ways = tally(net, step + 1);
      }
      surpluses[start] += v;
      surpluses[end] -= v;
      return ways;
    }

    /** A last road must take the surplus alone, and cannot have the number 0. */
    private boolean canLevel(int surplus, int roadsLeft) {
      if (roadsLeft == 1 && surplus == 0) {
        return false;
      }
      return Math.abs(surplus) <= (size - 1) * roadsLeft;
    }

    private int surplusOf(int postSet) {
      int sum = 0;
      for (int p = 0; p < MOST_POSTS; p++) {
        if ((postSet >> p & 1) != 0) {
          sum += surpluses[p];
        }
      }
      return sum;
    }

    /** A surplus is at most 5 on each of 10 roads, so that 7 bits with sign part all states. */
    private long stateAt(int step) {
      long state = 0;
      for (int p = 0; p < MOST_POSTS; p++) {
        state = (state << SURPLUS_BITS) + surpluses[p];
      }
      return (state << STEP_BITS) + step;
    }
  }

  /** THE FLOW parted into ROUNDS; each takes at least one road's number away whole. */
  private static final class Parting {
    final int[] sets = new int[MOST_ROADS];
    final int[] amounts = new int[MOST_ROADS];
    int size = 0;
    private final int[] left = new int[MOST_ROADS];
    private final int[] walk = new int[MOST_POSTS];
    private final int[] metAt = new int[MOST_POSTS];

    void part(Net net) {
      size = 0;
      System.arraycopy(net.numbers, 0, left, 0, net.roads);
      for (int i = 0; i < net.roads; i++) {
        int first = lowestLeft(net, -1);
        if (first < 0) {
          return;
        }
        takeRound(net, first);
      }
    }

    /** The lowest road with a number left that points from a post (-1: from any); -1: none. */
    private int lowestLeft(Net net, int post) {
      for (int i = 0; i < net.roads; i++) {
        if (left[i] > 0 && (post < 0 || net.starts[i] == post)) {
          return i;
        }
      }
      return -1;
    }

    private void takeRound(Net net, int first) {
      for (int p = 0; p < net.posts; p++) {
        metAt[p] = -1;
      }
      metAt[net.starts[first]] = 0;
      int road = first;
      for (int step = 0; step < net.posts && road >= 0; step++) {
        walk[step] = road;
        int post = net.ends[road];
        if (metAt[post] >= 0) {
          enter(metAt[post], step);
          return;
        }
        metAt[post] = step + 1;
        road = lowestLeft(net, post);
      }
    }

    private void enter(int from, int upTo) {
      int roadSet = 0;
      int least = MOST_NUMBER;
      for (int i = from; i <= upTo; i++) {
        roadSet |= 1 << walk[i];
        least = Math.min(least, left[walk[i]]);
      }
      for (int i = from; i <= upTo; i++) {
        left[walk[i]] -= least;
      }
      sets[size] = roadSet;
      amounts[size] = least;
      size++;
    }
  }

  /** The net as it is laid out; end 2 r is that from which road r points, 2 r + 1 the other. */
  private static final class Layout {
    private final int[] nextRound = new int[2 * MOST_ROADS];
    private int bare = 0;

    void arrange(Net net) {
      bare = 0;
      for (int p = 0; p < net.posts; p++) {
        if (!arrangeAt(net, p)) {
          bare++;
        }
      }
    }

    /** False if the post has no ends. */
    private boolean arrangeAt(Net net, int post) {
      int first = -1;
      int last = -1;
      for (int e = 0; e < 2 * net.roads; e++) {
        if (postOf(net, e) == post) {
          if (first < 0) {
            first = e;
          } else {
            nextRound[last] = e;
          }
          last = e;
        }
      }
      if (last < 0) {
        return false;
      }
      nextRound[last] = first;
      return true;
    }

    private static int postOf(Net net, int end) {
      return (end & 1) == 0 ? net.starts[end >> 1] : net.ends[end >> 1];
    }

    /** The set of ends of the face that goes out from an end. */
    int orbit(int end) {
      int ends = 0;
      int e = end;
      for (int i = 0; i < 2 * MOST_ROADS && (ends >> e & 1) == 0; i++) {
        ends |= 1 << e;
        e = nextRound[e ^ 1];
      }
      return ends;
    }

    int orbits(Net net) {
      int seen = 0;
      int sum = bare;
      for (int e = 0; e < 2 * net.roads; e++) {
        if ((seen >> e & 1) == 0) {
          seen |= orbit(e);
          sum++;
        }
      }
      return sum;
    }
  }
}
