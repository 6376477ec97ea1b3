import java.util.ArrayDeque;
import java.util.ArrayList;
import java.util.Arrays;
import java.util.HashMap;
import java.util.List;
import java.util.Map;
import java.util.Random;

/** Long runs of calls, each answer against that of a plain second model that tries everything. */
public final class ModelTest {
  private static final int RUNS = 800;
  private static final int CALLS = 512;

  private static final String[] NAMES = {
    "anew", "post", "road", "length", "turn", "take", "melt", "of", "undo", "sheet", "put", "copy",
    "lay", "group", "set", "excess", "off", "whole", "find", "sized", "least", "rounds", "flowPoly",
    "colourPoly", "worth", "bridges", "even", "fours", "twice", "walked", "trees", "count", "faces",
    "face", "keep", "bring", "add", "times", "as", "told"
  };

  private static int wrong = 0;
  private static int asked = 0;

  private final Random random;
  private final Model model = new Model();
  private final RoundFlows real = new RoundFlows();
  private final List<String> told = new ArrayList<>();

  private ModelTest(long seed) {
    random = new Random(seed);
  }

  public static void main(String[] args) {
    for (int run = 0; run < RUNS && wrong == 0; run++) {
      new ModelTest(run).go(run % 4);
    }
    System.out.println(asked + " answers asked, " + wrong + " not as due");
    if (wrong != 0) {
      System.exit(1);
    }
  }

  /** Styles: 0 all calls alike, 1 large nets, 2 flows that are balanced, 3 small nets and undo. */
  private void go(int style) {
    if (style == 1 || style == 2) {
      largeNet();
    }
    for (int i = told.size(); i < CALLS && wrong == 0; i++) {
      if (style == 1 && random.nextInt(12) == 0) {
        change();
      } else if (style == 1) {
        String[] asks = {"find", "sized", "least", "flowPoly", "colourPoly", "worth", "bridges",
            "even", "fours", "twice", "walked", "trees", "count", "faces", "face", "whole", "keep"};
        ask(asks[random.nextInt(asks.length)]);
      } else if (style == 2) {
        flowCall();
      } else if (style == 3 && random.nextInt(4) == 0) {
        ask("undo");
      } else {
        ask(NAMES[random.nextInt(NAMES.length)]);
      }
    }
  }

  private void largeNet() {
    int posts = 1 + random.nextInt(6);
    for (int i = 0; i < posts; i++) {
      call("post", 0, 0, 0, 0, 0);
    }
    int roads = 4 + random.nextInt(7);
    boolean spread = random.nextBoolean();
    for (int i = 0; i < roads; i++) {
      int from = random.nextInt(posts);
      int to = spread ? (from + 1 + random.nextInt(Math.max(1, posts - 1))) % posts : random.nextInt(posts);
      call("road", from, to, 0, 0, 0);
      if (random.nextBoolean()) {
        call("length", i, 1 + random.nextInt(9), 0, 0, 0);
      }
    }
  }

  private void change() {
    String[] acts = {"road", "take", "turn", "melt", "post", "length", "undo", "road", "road", "post"};
    ask(acts[random.nextInt(acts.length)]);
    if (random.nextInt(12) == 0) {
      call("anew", 0, 0, 0, 0, 0);
      largeNet();
    }
  }

  /** Numbers sent round directed rounds keep a flow balanced, so that rounds() has work. */
  private void flowCall() {
    int pick = random.nextInt(10);
    if (pick < 3 && model.now.roads.size() > 0) {
      sendRound();
    } else if (pick < 6) {
      ask("rounds");
    } else {
      String[] asks = {"keep", "bring", "add", "times", "as", "off", "whole", "excess", "set",
          "group", "undo", "turn", "find", "take", "melt", "of", "set"};
      ask(asks[random.nextInt(asks.length)]);
    }
  }

  private void sendRound() {
    List<int[]> roads = model.now.roads;
    int first = random.nextInt(roads.size());
    List<Integer> walk = new ArrayList<>();
    walk.add(first);
    int at = roads.get(first)[1];
    for (int i = 0; i < 20 && at != roads.get(first)[0]; i++) {
      List<Integer> from = new ArrayList<>();
      for (int r = 0; r < roads.size(); r++) {
        if (roads.get(r)[0] == at) {
          from.add(r);
        }
      }
      if (from.isEmpty()) {
        return;
      }
      int r = from.get(random.nextInt(from.size()));
      walk.add(r);
      at = roads.get(r)[1];
    }
    if (at != roads.get(first)[0]) {
      return;
    }
    call("group", 0, 0, 0, 0, 0);
    int more = 1 + random.nextInt(5);
    for (int r : walk) {
      call("set", r, model.now.roads.get(r)[3] + more, 0, 0, 0);
    }
  }

  private void ask(String name) {
    int posts = model.now.posts;
    int roads = model.now.roads.size();
    int a = near(0, 4);
    int b = near(0, 4);
    int c = near(0, 4);
    int d = near(0, 4);
    int e = near(0, 8);
    switch (name) {
      case "road": a = near(0, posts); b = near(0, posts); break;
      case "length": a = near(0, roads); b = near(1, 10); break;
      case "turn": case "take": case "melt": case "face": a = near(0, roads); break;
      case "of": a = near(0, roads); break;
      case "sheet": b = new int[] {8, 8, 8, 16, 32, 0, 7, -8}[random.nextInt(8)]; c = near(0, 25); break;
      case "put": b = near(0, 24); c = value(); break;
      case "copy": b = near(0, 12); d = near(0, 12); e = near(0, 12); break;
      case "group": case "worth": a = near(-6, 14); break;
      case "set": a = near(0, roads); b = near(-100, 102); break;
      case "excess": a = near(0, posts); break;
      case "find": case "sized": a = near(2, 7); break;
      case "rounds": a = near(-1, 6); break;
      case "flowPoly": case "colourPoly": a = near(0, 11); break;
      case "even": a = near(-1, 1 + (1 << random.nextInt(11))); break;
      case "times": a = random.nextBoolean() ? near(-2, 4) : near(-10, 11); break;
      default: break;
    }
    call(name, a, b, c, d, e);
  }

  /** Mostly from low up to high, at times a little or far outside. */
  private int near(int low, int high) {
    int pick = random.nextInt(40);
    if (pick == 0) {
      return new int[] {Integer.MIN_VALUE, Integer.MAX_VALUE, -1, 1 << 30}[random.nextInt(4)];
    }
    return pick == 1 ? low - 1 : low + random.nextInt(Math.max(1, high - low + (pick == 2 ? 1 : 0)));
  }

  private int value() {
    int post = random.nextInt(7);
    switch (random.nextInt(5)) {
      case 0: return post + 256;
      case 1: return post - 65536;
      case 2: return random.nextInt();
      default: return post;
    }
  }

  private void call(String name, int a, int b, int c, int d, int e) {
    String text = name + "(" + a + ", " + b + ", " + c + ", " + d + ", " + e + ")";
    if (told.size() >= CALLS) {
      return;
    }
    long want = model.call(name, a, b, c, d, e);
    told.add(text + " " + want);
    long got = realCall(name, a, b, c, d, e);
    asked++;
    if (got != want) {
      wrong++;
      for (String line : told) {
        System.out.println(line);
      }
      System.out.println("the last one answered " + got + ", due is " + want);
    }
  }

  private long realCall(String name, int a, int b, int c, int d, int e) {
    boolean yes = (b & 1) != 0;
    switch (name) {
      case "anew": return real.anew();
      case "post": return real.post();
      case "road": return real.road(a, b);
      case "length": return real.length(a, b);
      case "turn": return real.turn(a);
      case "take": return real.take(a);
      case "melt": return real.melt(a);
      case "of": return real.of(a, b);
      case "undo": return real.undo();
      case "sheet": return real.sheet(a, b, c);
      case "put": return real.put(a, b, c);
      case "copy": return real.copy(a, b, c, d, e);
      case "lay": return real.lay(a);
      case "group": return real.group(a);
      case "set": return real.set(a, b);
      case "excess": return real.excess(a);
      case "off": return real.off();
      case "whole": return real.whole();
      case "find": return real.find(a);
      case "sized": return real.sized(a);
      case "least": return real.least();
      case "rounds": return real.rounds(a, yes);
      case "flowPoly": return real.flowPoly(a);
      case "colourPoly": return real.colourPoly(a);
      case "worth": return real.worth(yes, a);
      case "bridges": return real.bridges();
      case "even": return real.even(a);
      case "fours": return real.fours();
      case "twice": return real.twice();
      case "walked": return real.walked(yes);
      case "trees": return real.trees();
      case "count": return real.count(a);
      case "faces": return real.faces();
      case "face": return real.face(a, yes);
      case "keep": return real.keep(a);
      case "bring": return real.bring(a);
      case "add": return real.add(a);
      case "times": return real.times(a);
      case "as": return real.as(a, b);
      case "told": return real.told(a);
      default: throw new IllegalStateException(name);
    }
  }
}

/** The document again, with lists and by trying all: roads are rows of from, to, length, number. */
final class Model {
  static final class State {
    int posts = 0;
    int group = 0;
    List<int[]> roads = new ArrayList<>();

    State copied() {
      State s = new State();
      s.posts = posts;
      s.group = group;
      for (int[] road : roads) {
        s.roads.add(road.clone());
      }
      return s;
    }
  }

  private static final int BEYOND = -1000001;
  private static final int MISSING = -1000002;
  private static final int SIZE = -1000003;
  private static final int KIND = -1000004;
  private static final int FULL = -1000005;
  private static final int NONE = -1000006;
  private static final int LONG = -1000007;
  private static final int OFF = -1000008;
  /** A surplus is at most 50 either way, so that posts' surpluses can stand in one number. */
  private static final long[] PLACES = {1L, 1000L, 1000000L, 1000000000L, 1000000000000L, 1000000000000000L};

  State now = new State();
  private final ArrayDeque<State> past = new ArrayDeque<>();
  private final State[] slots = new State[4];
  private final int[] slotKinds = new int[4];
  private final int[][] sheets = new int[4][];
  private final int[] sheetBits = new int[4];
  private int findings = 0;
  private boolean isFinding = false;

  long call(String name, int a, int b, int c, int d, int e) {
    State before = now.copied();
    isFinding = false;
    int told = findings;
    long answer = answer(name, a, b, c, d, e);
    if (isFinding) {
      findings = told + 1;
      now = before;
    } else if (Arrays.asList("anew", "road", "post", "length", "turn", "take", "melt", "lay", "group",
        "set", "find", "add", "times", "bring").contains(name)) {
      past.addLast(before);
      if (past.size() > 25) {
        past.removeFirst();
      }
    }
    return answer;
  }

  private int found(int finding) {
    isFinding = true;
    return finding;
  }

  private boolean isRoad(int r) {
    return 0 <= r && r < now.roads.size();
  }

  private boolean isPost(int p) {
    return 0 <= p && p < now.posts;
  }

  private int rest(int v) {
    return now.group == 0 ? v : (v % now.group + now.group) % now.group;
  }

  private long answer(String name, int a, int b, int c, int d, int e) {
    switch (name) {
      case "anew": {
        int had = now.roads.size();
        now = new State();
        return had;
      }
      case "post":
        return now.posts == 6 ? found(FULL) : now.posts++;
      case "road":
        if (!isPost(a) || !isPost(b)) {
          return found(BEYOND);
        }
        if (now.roads.size() == 10) {
          return found(FULL);
        }
        now.roads.add(new int[] {a, b, 1, 0});
        return now.roads.size() - 1;
      case "length": {
        if (!isRoad(a) || b < 1 || b > 9) {
          return found(BEYOND);
        }
        int was = now.roads.get(a)[2];
        now.roads.get(a)[2] = b;
        return was;
      }
      case "turn": {
        if (!isRoad(a)) {
          return found(BEYOND);
        }
        int[] road = now.roads.get(a);
        now.roads.set(a, new int[] {road[1], road[0], road[2], -road[3]});
        return -road[3];
      }
      case "take":
        if (!isRoad(a)) {
          return found(BEYOND);
        }
        now.roads.remove(a);
        return now.roads.size();
      case "melt":
        return melt(a);
      case "of":
        if (!isRoad(a) || b < 0 || b > 3) {
          return found(BEYOND);
        }
        return b == 3 ? rest(now.roads.get(a)[3]) : now.roads.get(a)[b];
      case "undo":
        if (past.isEmpty()) {
          return found(NONE);
        }
        now = past.removeLast();
        return past.size();
      case "sheet": case "put": case "copy": case "lay":
        return sheetAnswer(name, a, b, c, d, e);
      case "keep": case "bring": case "add": case "times": case "as": case "told":
        return slotAnswer(name, a, b);
      case "group": case "set": case "excess": case "off": case "whole": case "find": case "sized":
      case "least": case "rounds":
        return flowAnswer(name, a, b);
      default:
        return netAnswer(name, a, (b & 1) != 0);
    }
  }

  private int melt(int r) {
    if (!isRoad(r)) {
      return found(BEYOND);
    }
    int[] gone = now.roads.get(r);
    if (gone[0] == gone[1]) {
      return found(KIND);
    }
    now.roads.remove(r);
    List<int[]> next = contracted(now.roads, gone);
    now.roads = next;
    now.posts--;
    return now.posts;
  }

  private static List<int[]> contracted(List<int[]> roads, int[] gone) {
    List<Integer> names = new ArrayList<>();
    for (int p = 0; p < 6; p++) {
      names.add(p);
    }
    int low = Math.min(gone[0], gone[1]);
    int high = Math.max(gone[0], gone[1]);
    names.remove(high);
    List<int[]> next = new ArrayList<>();
    for (int[] road : roads) {
      int from = names.indexOf(road[0] == high ? low : road[0]);
      int to = names.indexOf(road[1] == high ? low : road[1]);
      next.add(new int[] {from, to, road[2], road[3]});
    }
    return next;
  }

  private int sheetAnswer(String name, int a, int b, int c, int d, int e) {
    if (a < 0 || a > 3 || (name.equals("copy") && (c < 0 || c > 3))) {
      return found(BEYOND);
    }
    if (name.equals("sheet")) {
      if (b != 0 && b != 8 && b != 16 && b != 32) {
        return found(BEYOND);
      }
      if (c < 0 || c > 24) {
        return found(c < 0 ? SIZE : BEYOND);
      }
      sheets[a] = b == 0 ? null : new int[c];
      sheetBits[a] = b;
      return b == 0 ? 0 : c;
    }
    if (sheets[a] == null || (name.equals("copy") && sheets[c] == null)) {
      return found(MISSING);
    }
    if (name.equals("put")) {
      if (b < 0 || b >= sheets[a].length) {
        return found(BEYOND);
      }
      sheets[a][b] = sheetBits[a] == 32 ? c : c & ((1 << sheetBits[a]) - 1);
      return 0;
    }
    if (name.equals("copy")) {
      if (sheetBits[a] != sheetBits[c]) {
        return found(KIND);
      }
      if (b < 0 || d < 0 || e < 0 || (long) b + e > sheets[a].length || (long) d + e > sheets[c].length) {
        return found(BEYOND);
      }
      int[] part = Arrays.copyOfRange(sheets[a], b, b + e);
      for (int i = 0; i < e; i++) {
        sheets[c][d + i] = part[i];
      }
      return e;
    }
    List<int[]> laid = new ArrayList<>();
    for (int i = 0; i + 1 < sheets[a].length; i += 2) {
      if (!isPost(sheets[a][i]) || !isPost(sheets[a][i + 1])) {
        return found(BEYOND);
      }
      laid.add(new int[] {sheets[a][i], sheets[a][i + 1], 1, 0});
    }
    if (laid.size() + now.roads.size() > 10) {
      return found(FULL);
    }
    now.roads.addAll(laid);
    return laid.size();
  }

  private int slotAnswer(String name, int a, int b) {
    if (name.equals("told")) {
      int[] things = {now.posts, now.roads.size(), now.group, findings};
      return a < 0 || a > 3 ? found(BEYOND) : things[a];
    }
    if (name.equals("times")) {
      if (Math.abs((long) a) > 10) {
        return found(BEYOND);
      }
      for (int[] road : now.roads) {
        road[3] *= a;
        if (Math.abs(road[3]) > 100) {
          return found(FULL);
        }
      }
      return 1;
    }
    if (a < 0 || a > 3 || (name.equals("as") && (b < 0 || b > 3))) {
      return found(BEYOND);
    }
    if (name.equals("keep")) {
      slots[a] = now.copied();
      slotKinds[a] = now.group == 2 ? 2 : now.group != 0 ? 1 : isWhole() ? 3 : 0;
      return slotKinds[a];
    }
    if (slots[a] == null) {
      return found(NONE);
    }
    if (name.equals("as")) {
      String[] under = {"0", "01", "012", "03"};
      return under[slotKinds[a]].contains("" + b) ? slots[a].roads.size() : found(KIND);
    }
    if (slots[a].roads.size() != now.roads.size()) {
      return found(SIZE);
    }
    for (int i = 0; i < now.roads.size(); i++) {
      int kept = slots[a].roads.get(i)[3];
      now.roads.get(i)[3] = name.equals("add") ? now.roads.get(i)[3] + kept : kept;
      if (Math.abs(now.roads.get(i)[3]) > 100) {
        return found(FULL);
      }
    }
    if (name.equals("add")) {
      return 1;
    }
    now.group = slots[a].group;
    return slotKinds[a];
  }

  private int excess(int post) {
    int sum = 0;
    for (int[] road : now.roads) {
      sum += (road[1] == post ? rest(road[3]) : 0) - (road[0] == post ? rest(road[3]) : 0);
    }
    return rest(sum);
  }

  private int off() {
    int many = 0;
    for (int p = 0; p < now.posts; p++) {
      many += excess(p) != 0 ? 1 : 0;
    }
    return many;
  }

  private boolean isWhole() {
    for (int[] road : now.roads) {
      if (rest(road[3]) == 0) {
        return false;
      }
    }
    return off() == 0;
  }

  private int flowAnswer(String name, int a, int b) {
    switch (name) {
      case "group": {
        if (a != 0 && (a < 2 || a > 12)) {
          return found(BEYOND);
        }
        int was = now.group;
        now.group = a;
        return was;
      }
      case "set": {
        if (!isRoad(a) || b < -100 || b > 100) {
          return found(BEYOND);
        }
        int was = rest(now.roads.get(a)[3]);
        now.roads.get(a)[3] = b;
        return was;
      }
      case "excess":
        return isPost(a) ? excess(a) : found(BEYOND);
      case "off":
        return off();
      case "whole":
        return isWhole() ? 1 : 0;
      case "find": {
        if (a < 2 || a > 6) {
          return found(BEYOND);
        }
        int[] values = new int[now.roads.size()];
        if (nowheres(a, values, true) == 0) {
          return found(NONE);
        }
        for (int i = 0; i < values.length; i++) {
          now.roads.get(i)[3] = values[i];
        }
        now.group = 0;
        return a;
      }
      case "sized":
        if (a < 2 || a > 4) {
          return found(BEYOND);
        }
        return genus() > 6 ? found(LONG) : nowheres(a, new int[now.roads.size()], false);
      case "least":
        if (now.roads.isEmpty()) {
          return 1;
        }
        if (bridges() != 0) {
          return found(NONE);
        }
        for (int k = 2; ; k++) {
          if (nowheres(k, new int[now.roads.size()], true) != 0) {
            return k;
          }
        }
      default:
        return rounds(a, (b & 1) != 0);
    }
  }

  /** Tries all numbers on the first half of the roads, and looks up those behind that level them. */
  private int nowheres(int k, int[] values, boolean first) {
    int cut = values.length / 2;
    Map<Long, Integer> many = new HashMap<>();
    Map<Long, Integer> lowest = new HashMap<>();
    for (int n = 0; n < choices(k, values.length - cut); n++) {
      long surplus = tryNumbers(k, values, cut, values.length, n);
      many.merge(surplus, 1, Integer::sum);
      lowest.putIfAbsent(surplus, n);
    }
    int ways = 0;
    for (int n = 0; n < choices(k, cut); n++) {
      long surplus = tryNumbers(k, values, 0, cut, n);
      ways += many.getOrDefault(-surplus, 0);
      if (first && ways != 0) {
        tryNumbers(k, values, cut, values.length, lowest.get(-surplus));
        return 1;
      }
    }
    return ways;
  }

  private static int choices(int k, int roads) {
    return roads == 0 ? 1 : (2 * k - 2) * choices(k, roads - 1);
  }

  /** Puts the n-th numbers on some roads, in the order of the document: the surpluses they make. */
  private long tryNumbers(int k, int[] values, int from, int to, int n) {
    long surplus = 0;
    int left = n;
    for (int i = to - 1; i >= from; i--) {
      int nth = left % (2 * k - 2);
      left /= 2 * k - 2;
      values[i] = nth % 2 == 0 ? nth / 2 + 1 : -(nth / 2 + 1);
      surplus += values[i] * (PLACES[now.roads.get(i)[1]] - PLACES[now.roads.get(i)[0]]);
    }
    return surplus;
  }

  private int rounds(int i, boolean number) {
    if (now.group != 0) {
      return found(KIND);
    }
    if (off() != 0) {
      return found(OFF);
    }
    for (int[] road : now.roads) {
      if (road[3] < 0) {
        return found(SIZE);
      }
    }
    State left = now.copied();
    List<int[]> parts = new ArrayList<>();
    while (true) {
      List<Integer> walk = new ArrayList<>();
      List<Integer> met = new ArrayList<>();
      int at = -1;
      while (at < 0 || !met.contains(at)) {
        if (at >= 0) {
          met.add(at);
        }
        int next = -1;
        for (int r = left.roads.size() - 1; r >= 0; r--) {
          if (left.roads.get(r)[3] > 0 && (at < 0 || left.roads.get(r)[0] == at)) {
            next = r;
          }
        }
        if (next < 0) {
          break;
        }
        if (at < 0) {
          met.add(left.roads.get(next)[0]);
        }
        walk.add(next);
        at = left.roads.get(next)[1];
      }
      if (walk.isEmpty()) {
        break;
      }
      List<Integer> round = walk.subList(met.indexOf(at), walk.size());
      int least = 1000;
      int bits = 0;
      for (int r : round) {
        least = Math.min(least, left.roads.get(r)[3]);
        bits |= 1 << r;
      }
      for (int r : round) {
        left.roads.get(r)[3] -= least;
      }
      parts.add(new int[] {bits, least});
    }
    if (i == -1) {
      return parts.size();
    }
    return i < 0 || i >= parts.size() ? found(NONE) : parts.get(i)[number ? 1 : 0];
  }

  private int pieces(int set) {
    int[] piece = new int[now.posts];
    int many = 0;
    for (int p = 0; p < now.posts; p++) {
      if (piece[p] == 0) {
        many++;
        spread(p, many, piece, set);
      }
    }
    return many;
  }

  private void spread(int p, int name, int[] piece, int set) {
    if (piece[p] != 0) {
      return;
    }
    piece[p] = name;
    for (int i = 0; i < now.roads.size(); i++) {
      int[] road = now.roads.get(i);
      if ((set >> i & 1) != 0 && (road[0] == p || road[1] == p)) {
        spread(road[0] == p ? road[1] : road[0], name, piece, set);
      }
    }
  }

  private int all() {
    return (1 << now.roads.size()) - 1;
  }

  private int genus() {
    return now.roads.size() - now.posts + pieces(all());
  }

  private int bridges() {
    int set = 0;
    for (int i = 0; i < now.roads.size(); i++) {
      if (pieces(all() & ~(1 << i)) > pieces(all())) {
        set |= 1 << i;
      }
    }
    return set;
  }

  private boolean sameEnds(int set, int other) {
    for (int p = 0; p < now.posts; p++) {
      if ((endsAt(p, set) + endsAt(p, other)) % 2 != 0) {
        return false;
      }
    }
    return true;
  }

  private int endsAt(int p, int set) {
    int ends = 0;
    for (int i = 0; i < now.roads.size(); i++) {
      if ((set >> i & 1) != 0) {
        ends += (now.roads.get(i)[0] == p ? 1 : 0) + (now.roads.get(i)[1] == p ? 1 : 0);
      }
    }
    return ends;
  }

  private List<Integer> evens() {
    List<Integer> sets = new ArrayList<>();
    for (int set = 0; set <= all(); set++) {
      if (sameEnds(set, 0)) {
        sets.add(set);
      }
    }
    return sets;
  }

  private boolean doubled(List<Integer> evens, int from, int left, int[] times) {
    if (left == 0) {
      for (int t : times) {
        if (t != 2) {
          return false;
        }
      }
      return true;
    }
    for (int i = from; i < evens.size(); i++) {
      step(evens.get(i), times, 1);
      boolean yes = doubled(evens, i, left - 1, times);
      step(evens.get(i), times, -1);
      if (yes) {
        return true;
      }
    }
    return false;
  }

  private static void step(int set, int[] times, int by) {
    for (int i = 0; i < times.length; i++) {
      times[i] += (set >> i & 1) * by;
    }
  }

  private long netAnswer(String name, int a, boolean yes) {
    switch (name) {
      case "flowPoly":
        return a < 0 || a > 10 ? found(BEYOND) : flows(now.roads)[a];
      case "colourPoly":
        return a < 0 || a > 10 ? found(BEYOND) : colours(now.posts, now.roads)[a];
      case "worth": {
        if (a < -6 || a > 12) {
          return found(BEYOND);
        }
        long[] poly = yes ? colours(now.posts, now.roads) : flows(now.roads);
        long sum = 0;
        long power = 1;
        for (long term : poly) {
          sum += term * power;
          power *= a;
        }
        return sum;
      }
      case "bridges":
        return bridges();
      case "even": {
        List<Integer> evens = evens();
        return a == -1 ? evens.size() : a < 0 || a >= evens.size() ? found(NONE) : evens.get(a);
      }
      case "fours": {
        List<Integer> evens = evens();
        for (int x : evens) {
          for (int y : evens) {
            if (x <= y && (x | y) == all()) {
              return 2048 * x + y;
            }
          }
        }
        return found(NONE);
      }
      case "twice":
        if (bridges() != 0) {
          return found(NONE);
        }
        if (genus() > 4) {
          return found(LONG);
        }
        for (int k = 0; ; k++) {
          if (doubled(evens(), 0, k, new int[now.roads.size()])) {
            return k;
          }
        }
      case "walked":
        return walked(yes);
      case "trees": {
        int many = 0;
        for (int set = 0; set <= all(); set++) {
          boolean spans = pieces(set) == pieces(all());
          many += spans && Integer.bitCount(set) == now.posts - pieces(set) ? 1 : 0;
        }
        return many;
      }
      case "count":
        return a < 0 || a > 3 ? found(BEYOND) : a == 0 ? pieces(all()) : a == 1 ? genus() : pointed(a == 2);
      default:
        return faces(name, a, yes);
    }
  }

  private int walked(boolean yes) {
    int least = Integer.MAX_VALUE;
    int best = 0;
    for (int set = 0; set <= all(); set++) {
      int sum = 0;
      for (int i = 0; i < now.roads.size(); i++) {
        sum += (set >> i & 1) * now.roads.get(i)[2];
      }
      if (sameEnds(set, all()) && sum < least) {
        least = sum;
        best = set;
      }
    }
    return yes ? best : least;
  }

  /** A road taken or melted: all but a LOOP. */
  private static long[] flows(List<int[]> roads) {
    long[] poly = new long[11];
    if (roads.isEmpty()) {
      poly[0] = 1;
      return poly;
    }
    List<int[]> rest = new ArrayList<>(roads);
    int[] road = rest.remove(roads.size() - 1);
    long[] taken = flows(rest);
    if (road[0] == road[1]) {
      for (int i = 0; i < 11; i++) {
        poly[i] = (i > 0 ? taken[i - 1] : 0) - taken[i];
      }
      return poly;
    }
    long[] melted = flows(contracted(rest, road));
    for (int i = 0; i < 11; i++) {
      poly[i] = melted[i] - taken[i];
    }
    return poly;
  }

  private static long[] colours(int posts, List<int[]> roads) {
    long[] poly = new long[11];
    if (roads.isEmpty()) {
      poly[posts] = 1;
      return poly;
    }
    List<int[]> rest = new ArrayList<>(roads);
    int[] road = rest.remove(roads.size() - 1);
    if (road[0] == road[1]) {
      return poly;
    }
    long[] taken = colours(posts, rest);
    long[] melted = colours(posts - 1, contracted(rest, road));
    for (int i = 0; i < 11; i++) {
      poly[i] = taken[i] - melted[i];
    }
    return poly;
  }

  /** Ways to point roads so that each (or none) can be come back from. */
  private int pointed(boolean each) {
    int many = 0;
    for (int turned = 0; turned <= all(); turned++) {
      boolean[][] reach = new boolean[6][6];
      for (int p = 0; p < 6; p++) {
        reach[p][p] = true;
      }
      for (int i = 0; i < now.roads.size(); i++) {
        reach[start(i, turned)][start(i, ~turned)] = true;
      }
      for (int m = 0; m < 6; m++) {
        for (int p = 0; p < 6; p++) {
          for (int q = 0; q < 6; q++) {
            reach[p][q] |= reach[p][m] && reach[m][q];
          }
        }
      }
      boolean fits = true;
      for (int i = 0; i < now.roads.size(); i++) {
        fits &= reach[start(i, ~turned)][start(i, turned)] == each;
      }
      many += fits ? 1 : 0;
    }
    return many;
  }

  private int start(int road, int turned) {
    return now.roads.get(road)[turned >> road & 1];
  }

  private int faces(String name, int a, boolean yes) {
    if (name.equals("face") && !isRoad(a)) {
      return found(BEYOND);
    }
    List<List<Integer>> round = new ArrayList<>();
    for (int p = 0; p < now.posts; p++) {
      round.add(new ArrayList<>());
    }
    for (int i = 0; i < now.roads.size(); i++) {
      round.get(now.roads.get(i)[0]).add(i);
      round.get(now.roads.get(i)[1]).add(i + 100);
    }
    if (name.equals("face")) {
      return faceFrom(yes ? a + 100 : a, round).size();
    }
    List<Integer> seen = new ArrayList<>();
    int many = 0;
    for (List<Integer> ends : round) {
      many += ends.isEmpty() ? 1 : 0;
      for (int end : ends) {
        if (!seen.contains(end)) {
          many++;
          seen.addAll(faceFrom(end, round));
        }
      }
    }
    return many;
  }

  private List<Integer> faceFrom(int end, List<List<Integer>> round) {
    List<Integer> face = new ArrayList<>();
    int at = end;
    do {
      face.add(at);
      int other = at < 100 ? at + 100 : at - 100;
      for (List<Integer> ends : round) {
        int place = ends.indexOf(other);
        if (place >= 0) {
          at = ends.get((place + 1) % ends.size());
        }
      }
    } while (at != end);
    return face;
  }
}
