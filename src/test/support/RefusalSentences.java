import java.util.function.Supplier;
import java.util.function.ToLongFunction;

/** The document's first term: what findings are, in what order they are asked, what they change. */
final class RefusalSentences extends Bench {
  static void run() {
    findings();
    order();
    orderOfFlows();
    changesNothingWhenCrowded();
    changesNothingWithBridge();
    changesNothingByRests();
    changesNothingWhenNew();
  }

  private static void findings() {
    says(TERMS, "FINDINGS are answers below -999999: -1000001 BEYOND, -1000002 MISSING, -1000003 SIZE, "
        + "-1000004 KIND, -1000005 FULL, -1000006 NONE, -1000007 LONG, -1000008 OFF.");
    RoundFlows x = numbers(loops(10), 1);
    due(x.excess(1), -1000001);
    due(x.lay(0), -1000002);
    due(x.sheet(0, 8, -1), -1000003);
    due(x.melt(0), -1000004);
    due(x.road(0, 0), -1000005);
    due(x.bring(0), -1000006);
    due(x.sized(2), -1000007);
    due(numbers(beside(1), 1).rounds(-1, true), -1000008);
    due(x.worth(true, 13), -1000001);
    due(x.told(3), 8);
  }

  private static void order() {
    says(TERMS, "Each act tells its findings in the order in which they are asked;");
    RoundFlows x = loops(10);
    // road: BEYOND, FULL. sheet: BEYOND, SIZE. put: BEYOND, MISSING, BEYOND.
    dueOfEach(BEYOND, x.road(0, 1), x.road(1, 0), x.sheet(4, 8, -1), x.sheet(0, 9, -1), x.put(4, 99, 0));
    due(x.put(0, 99, 0), MISSING);
    // copy: BEYOND, MISSING, KIND, BEYOND.
    x.sheet(1, 8, 2);
    x.sheet(2, 16, 2);
    dueOfEach(BEYOND, x.copy(4, 0, 0, 0, 1), x.copy(0, 0, 4, 0, 1));
    dueOfEach(MISSING, x.copy(0, 0, 1, 0, 1), x.copy(1, 0, 0, 0, -1), x.copy(2, -1, 0, 0, 1));
    dueOfEach(KIND, x.copy(1, 0, 2, 0, 9), x.copy(2, -1, 1, 0, 1));
    // lay: BEYOND, MISSING, BEYOND, FULL.
    due(x.lay(1), FULL);
    x.put(1, 1, 1);
    due(x.lay(1), BEYOND);
    // find: BEYOND, NONE. sized: BEYOND, LONG. twice: NONE, LONG.
    dueOfEach(BEYOND, beside(1).find(1), beside(1).find(7), x.sized(1), x.sized(5));
    x = loops(9);
    x.post();
    x.road(0, 1);
    due(x.twice(), NONE);
    due(x.least(), NONE);
  }

  private static void orderOfFlows() {
    says(TERMS, "Each act tells its findings in the order in which they are asked;");
    // rounds: KIND, OFF, SIZE, NONE.
    RoundFlows x = numbers(ring(2), -1, -2);
    due(x.rounds(9, true), OFF);
    x.group(3);
    due(x.rounds(9, true), KIND);
    x.group(0);
    x.set(1, -1);
    due(x.rounds(9, true), SIZE);
    // bring: BEYOND, NONE, SIZE. add: and FULL. times: BEYOND, FULL. as: BEYOND, NONE, KIND.
    numbers(x, 100, 100);
    x.keep(0);
    due(x.add(0), FULL);
    x.road(0, 0);
    dueOfEach(SIZE, x.add(0), x.bring(0));
    dueOfEach(NONE, x.add(1), x.bring(1), x.as(1, 1), x.as(1, 3));
    dueOfEach(BEYOND, x.add(4), x.bring(4), x.as(4, 1), x.as(1, 4), x.as(0, 4), x.times(11));
  }

  /** The finding is told, is counted, and leaves all as in a second object that was not asked. */
  private static void refused(Supplier<RoundFlows> made, long finding, ToLongFunction<RoundFlows> act) {
    RoundFlows x = made.get();
    int before = x.told(3);
    due(act.applyAsLong(x), finding);
    due(x.told(3), before + 1);
    due(wholeStory(x), wholeStory(made.get()));
  }

  /** Net, flow, slots, sheets and what can be undone; the object is used up by it. */
  private static String wholeStory(RoundFlows x) {
    StringBuilder text = new StringBuilder(bareStory(x));
    for (int s = 0; s < 4; s++) {
      text.append("; slot ").append(x.as(s, 0)).append(x.as(s, 1)).append(x.as(s, 2)).append(x.as(s, 3));
      if (x.bring(s) >= 0) {
        text.append(" ").append(bareStory(x));
        x.undo();
      }
    }
    for (int i = 0; i < 30; i++) {
      text.append("; undo ").append(x.undo()).append(" ").append(story(x));
    }
    for (int s = 0; s < 4; s++) {
      text.append("; sheet ").append(sheetStory(x, s));
    }
    return text.toString();
  }

  /** A sheet's numbers as roads, its size by what can be put, its bits by what is left of these. */
  private static String sheetStory(RoundFlows x, int s) {
    String text = laid(x, s);
    int size = 0;
    for (int i = 0; i < 25; i++) {
      size += x.put(s, i, 257) == 0 ? 1 : 0;
    }
    text += " " + size + " " + laid(x, s);
    for (int i = 0; i < 25; i++) {
      x.put(s, i, 65537);
    }
    return text + " " + laid(x, s);
  }

  /** Ten roads on six posts: loops and three beside, with a flow that is OFF and at its limit. */
  private static RoundFlows crowded() {
    RoundFlows x = netOf(6);
    x.keep(1);
    x.sheet(3, 8, 20);
    x.put(3, 15, 1);
    x.put(3, 16, 1);
    x.put(3, 19, 1);
    x.lay(3);
    numbers(x, 100, -3, 0, 1);
    x.set(7, 50);
    x.group(2);
    x.keep(2);
    x.group(0);
    x.keep(0);
    x.length(4, 7);
    x.sheet(0, 8, 3);
    x.put(0, 0, 5);
    x.sheet(1, 16, 4);
    x.put(1, 2, 6);
    return x;
  }

  private static void changesNothing(Supplier<RoundFlows> made, Refusal... refusals) {
    says(TERMS, "an act that answers a finding changes nothing, but where told.");
    for (Refusal r : refusals) {
      refused(made, r.finding, r.act);
    }
  }

  private static final class Refusal {
    final long finding;
    final ToLongFunction<RoundFlows> act;

    Refusal(long finding, ToLongFunction<RoundFlows> act) {
      this.finding = finding;
      this.act = act;
    }
  }

  private static Refusal by(long finding, ToLongFunction<RoundFlows> act) {
    return new Refusal(finding, act);
  }

  private static void changesNothingWhenCrowded() {
    changesNothing(RefusalSentences::crowded,
        by(FULL, RoundFlows::post), by(FULL, x -> x.road(0, 1)), by(BEYOND, x -> x.road(6, 0)),
        by(BEYOND, x -> x.length(10, 2)), by(BEYOND, x -> x.length(0, 10)), by(BEYOND, x -> x.turn(10)),
        by(BEYOND, x -> x.take(10)), by(BEYOND, x -> x.melt(10)), by(KIND, x -> x.melt(0)),
        by(BEYOND, x -> x.of(0, 4)), by(BEYOND, x -> x.of(10, 0)), by(BEYOND, x -> x.sheet(4, 8, 1)),
        by(BEYOND, x -> x.sheet(0, 9, 1)), by(SIZE, x -> x.sheet(0, 8, -1)), by(BEYOND, x -> x.sheet(0, 8, 25)),
        by(SIZE, x -> x.sheet(0, 0, -1)), by(BEYOND, x -> x.sheet(0, 0, 25)), by(BEYOND, x -> x.put(4, 0, 1)),
        by(MISSING, x -> x.put(2, 0, 1)), by(BEYOND, x -> x.put(0, 3, 1)), by(BEYOND, x -> x.copy(0, 0, 4, 0, 1)),
        by(MISSING, x -> x.copy(0, 0, 2, 0, 1)), by(KIND, x -> x.copy(0, 0, 1, 0, 1)),
        by(BEYOND, x -> x.copy(0, 0, 3, 18, 3)), by(BEYOND, x -> x.copy(0, 1, 3, 0, 3)),
        by(BEYOND, x -> x.lay(4)), by(MISSING, x -> x.lay(2)), by(BEYOND, x -> x.lay(1)), by(FULL, x -> x.lay(0)),
        by(BEYOND, x -> x.group(1)), by(BEYOND, x -> x.set(0, 101)), by(BEYOND, x -> x.set(10, 1)),
        by(BEYOND, x -> x.excess(6)), by(BEYOND, x -> x.find(7)), by(NONE, x -> x.find(2)),
        by(BEYOND, x -> x.sized(5)), by(LONG, x -> x.sized(4)), by(OFF, x -> x.rounds(0, true)),
        by(BEYOND, x -> x.flowPoly(11)), by(BEYOND, x -> x.colourPoly(11)), by(BEYOND, x -> x.worth(true, 13)),
        by(NONE, x -> x.even(512)), by(LONG, RoundFlows::twice), by(BEYOND, x -> x.count(4)),
        by(BEYOND, x -> x.face(10, true)), by(BEYOND, x -> x.keep(4)), by(BEYOND, x -> x.bring(4)),
        by(NONE, x -> x.bring(3)), by(SIZE, x -> x.bring(1)), by(BEYOND, x -> x.add(4)), by(NONE, x -> x.add(3)),
        by(SIZE, x -> x.add(1)), by(FULL, x -> x.add(0)), by(BEYOND, x -> x.times(11)), by(FULL, x -> x.times(2)),
        by(BEYOND, x -> x.as(4, 0)), by(NONE, x -> x.as(3, 0)), by(KIND, x -> x.as(0, 3)),
        by(BEYOND, x -> x.told(4)));
  }

  /** No post is OFF, a number is below 0, and road 1 is a BRIDGE. */
  private static RoundFlows bridged() {
    RoundFlows x = numbers(netOf(2, 0, 0, 0, 1), -3);
    x.sheet(0, 8, 2);
    x.keep(3);
    return x;
  }

  private static void changesNothingWithBridge() {
    changesNothing(RefusalSentences::bridged,
        by(NONE, x -> x.find(6)), by(NONE, RoundFlows::least), by(NONE, RoundFlows::fours),
        by(NONE, RoundFlows::twice), by(SIZE, x -> x.rounds(-1, false)));
  }

  private static void changesNothingByRests() {
    Supplier<RoundFlows> made = () -> {
      RoundFlows x = numbers(beside(3), 7, 7, -14);
      x.group(5);
      x.keep(2);
      return x;
    };
    changesNothing(made,
        by(KIND, x -> x.rounds(-1, true)), by(NONE, x -> x.find(2)), by(BEYOND, x -> x.find(1)),
        by(BEYOND, x -> x.group(13)), by(FULL, x -> x.times(10)), by(BEYOND, x -> x.set(1, -101)),
        by(KIND, x -> x.as(2, 2)), by(NONE, x -> x.bring(0)));
  }

  private static void changesNothingWhenNew() {
    changesNothing(RoundFlows::new,
        by(NONE, RoundFlows::undo), by(BEYOND, x -> x.road(0, 0)), by(MISSING, x -> x.lay(0)),
        by(NONE, x -> x.rounds(0, true)), by(NONE, x -> x.even(1)), by(NONE, x -> x.as(0, 0)));
  }
}
