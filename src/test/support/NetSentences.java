import java.util.function.ToLongFunction;

/** Promises 1 to 10: the net. */
final class NetSentences extends Bench {
  static void run() {
    newObject();
    anew();
    post();
    road();
    length();
    turn();
    take();
    meltedRoad();
    meltedPosts();
    of();
    undoOfEachAct();
    undoOfNoOther();
    undoCounts();
    undoKeeps();
  }

  private static void newObject() {
    says(1, "No posts;");
    RoundFlows x = new RoundFlows();
    dueOfEach(0, x.told(0), x.told(1), x.told(3), x.count(0), x.faces(), x.off());
    dueOfEach(BEYOND, x.excess(0), x.road(0, 0), x.of(0, 0));
    due(x.post(), 0);

    says(1, "whole numbers;");
    x = new RoundFlows();
    due(x.told(2), 0);
    due(x.group(2), 0);

    says(1, "slots empty,");
    x = new RoundFlows();
    for (int i = 0; i < 4; i++) {
      dueOfEach(NONE, x.bring(i), x.add(i), x.as(i, 0));
    }

    says(1, "sheets MISSING.");
    x = netOf(2);
    for (int i = 0; i < 4; i++) {
      dueOfEach(MISSING, x.put(i, 0, 0), x.copy(i, 0, i, 0, 0), x.lay(i));
    }
    // A used object leaves nothing behind for the next one.
    numbers(four(), 1, 2, 3).keep(0);
    dueOfEach(0, new RoundFlows().told(0), new RoundFlows().told(1));
    due(new RoundFlows().as(0, 0), NONE);
  }

  private static void anew() {
    says(2, "A new net without posts;");
    RoundFlows x = numbers(four(), 5, 6, 7);
    x.length(0, 9);
    x.anew();
    dueOfEach(0, x.told(0), x.told(1));
    dueOfEach(BEYOND, x.of(0, 0), x.excess(0), x.road(0, 0), x.take(0));
    due(x.post(), 0);
    due(x.road(0, 0), 0);
    due(story(x), "1 posts, group 0, 0>0 x1 =0");

    says(2, "group 0:");
    x = four();
    x.group(5);
    x.anew();
    due(x.told(2), 0);

    says(2, "how many roads the one before had.");
    dueOfEach(6, four().anew());
    dueOfEach(10, loops(10).anew());
    dueOfEach(0, netOf(6).anew(), new RoundFlows().anew());
    x = four();
    x.anew();
    due(x.anew(), 0);
  }

  private static void post() {
    says(3, "A new post: its number.");
    RoundFlows x = new RoundFlows();
    for (int i = 0; i < 6; i++) {
      due(x.told(0), i);
      due(x.post(), i);
    }
    x = ring(4);
    x.melt(0);
    due(x.post(), 3);

    says(3, "FULL: there are 6.");
    x = netOf(5);
    due(x.post(), 5);
    dueOfEach(FULL, x.post(), x.post());
    due(x.told(0), 6);
    x.road(4, 5);
    x.melt(0);
    due(x.post(), 5);
    due(x.post(), FULL);
    x.anew();
    due(x.post(), 0);
  }

  private static void road() {
    says(4, "A new road from a post to a post: its number.");
    RoundFlows x = netOf(3);
    dueInTurn(row(x.road(0, 1), x.road(2, 2), x.road(2, 0), x.road(0, 1), x.road(1, 0)), 0, 1, 2, 3, 4);
    due(story(x), "3 posts, group 0, 0>1 x1 =0 2>2 x1 =0 2>0 x1 =0 0>1 x1 =0 1>0 x1 =0");
    x = numbers(loops(2), 3, 7);
    x.length(1, 4);
    x.take(1);
    due(x.road(0, 0), 1);
    dueInTurn(row(x.of(1, 2), x.of(1, 3)), 1, 0);

    says(4, "BEYOND: no such post (either).");
    x = netOf(2);
    dueOfEach(BEYOND, x.road(2, 0), x.road(0, 2), x.road(-1, 0), x.road(0, -1), x.road(2, 2));
    dueOfEach(BEYOND, x.road(LOW, 0), x.road(0, LOW), x.road(HIGH, 0), x.road(0, HIGH));
    due(x.told(1), 0);
    due(x.road(1, 1), 0);
    due(new RoundFlows().road(0, 0), BEYOND);
    x = loops(10);
    dueOfEach(BEYOND, x.road(1, 0), x.road(0, 1));

    says(4, "FULL: there are 10.");
    x = loops(9);
    due(x.road(0, 0), 9);
    dueOfEach(FULL, x.road(0, 0), x.road(0, 0));
    due(x.told(1), 10);
    x.take(3);
    due(x.road(0, 0), 9);
  }

  private static void length() {
    says(5, "A road's LENGTH becomes v: what it was.");
    RoundFlows x = beside(2);
    int before = 1;
    for (int v = 1; v <= 9; v++) {
      due(x.length(1, v), before);
      due(x.of(1, 2), v);
      before = v;
    }
    due(x.length(1, 1), 9);
    due(x.of(0, 2), 1);

    says(5, "BEYOND: no such road, or v.");
    x = beside(2);
    dueOfEach(BEYOND, x.length(2, 5), x.length(-1, 5), x.length(LOW, 5), x.length(HIGH, 5));
    dueOfEach(BEYOND, x.length(0, 0), x.length(0, 10), x.length(0, -1), x.length(0, LOW), x.length(0, HIGH));
    dueOfEach(1, x.of(0, 2), x.of(1, 2));
    due(loops(10).length(9, 9), 1);
    due(loops(10).length(10, 9), BEYOND);
  }

  private static void turn() {
    says(6, "A road points the other way;");
    RoundFlows x = netOf(3, 0, 2, 1, 1);
    x.turn(0);
    dueInTurn(row(x.of(0, 0), x.of(0, 1)), 2, 0);
    x.turn(1);
    dueInTurn(row(x.of(1, 0), x.of(1, 1)), 1, 1);
    x.turn(0);
    dueInTurn(row(x.of(0, 0), x.of(0, 1)), 0, 2);

    says(6, "its number becomes that times -1:");
    x = numbers(netOf(2, 0, 1, 1, 1, 0, 1), 100, -100, 7);
    x.turn(0);
    x.turn(1);
    dueInTurn(flowOf(x), -100, 100, 7);
    // What goes along it is the same still.
    dueInTurn(row(x.excess(0), x.excess(1)), -107, 107);

    says(6, "what it is then (whatever the group).");
    x = numbers(beside(2), 7);
    due(x.turn(0), -7);
    x.group(5);
    due(x.of(0, 3), 3);
    due(x.turn(0), 7);
    due(x.turn(0), -7);
    due(x.turn(1), 0);

    says(6, "BEYOND.");
    x = beside(2);
    dueOfEach(BEYOND, x.turn(2), x.turn(-1), x.turn(LOW), x.turn(HIGH), new RoundFlows().turn(0));
  }

  private static void take() {
    says(7, "A road is TAKEN;");
    RoundFlows x = netOf(2, 0, 1, 1, 1);
    x.take(1);
    due(story(x), "2 posts, group 0, 0>1 x1 =0");
    x.take(0);
    due(story(x), "2 posts, group 0,");

    says(7, "those behind it have numbers one less:");
    x = numbers(ring(3), 5, 6, 7);
    x.length(2, 8);
    x.take(1);
    due(story(x), "3 posts, group 0, 0>1 x1 =5 2>0 x8 =7");
    due(x.of(2, 0), BEYOND);
    x = numbers(loops(10), 1, 2, 3, 4, 5, 6, 7, 8, 9, 10);
    x.take(0);
    dueInTurn(flowOf(x), 2, 3, 4, 5, 6, 7, 8, 9, 10);

    says(7, "how many there are.");
    x = loops(10);
    for (int i = 9; i >= 0; i--) {
      due(x.take(i / 2), i);
    }

    says(7, "BEYOND.");
    x = beside(2);
    dueOfEach(BEYOND, x.take(2), x.take(-1), x.take(LOW), x.take(HIGH), new RoundFlows().take(0));
    x.take(0);
    due(x.take(1), BEYOND);
    x.take(0);
    due(x.take(0), BEYOND);
  }

  private static void meltedRoad() {
    says(8, "A road is MELTED;");
    RoundFlows x = numbers(netOf(3, 0, 1, 0, 1, 2, 2), 1, 2, 3);
    x.length(1, 6);
    x.melt(0);
    due(story(x), "2 posts, group 0, 0>0 x6 =2 1>1 x1 =3");

    says(8, "of its posts the lower one stays;");
    x = netOf(4, 1, 2, 2, 3, 3, 1, 0, 2);
    x.melt(0);
    due(story(x), "3 posts, group 0, 1>2 x1 =0 2>1 x1 =0 0>1 x1 =0");
    x = netOf(4, 2, 1, 2, 3, 3, 1, 0, 2);
    x.melt(0);
    due(story(x), "3 posts, group 0, 1>2 x1 =0 2>1 x1 =0 0>1 x1 =0");

    says(8, "BEYOND.");
    x = beside(2);
    dueOfEach(BEYOND, x.melt(2), x.melt(-1), x.melt(LOW), x.melt(HIGH), new RoundFlows().melt(0));

    says(8, "KIND: it is a LOOP.");
    x = netOf(2, 0, 0, 0, 1, 0, 1, 1, 1);
    dueOfEach(KIND, x.melt(0), x.melt(3));
    x.melt(1);
    dueOfEach(KIND, x.melt(0), x.melt(1), x.melt(2));
    due(x.told(1), 3);
  }

  private static void meltedPosts() {
    says(8, "roads behind it, posts behind the other one, have numbers one less:");
    RoundFlows x = numbers(netOf(6, 5, 0, 4, 1, 3, 5, 0, 3, 4, 4, 2, 2), 1, 2, 3, 4, 5, 6);
    x.length(5, 3);
    // Posts 1 and 4 become 1; 5 becomes 4, while 2 and 3 lie below 4.
    x.melt(1);
    due(story(x), "5 posts, group 0, 4>0 x1 =1 3>4 x1 =3 0>3 x1 =4 1>1 x1 =5 2>2 x3 =6");
    x = netOf(6, 0, 5, 1, 5, 2, 3);
    x.melt(0);
    due(story(x), "5 posts, group 0, 1>0 x1 =0 2>3 x1 =0");

    says(8, "how many posts there are.");
    x = ring(6);
    for (int i = 5; i >= 1; i--) {
      due(x.melt(0), i);
    }
    due(x.melt(0), KIND);
    due(x.told(0), 1);
  }

  private static void of() {
    says(9, "Of a road: 0 the post from which, 1 the one to which it points,");
    RoundFlows x = netOf(6, 2, 1, 5, 0, 4, 4);
    dueInTurn(row(x.of(0, 0), x.of(1, 0), x.of(2, 0)), 2, 5, 4);
    dueInTurn(row(x.of(0, 1), x.of(1, 1), x.of(2, 1)), 1, 0, 4);

    says(9, "2 its LENGTH,");
    x = beside(2);
    x.length(0, 3);
    dueInTurn(row(x.of(0, 2), x.of(1, 2)), 3, 1);

    says(9, "3 its number in THE FLOW (by the group).");
    x = numbers(beside(3), -8, 9, 0);
    dueInTurn(flowOf(x), -8, 9, 0);
    x.group(3);
    dueInTurn(flowOf(x), 1, 0, 0);
    x.group(12);
    dueInTurn(flowOf(x), 4, 9, 0);
    x = numbers(loops(2), -100, 100);
    x.group(7);
    dueInTurn(flowOf(x), 5, 2);

    says(9, "BEYOND: no such road, or another what.");
    x = beside(2);
    dueOfEach(BEYOND, x.of(2, 0), x.of(-1, 0), x.of(LOW, 3), x.of(HIGH, 3));
    dueOfEach(BEYOND, x.of(0, 4), x.of(0, -1), x.of(1, LOW), x.of(1, HIGH), new RoundFlows().of(0, 0));
  }

  /** A net on which each act that can be undone changes something. */
  private static RoundFlows readyForAll() {
    RoundFlows x = numbers(ring(3), 1, 1, 2);
    x.keep(0);
    numbers(x, 4, 5, 6);
    x.group(4);
    x.sheet(0, 8, 4);
    x.put(0, 1, 2);
    return x;
  }

  private static void undoOfEachAct() {
    says(10, "The latest anew(), road(), post(), length(), turn(), take(), melt(), lay(), group(), "
        + "set(), find(), add(), times() or bring() that was done is undone:");
    undone(3, RoundFlows::anew);
    undone(3, x -> x.road(1, 1));
    undone(3, RoundFlows::post);
    undone(1, x -> x.length(2, 9));
    undone(-6, x -> x.turn(2));
    undone(2, x -> x.take(0));
    undone(2, x -> x.melt(2));
    undone(2, x -> x.lay(0));
    undone(4, x -> x.group(7));
    undone(1, x -> x.set(1, 50));
    undone(3, x -> x.find(3));
    undone(1, x -> x.add(0));
    undone(1, x -> x.times(-3));
    undone(0, x -> x.bring(0));
  }

  private static void undone(long answer, ToLongFunction<RoundFlows> act) {
    RoundFlows x = readyForAll();
    String before = bareStory(x);
    due(act.applyAsLong(x), answer);
    due(bareStory(x).equals(before) ? 0 : 1, 1);
    due(x.undo(), 13);
    due(bareStory(x), before);
    due(x.undo(), 12);
    due(x.told(2), 0);
  }

  private static void undoOfNoOther() {
    says(10, "that was done is undone:");
    RoundFlows x = readyForAll();
    x.post();
    x.keep(1);
    x.sheet(1, 8, 2);
    x.put(1, 0, 1);
    x.copy(1, 0, 1, 1, 1);
    x.of(0, 0);
    x.excess(0);
    x.off();
    x.whole();
    x.sized(2);
    x.least();
    x.rounds(-1, true);
    x.flowPoly(0);
    x.colourPoly(0);
    x.worth(true, 1);
    x.bridges();
    x.even(0);
    x.fours();
    x.twice();
    x.walked(true);
    x.trees();
    x.count(0);
    x.faces();
    x.face(0, true);
    x.as(0, 0);
    x.told(0);
    // Refused: not done, so that there is nothing of them to undo.
    dueOfEach(BEYOND, x.road(9, 9), x.length(0, 0), x.turn(9), x.take(9), x.melt(9), x.lay(9));
    dueOfEach(BEYOND, x.group(1), x.set(0, 101), x.find(1), x.add(9), x.times(11), x.bring(9));
    due(x.told(0), 4);
    due(x.undo(), 13);
    due(x.told(0), 3);
    due(x.as(1, 1), 3);
    due(x.lay(1), 1);
    dueInTurn(row(x.of(3, 0), x.of(3, 1)), 1, 1);
    // What was undone is not kept: the next undo takes the act before.
    due(x.undo(), 13);
    due(x.undo(), 12);
    due(x.told(2), 0);
  }

  private static void undoCounts() {
    says(10, "how many more can be.");
    RoundFlows x = four();
    for (int i = 9; i >= 0; i--) {
      due(x.undo(), i);
    }
    dueOfEach(0, x.told(0), x.told(1));
    x.post();
    x.post();
    due(x.undo(), 1);
    x.post();
    x.post();
    due(x.undo(), 2);

    says(10, "NONE.");
    x = new RoundFlows();
    due(x.undo(), NONE);
    x.post();
    due(x.undo(), 0);
    dueOfEach(NONE, x.undo(), x.undo());
    due(x.told(0), 0);
    due(x.told(3), 3);
  }

  private static void undoKeeps() {
    says(10, "(The latest 25 are kept;");
    RoundFlows x = loops(1);
    for (int i = 1; i <= 23; i++) {
      x.set(0, i);
    }
    // 25 acts in all, each of which can be undone; one more, and the first post stays.
    for (int i = 24; i >= 0; i--) {
      due(x.undo(), i);
    }
    due(x.told(0), 0);
    x = loops(1);
    for (int i = 1; i <= 24; i++) {
      x.set(0, i);
    }
    for (int i = 24; i >= 0; i--) {
      due(x.undo(), i);
    }
    due(x.undo(), NONE);
    due(x.told(0), 1);
    x = loops(1);
    for (int i = 1; i <= 90; i++) {
      x.set(0, i);
    }
    for (int i = 0; i < 10; i++) {
      due(x.undo(), 24 - i);
      due(x.of(0, 3), 89 - i);
    }
    for (int i = 1; i <= 12; i++) {
      x.set(0, -i);
    }
    for (int i = 24; i >= 0; i--) {
      due(x.undo(), i);
    }
    due(x.undo(), NONE);
    due(x.of(0, 3), 67);

    says(10, "also such as changed nothing.)");
    x = loops(1);
    x.sheet(0, 8, 1);
    x.keep(0);
    x.length(0, 1);
    x.turn(0);
    x.lay(0);
    x.group(0);
    x.set(0, 0);
    x.add(0);
    x.times(1);
    x.bring(0);
    for (int i = 9; i >= 2; i--) {
      due(x.undo(), i);
      due(story(x), "1 posts, group 0, 0>0 x1 =0");
    }
    x = new RoundFlows();
    x.anew();
    x.find(2);
    due(x.undo(), 1);
    due(x.undo(), 0);
    due(x.undo(), NONE);
  }
}
