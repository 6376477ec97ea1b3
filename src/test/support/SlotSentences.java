/** Promises 36 to 41: slots. */
final class SlotSentences extends Bench {
  static void run() {
    keep();
    bring();
    bringRefused();
    add();
    addRefused();
    times();
    as();
    told();
  }

  private static void keep() {
    says(36, "THE FLOW is kept in a slot: its KIND.");
    RoundFlows x = ring(2);
    due(x.keep(0), 0);
    numbers(x, 3, 3);
    due(x.keep(0), 3);
    x.group(3);
    due(x.keep(0), 1);
    x.group(2);
    due(x.keep(0), 2);
    x.group(12);
    due(x.keep(0), 1);
    // By rests it is RESTS or BITS, be it WHOLE or not.
    numbers(x, 1, 2);
    due(x.keep(0), 1);
    x.group(2);
    due(x.keep(0), 2);
    x.group(0);
    due(x.keep(0), 0);
    dueOfEach(3, netOf(6).keep(0), new RoundFlows().keep(3));
    // Each slot holds its own, and a slot's flow is not that of the net any more.
    x = ring(2);
    for (int i = 0; i < 4; i++) {
      numbers(x, i, -i);
      x.keep(i);
    }
    for (int i = 3; i >= 0; i--) {
      x.bring(i);
      dueInTurn(flowOf(x), i, -i);
    }
    x.keep(2);
    x.set(0, 50);
    x.bring(2);
    dueInTurn(flowOf(x), 0, 0);

    says(36, "BEYOND.");
    x = ring(2);
    dueOfEach(BEYOND, x.keep(4), x.keep(-1), x.keep(LOW), x.keep(HIGH));
    due(x.keep(3), 0);
  }

  private static void bring() {
    says(37, "THE FLOW is that of a slot (group, too): its KIND.");
    RoundFlows x = numbers(ring(2), 7, -7);
    x.group(5);
    x.keep(1);
    x.group(0);
    numbers(x, 1, 1);
    x.keep(2);
    due(x.bring(1), 1);
    due(x.told(2), 5);
    dueInTurn(flowOf(x), 2, 3);
    x.group(0);
    dueInTurn(flowOf(x), 7, -7);
    x.group(9);
    due(x.bring(2), 3);
    due(x.told(2), 0);
    dueInTurn(flowOf(x), 1, 1);
    x.group(2);
    x.keep(0);
    due(x.bring(0), 2);
    // It is of the KIND with which it was kept, though on this net a post is OFF now.
    x.turn(0);
    due(x.bring(2), 3);
    due(x.off(), 2);
    // Another net with as many roads is as good; lengths and pointing stay.
    x.anew();
    x.post();
    x.road(0, 0);
    x.road(0, 0);
    x.length(1, 4);
    due(x.bring(1), 1);
    due(story(x), "1 posts, group 5, 0>0 x1 =2 0>0 x4 =3");
  }

  private static void bringRefused() {
    says(37, "BEYOND.");
    RoundFlows x = ring(2);
    dueOfEach(BEYOND, x.bring(4), x.bring(-1), x.bring(LOW), x.bring(HIGH));

    says(37, "NONE: it has none.");
    x.keep(1);
    dueOfEach(NONE, x.bring(0), x.bring(2), x.bring(3));
    due(x.bring(1), 0);

    says(37, "SIZE: it is of another number of roads.");
    x = ring(2);
    x.keep(1);
    x.road(0, 0);
    due(x.bring(1), SIZE);
    x.take(0);
    due(x.bring(1), 0);
    x.take(0);
    due(x.bring(1), SIZE);
    x = new RoundFlows();
    x.keep(0);
    due(x.bring(0), 3);
    x.post();
    due(x.bring(0), 3);
    x.road(0, 0);
    due(x.bring(0), SIZE);
  }

  private static void add() {
    says(38, "A slot's numbers are added to THE FLOW's");
    RoundFlows x = numbers(ring(3), 3, -4, 0);
    x.keep(0);
    numbers(x, 10, 20, 30);
    x.add(0);
    dueInTurn(flowOf(x), 13, 16, 30);
    x.add(0);
    dueInTurn(flowOf(x), 16, 12, 30);
    x.bring(0);
    dueInTurn(flowOf(x), 3, -4, 0);

    says(38, "(whole numbers as they are, whatever the group): 1.");
    x = numbers(ring(2), 3, 4);
    x.group(7);
    x.keep(1);
    x.group(3);
    numbers(x, 6, 6);
    due(x.add(1), 1);
    due(x.told(2), 3);
    dueInTurn(flowOf(x), 0, 1);
    x.group(0);
    dueInTurn(flowOf(x), 9, 10);
    x = new RoundFlows();
    x.keep(0);
    due(x.add(0), 1);
    // Of ten roads, all of them.
    x = numbers(loops(10), 1, 2, 3, 4, 5, 6, 7, 8, 9, 10);
    x.keep(3);
    due(x.add(3), 1);
    dueInTurn(flowOf(x), 2, 4, 6, 8, 10, 12, 14, 16, 18, 20);
    due(x.bring(3), 3);
    dueInTurn(flowOf(x), 1, 2, 3, 4, 5, 6, 7, 8, 9, 10);
  }

  private static void addRefused() {
    says(38, "BEYOND: no such slot.");
    RoundFlows x = ring(2);
    dueOfEach(BEYOND, x.add(4), x.add(-1), x.add(LOW), x.add(HIGH));

    says(38, "NONE: it has none.");
    x.keep(1);
    dueOfEach(NONE, x.add(0), x.add(2), x.add(3));

    says(38, "SIZE: as of bring().");
    x = numbers(ring(2), 100, 100);
    x.keep(1);
    // Asked ahead of FULL.
    x.road(0, 0);
    due(x.add(1), SIZE);
    x.take(2);
    due(x.add(1), FULL);
    x.take(1);
    due(x.add(1), SIZE);

    says(38, "FULL: a number would be below -100 or above 100.");
    x = numbers(ring(2), 60, -40);
    x.keep(0);
    numbers(x, 41, 0);
    due(x.add(0), FULL);
    dueInTurn(flowOf(x), 41, 0);
    numbers(x, 0, -61);
    due(x.add(0), FULL);
    dueInTurn(flowOf(x), 0, -61);
    numbers(x, 40, -60);
    due(x.add(0), 1);
    dueInTurn(flowOf(x), 100, -100);
    // By whole numbers, though the rests are small.
    x.group(2);
    due(x.add(0), FULL);
    // The last of ten roads as well as the first; a road that was taken counts no more.
    x = loops(10);
    x.set(9, 51);
    x.keep(0);
    due(x.add(0), FULL);
    x.take(9);
    x.keep(0);
    due(x.add(0), 1);
  }

  private static void times() {
    says(39, "THE FLOW's numbers are taken times c: 1.");
    RoundFlows x = numbers(ring(3), 10, -10, 3);
    due(x.times(-2), 1);
    dueInTurn(flowOf(x), -20, 20, -6);
    due(x.times(1), 1);
    due(x.times(-5), 1);
    dueInTurn(flowOf(x), 100, -100, 30);
    due(x.times(0), 1);
    dueInTurn(flowOf(x), 0, 0, 0);
    x = numbers(ring(2), 4, 4);
    x.group(3);
    due(x.times(-10), 1);
    dueInTurn(flowOf(x), 2, 2);
    x.group(0);
    dueInTurn(flowOf(x), -40, -40);
    dueOfEach(1, netOf(1).times(10), new RoundFlows().times(-10));
    x = numbers(loops(10), 1, 2, 3, 4, 5, 6, 7, 8, 9, 10);
    due(x.times(-10), 1);
    dueInTurn(flowOf(x), -10, -20, -30, -40, -50, -60, -70, -80, -90, -100);

    says(39, "BEYOND: c is not -10 to 10.");
    x = numbers(ring(2), 10, -10);
    dueOfEach(BEYOND, x.times(11), x.times(-11), x.times(LOW), x.times(HIGH), new RoundFlows().times(11));
    dueInTurn(flowOf(x), 10, -10);
    due(x.times(-10), 1);
    dueInTurn(flowOf(x), -100, 100);
    due(numbers(ring(1), 10).times(10), 1);
    // Asked ahead of FULL.
    due(x.times(11), BEYOND);

    says(39, "FULL: as of add().");
    x = numbers(ring(3), 1, 51, -50);
    due(x.times(2), FULL);
    due(x.times(-2), FULL);
    dueInTurn(flowOf(x), 1, 51, -50);
    x.set(1, 50);
    due(x.times(2), 1);
    dueInTurn(flowOf(x), 2, 100, -100);
    x.group(2);
    due(x.times(-3), FULL);
    due(x.times(-1), 1);
    due(numbers(ring(1), -100).times(10), FULL);
    x = numbers(loops(10), 1, 2, 3, 4, 5, 6, 7, 8, 9, 51);
    due(x.times(2), FULL);
    dueInTurn(flowOf(x), 1, 2, 3, 4, 5, 6, 7, 8, 9, 51);
    x.take(9);
    due(x.times(2), 1);
    dueInTurn(flowOf(x), 2, 4, 6, 8, 10, 12, 14, 16, 18);
  }

  /** Slots 0 to 3 hold flows of KINDS 0 to 3, each of two roads. */
  private static RoundFlows oneOfEach() {
    RoundFlows x = ring(2);
    x.keep(0);
    numbers(x, 1, 1);
    x.keep(3);
    x.group(9);
    x.keep(1);
    x.group(2);
    x.keep(2);
    return x;
  }

  private static void as() {
    says(40, "A slot's flow as one of a KIND: how many roads it has.");
    RoundFlows x = oneOfEach();
    dueOfEach(2, x.as(0, 0), x.as(1, 0), x.as(2, 0), x.as(3, 0), x.as(1, 1), x.as(2, 1), x.as(2, 2), x.as(3, 3));
    // It is the slot's flow that is asked, not that of the net now.
    x.take(0);
    dueOfEach(2, x.as(0, 0), x.as(3, 3));
    x = new RoundFlows();
    x.keep(1);
    due(x.as(1, 3), 0);
    x = loops(10);
    x.keep(1);
    due(x.as(1, 0), 10);

    says(40, "BEYOND: no such slot, or kind is not 0 to 3.");
    x = oneOfEach();
    dueOfEach(BEYOND, x.as(4, 0), x.as(-1, 0), x.as(LOW, 0), x.as(HIGH, 0));
    dueOfEach(BEYOND, x.as(0, 4), x.as(0, -1), x.as(0, LOW), x.as(0, HIGH));
    // Asked ahead of NONE.
    dueOfEach(BEYOND, new RoundFlows().as(0, 4), new RoundFlows().as(0, -1));

    says(40, "NONE: it has none.");
    x = new RoundFlows();
    for (int kind = 0; kind < 4; kind++) {
      dueOfEach(NONE, x.as(0, kind), x.as(3, kind));
    }

    says(40, "KIND: it is not of that kind, nor of one under it.");
    x = oneOfEach();
    dueOfEach(KIND, x.as(0, 1), x.as(0, 2), x.as(0, 3));
    dueOfEach(KIND, x.as(1, 2), x.as(1, 3));
    dueOfEach(KIND, x.as(2, 3));
    dueOfEach(KIND, x.as(3, 1), x.as(3, 2));
  }

  private static void told() {
    says(41, "0 posts, 1 roads, 2 the group,");
    RoundFlows x = netOf(3, 0, 1);
    dueInTurn(row(x.told(0), x.told(1), x.told(2)), 3, 1, 0);
    x.group(8);
    x.road(0, 0);
    x.melt(0);
    dueInTurn(row(x.told(0), x.told(1), x.told(2)), 2, 1, 8);
    x.undo();
    dueInTurn(row(x.told(0), x.told(1), x.told(2)), 3, 2, 8);
    dueInTurn(row(netOf(6).told(0), loops(10).told(1)), 6, 10);

    says(41, "3 how many acts answered a finding ever");
    x = new RoundFlows();
    due(x.told(3), 0);
    dueInTurn(row(x.undo(), x.road(0, 0), x.lay(0), x.worth(true, 13)), NONE, BEYOND, MISSING, BEYOND);
    due(x.told(3), 4);
    due(x.told(3), 4);
    // Neither undo() nor anew() takes them back, and answers below 0 are none.
    x.post();
    x.road(0, 0);
    x.set(0, -3);
    x.set(0, 0);
    x.undo();
    x.anew();
    due(x.told(3), 4);
    for (int i = 0; i < 400; i++) {
      x.told(-1);
    }
    due(x.told(3), 404);

    says(41, "(this one, too, if it does).");
    x = new RoundFlows();
    x.told(4);
    due(x.told(3), 1);
    x.told(-1);
    due(x.told(3), 2);

    says(41, "BEYOND: another what.");
    x = new RoundFlows();
    dueOfEach(BEYOND, x.told(4), x.told(-1), x.told(LOW), x.told(HIGH));
  }
}
