/** Promises 15 to 23: the flow. */
final class FlowSentences extends Bench {
  static void run() {
    group();
    set();
    excess();
    off();
    whole();
    find();
    findRefused();
    sized();
    least();
    rounds();
    roundsAsked();
    roundsRefused();
  }

  private static void group() {
    says(15, "The group becomes whole numbers (0) or rests modulo m: what it was.");
    RoundFlows x = numbers(loops(1), -5);
    int before = 0;
    for (int m = 2; m <= 12; m++) {
      due(x.group(m), before);
      due(x.told(2), m);
      due(x.of(0, 3), Math.floorMod(-5, m));
      before = m;
    }
    due(x.group(12), 12);
    due(x.group(0), 12);
    due(x.group(0), 0);
    due(x.told(2), 0);

    says(15, "(Numbers of THE FLOW stay.)");
    x = numbers(loops(3), -100, 100, 6);
    x.group(2);
    x.group(12);
    x.group(0);
    dueInTurn(flowOf(x), -100, 100, 6);

    says(15, "BEYOND: m is not 0, 2 to 12.");
    x = new RoundFlows();
    x.group(3);
    dueOfEach(BEYOND, x.group(1), x.group(13), x.group(-1), x.group(-2), x.group(LOW), x.group(HIGH));
    due(x.told(2), 3);
    dueOfEach(3, x.group(2));
    dueOfEach(2, x.group(12));
  }

  private static void set() {
    says(16, "A road's number becomes v: what it was (by the group).");
    RoundFlows x = beside(2);
    dueInTurn(row(x.set(1, 100), x.set(1, -100), x.set(1, 0), x.set(1, -1)), 0, 100, -100, 0);
    dueInTurn(flowOf(x), 0, -1);
    x.group(7);
    dueInTurn(row(x.set(1, 10), x.set(1, -10), x.set(1, 14), x.set(1, 2)), 6, 3, 4, 0);
    x.set(1, 100);
    x.group(0);
    due(x.of(1, 3), 100);

    says(16, "BEYOND: no such road, or v.");
    x = beside(2);
    dueOfEach(BEYOND, x.set(2, 1), x.set(-1, 1), x.set(LOW, 1), x.set(HIGH, 1), new RoundFlows().set(0, 0));
    dueOfEach(BEYOND, x.set(0, 101), x.set(0, -101), x.set(0, LOW), x.set(0, HIGH));
    dueInTurn(flowOf(x), 0, 0);
    // Also where the rest would be a small one.
    x.group(2);
    due(x.set(0, 102), BEYOND);
  }

  private static void excess() {
    says(17, "What comes into a post less what goes out (by the group).");
    RoundFlows x = numbers(netOf(3, 0, 1, 0, 1, 1, 1, 1, 0), 4, 3, 50, 1);
    dueInTurn(row(x.excess(0), x.excess(1), x.excess(2)), -6, 6, 0);
    x.group(5);
    dueInTurn(row(x.excess(0), x.excess(1), x.excess(2)), 4, 1, 0);
    x.group(6);
    dueInTurn(row(x.excess(0), x.excess(1), x.excess(2)), 0, 0, 0);
    // Ten roads, all with the largest number.
    x = numbers(beside(10), 100, 100, 100, 100, 100, 100, 100, 100, 100, 100);
    dueInTurn(row(x.excess(0), x.excess(1)), -1000, 1000);
    x.group(12);
    dueInTurn(row(x.excess(0), x.excess(1)), 8, 4);

    says(17, "BEYOND.");
    x = netOf(2);
    dueOfEach(BEYOND, x.excess(2), x.excess(-1), x.excess(LOW), x.excess(HIGH), new RoundFlows().excess(0));
    dueOfEach(0, x.excess(0), x.excess(1), netOf(6).excess(5));
  }

  private static void off() {
    says(18, "How many posts are OFF.");
    dueOfEach(0, new RoundFlows().off(), netOf(6).off(), four().off(), numbers(loops(2), 3, -9).off());
    RoundFlows x = numbers(netOf(5, 0, 1, 1, 2, 2, 2), 6, 3, 1);
    due(x.off(), 3);
    x.group(3);
    due(x.off(), 0);
    x.group(6);
    due(x.off(), 2);
    x.group(4);
    due(x.off(), 3);
    x = numbers(netOf(6, 0, 1, 2, 3, 4, 5), 1, 2, 3);
    due(x.off(), 6);
    x.group(2);
    due(x.off(), 4);
  }

  private static void whole() {
    says(19, "Whether THE FLOW is WHOLE: 1, 0.");
    dueOfEach(1, new RoundFlows().whole(), netOf(6).whole());
    RoundFlows x = ring(2);
    due(x.whole(), 0);
    due(numbers(x, 2, 2).whole(), 1);
    due(numbers(x, -100, -100).whole(), 1);
    due(numbers(x, 2, 3).whole(), 0);
    due(numbers(x, 2, -1).whole(), 0);
    x.group(3);
    due(x.whole(), 1);
    x.group(2);
    due(x.whole(), 0);
    due(numbers(x, 3, 3).whole(), 1);
    x.group(3);
    due(x.whole(), 0);
    // One nought alone is enough, though no post is OFF.
    due(numbers(netOf(2, 0, 1, 1, 0, 1, 1), 1, 1, 0).whole(), 0);
    due(numbers(netOf(2, 0, 1, 1, 0, 1, 1), 1, 1, 1).whole(), 1);
  }

  private static void found(RoundFlows x, int k, long... flow) {
    due(x.find(k), k);
    dueInTurn(flowOf(x), flow);
    due(x.whole(), 1);
  }

  private static void find() {
    says(20, "THE FLOW becomes the first NOWHERE of size k: roads by numbers, of each 1 ahead of -1, 2, -2, 3 .. : k.");
    // 1 on road 1 would leave 0 for road 5; -1 leaves it 2, and road 2 can have 1.
    found(four(), 4, 1, -1, 1, 3, 2, 2);
    found(beside(3), 3, 1, 1, -2);
    found(beside(4), 2, 1, 1, -1, -1);
    found(beside(4), 3, 1, 1, -1, -1);
    found(beside(4), 4, 1, 1, 1, -3);
    found(beside(5), 3, 1, 1, 1, -1, -2);
    found(beside(5), 4, 1, 1, 1, -1, -2);
    found(beside(5), 5, 1, 1, 1, 1, -4);
    found(beside(6), 5, 1, 1, 1, 1, -1, -3);
    found(beside(6), 6, 1, 1, 1, 1, 1, -5);
    found(loops(10), 6, 1, 1, 1, 1, 1, 1, 1, 1, 1, 1);
    found(netOf(2, 1, 1, 0, 1, 0, 1), 2, 1, 1, -1);
    for (int k = 2; k <= 6; k++) {
      found(netOf(3), k);
      found(new RoundFlows(), k);
      found(ring(6), k, 1, 1, 1, 1, 1, 1);
    }
    // What was there before does not matter, nor what was asked before.
    found(numbers(beside(3), 9, -9, 100), 3, 1, 1, -2);
    RoundFlows y = beside(1);
    dueInTurn(row(y.bridges(), y.find(2)), 1, NONE);
    y.road(0, 1);
    found(y, 2, 1, -1);
    y.road(0, 1);
    found(y, 4, 1, 1, -2);
    y.take(0);
    y.take(0);
    due(y.find(6), NONE);

    says(20, "(The group is 0 then.)");
    RoundFlows x = beside(3);
    x.group(6);
    x.find(3);
    due(x.told(2), 0);
    dueInTurn(flowOf(x), 1, 1, -2);
    x = netOf(2);
    x.group(3);
    x.find(2);
    due(x.told(2), 0);
  }

  private static void findRefused() {
    says(20, "BEYOND: k is not 2 to 6.");
    RoundFlows x = four();
    dueOfEach(BEYOND, x.find(1), x.find(7), x.find(0), x.find(-2), x.find(LOW), x.find(HIGH));
    dueOfEach(BEYOND, new RoundFlows().find(1), beside(1).find(7));
    due(x.find(6), 6);
    due(ring(2).find(2), 2);

    says(20, "NONE: there is none.");
    x = numbers(four(), 1, 2, 3, 4, 5, 6);
    x.group(9);
    dueOfEach(NONE, x.find(2), x.find(3));
    due(x.told(2), 9);
    dueInTurn(flowOf(x), 1, 2, 3, 4, 5, 6);
    dueOfEach(NONE, beside(3).find(2), prism().find(3), beside(9).find(2));
    for (int k = 2; k <= 6; k++) {
      dueOfEach(NONE, beside(1).find(k), netOf(3, 0, 0, 0, 1, 1, 2, 1, 2).find(k));
    }
  }

  private static void sized() {
    says(21, "How many NOWHERES of size k there are.");
    dueInTurn(row(four().sized(2), four().sized(3), four().sized(4)), 0, 0, 24);
    dueInTurn(row(ring(6).sized(2), ring(6).sized(3), ring(6).sized(4)), 2, 4, 6);
    dueInTurn(row(netOf(2).sized(2), netOf(2).sized(3), new RoundFlows().sized(4)), 1, 1, 1);
    dueInTurn(row(beside(1).sized(2), beside(1).sized(3), netOf(3, 0, 0, 0, 1).sized(4)), 0, 0, 0);
    dueInTurn(row(beside(3).sized(2), beside(3).sized(3), beside(3).sized(4)), 0, 6, 18);
    // Two of 1, -1, 2, -2 make 0 in 4 ways, 1, -1, 3, -3 in 2 each, 2, -2, 4, -4 in 1 each.
    dueInTurn(row(beside(4).sized(2), beside(4).sized(3)), 6, 4 * 4 + 4 * 2 * 2 + 4);
    // Three of 1, -1, 2, -2, 3, -3 make 0, 1, .. 9 in so many ways, and as many the same below 0.
    long ways = 0;
    for (int n : new int[] {21, 21, 19, 12, 9, 7, 6, 3, 1}) {
      ways += 2 * n * n;
    }
    due(beside(6).sized(4), 18 * 18 + ways);
    // How the roads point does not matter.
    due(netOf(2, 0, 1, 1, 0, 0, 1).sized(4), 18);
    RoundFlows x = four();
    x.sized(4);
    dueInTurn(flowOf(x), 0, 0, 0, 0, 0, 0);

    says(21, "BEYOND: k is not 2 to 4.");
    x = four();
    dueOfEach(BEYOND, x.sized(1), x.sized(5), x.sized(0), x.sized(-3), x.sized(LOW), x.sized(HIGH));
    dueOfEach(BEYOND, loops(7).sized(1), loops(10).sized(5), new RoundFlows().sized(5));

    says(21, "LONG: GENUS is above 6.");
    dueInTurn(row(loops(6).sized(2), loops(6).sized(3), loops(6).sized(4)), 64, 4096, 46656);
    dueOfEach(LONG, loops(7).sized(2), loops(7).sized(3), loops(7).sized(4), loops(10).sized(2));
    dueInTurn(row(beside(7).sized(2), beside(8).sized(2), beside(10).sized(4)), 0, LONG, LONG);
    // A net of two pieces, and one with a BRIDGE: GENUS alone is asked.
    due(netOf(2, 0, 0, 0, 0, 0, 0, 1, 1, 1, 1, 1, 1).sized(2), 64);
    due(netOf(2, 0, 0, 0, 0, 0, 0, 0, 0, 1, 1, 1, 1, 1, 1).sized(2), LONG);
    due(netOf(2, 0, 1, 0, 0, 0, 0, 0, 0, 0, 0, 0, 0, 0, 0).sized(3), 0);
    due(netOf(2, 0, 1, 0, 0, 0, 0, 0, 0, 0, 0, 0, 0, 0, 0, 0, 0).sized(3), LONG);
    due(five().sized(2), 24);
  }

  private static void least() {
    says(22, "The least k for which there is a NOWHERE of size k");
    dueOfEach(2, loops(1).least(), ring(6).least(), five().least(), beside(10).least());
    dueOfEach(3, beside(3).least(), beside(9).least(), netOf(4, 0, 1, 1, 2, 2, 3, 3, 0, 0, 2).least());
    dueOfEach(4, four().least(), prism().least());
    // Two pieces: the one that needs more tells.
    due(netOf(6, 0, 1, 1, 2, 2, 3, 3, 0, 0, 2, 1, 3, 4, 5, 5, 4).least(), 4);
    RoundFlows x = numbers(four(), 7);
    x.group(5);
    x.least();
    due(x.told(2), 5);
    due(x.of(0, 3), 2);

    says(22, "(1 of a net without roads).");
    dueOfEach(1, netOf(6).least(), new RoundFlows().least());
    x = loops(1);
    x.take(0);
    due(x.least(), 1);

    says(22, "NONE: there is a BRIDGE.");
    dueOfEach(NONE, beside(1).least(), netOf(3, 0, 1, 1, 0, 1, 2).least(), netOf(2, 0, 1, 0, 0, 1, 1).least());
    x = four();
    x.post();
    x.road(4, 0);
    due(x.least(), NONE);
    x.road(4, 0);
    due(x.least(), 4);
  }

  /** All rounds: each one's set, then its number. */
  private static void parted(RoundFlows x, long... setsAndNumbers) {
    int many = setsAndNumbers.length / 2;
    dueOfEach(many, x.rounds(-1, false), x.rounds(-1, true));
    for (int i = 0; i < many; i++) {
      due(x.rounds(i, false), setsAndNumbers[2 * i]);
      due(x.rounds(i, true), setsAndNumbers[2 * i + 1]);
    }
    dueOfEach(NONE, x.rounds(many, false), x.rounds(many, true));
  }

  private static void rounds() {
    says(23, "Into how many ROUNDS THE FLOW is parted, that are pointed along it, each with the number that goes round it:");
    parted(numbers(ring(6), 7, 7, 7, 7, 7, 7), 63, 7);
    parted(numbers(netOf(4, 0, 1, 1, 0, 2, 3, 3, 2), 1, 1, 100, 100), 3, 1, 12, 100);
    parted(new RoundFlows());
    parted(four());

    says(23, "again and again from the lowest road whose number (less what was taken) is above 0,");
    parted(numbers(loops(3), 0, 4, 5), 2, 4, 4, 5);
    parted(numbers(netOf(3, 0, 1, 1, 2, 2, 0, 1, 0), 5, 2, 2, 3), 7, 2, 9, 3);
    RoundFlows ten = loops(10);
    for (int i = 0; i < 10; i++) {
      ten.set(i, 100 - i);
    }
    parted(ten, 1, 100, 2, 99, 4, 98, 8, 97, 16, 96, 32, 95, 64, 94, 128, 93, 256, 92, 512, 91);

    says(23, "on along the lowest such road from the post at hand,");
    // From post 1 road 1 goes ahead of road 2, from post 0 road 0 ahead of road 3.
    parted(numbers(netOf(3, 0, 1, 1, 2, 1, 0, 2, 0), 3, 1, 2, 1), 11, 1, 5, 2);
    // Road 1 has no number, so that road 2 is the lowest such one.
    parted(numbers(netOf(3, 0, 1, 1, 2, 1, 0, 2, 0), 2, 0, 2, 0), 5, 2);
    // Ten roads of which most have none; then one of them is taken.
    RoundFlows x = beside(10);
    x.turn(8);
    x.turn(9);
    x.set(4, 6);
    x.set(9, 6);
    parted(x, 16 + 512, 6);
    x.take(0);
    parted(x, 8 + 256, 6);
    x.take(8);
    due(x.rounds(-1, true), OFF);
    x.set(3, 0);
    parted(x);

    says(23, "till a post comes again: the roads from there on are one,");
    // 0 > 1 > 2 > 1 comes to 1 again: the round is that of 1 and 2 alone.
    parted(numbers(netOf(3, 0, 1, 1, 2, 2, 1, 2, 0), 2, 5, 3, 2), 6, 3, 11, 2);
    // A LOOP on the way comes to its post at once.
    parted(numbers(netOf(2, 0, 1, 1, 1, 1, 0), 2, 3, 2), 2, 3, 5, 2);
    // A round that closes on the start is taken whole, even with six posts.
    parted(numbers(netOf(6, 5, 0, 0, 1, 1, 2, 2, 3, 3, 4, 4, 5), 1, 1, 1, 1, 1, 1), 63, 1);

    says(23, "with the least of their numbers, which is taken from them.");
    parted(numbers(netOf(2, 0, 1, 1, 0, 1, 0, 1, 0), 100, 20, 30, 50), 3, 20, 5, 30, 9, 50);
    x = numbers(netOf(2, 0, 1, 1, 0, 0, 1), 1, 4, 3);
    parted(x, 3, 1, 6, 3);
    dueInTurn(flowOf(x), 1, 4, 3);
  }

  private static void roundsAsked() {
    says(23, "i from 0 on: the set of the i-th one's roads; its number;");
    RoundFlows x = numbers(netOf(3, 0, 1, 1, 2, 2, 0, 1, 0), 5, 2, 2, 3);
    dueInTurn(row(x.rounds(0, false), x.rounds(1, false)), 7, 9);
    dueInTurn(row(x.rounds(0, true), x.rounds(1, true)), 2, 3);

    says(23, "i = -1: how many (of both).");
    dueOfEach(2, x.rounds(-1, false), x.rounds(-1, true));
    dueOfEach(0, four().rounds(-1, false), new RoundFlows().rounds(-1, true));
  }

  private static void roundsRefused() {
    says(23, "KIND: the group is not 0.");
    RoundFlows x = numbers(ring(2), 2, 2);
    x.group(2);
    dueOfEach(KIND, x.rounds(-1, false), x.rounds(0, true), x.rounds(9, true));
    // Asked ahead of OFF and SIZE.
    numbers(x, 3, -2);
    due(x.rounds(-1, false), KIND);
    x = new RoundFlows();
    x.group(12);
    due(x.rounds(-1, false), KIND);

    says(23, "OFF: a post is.");
    x = numbers(ring(3), 2, 2, 1);
    dueOfEach(OFF, x.rounds(-1, false), x.rounds(0, true), x.rounds(9, false));
    // Asked ahead of SIZE.
    numbers(x, 2, 2, -1);
    dueOfEach(OFF, x.rounds(-1, true), numbers(beside(1), -1).rounds(0, true));

    says(23, "SIZE: a number is below 0.");
    x = numbers(ring(3), -1, -1, -1);
    // Asked ahead of NONE.
    dueOfEach(SIZE, x.rounds(-1, false), x.rounds(0, true), x.rounds(9, false), x.rounds(-2, false));
    dueOfEach(SIZE, numbers(loops(2), 4, -1).rounds(-1, true), numbers(beside(2), 1, -1).rounds(-1, true));

    says(23, "NONE: there is no i-th one.");
    x = numbers(ring(3), 1, 1, 1);
    due(x.rounds(0, true), 1);
    dueOfEach(NONE, x.rounds(1, true), x.rounds(1, false), x.rounds(-2, true), x.rounds(LOW, true), x.rounds(HIGH, false));
    dueOfEach(NONE, four().rounds(0, false), new RoundFlows().rounds(0, true));
  }
}
