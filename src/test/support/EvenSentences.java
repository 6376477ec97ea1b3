/** Promises 27 to 33: even sets, bridges, trees. */
final class EvenSentences extends Bench {
  static void run() {
    bridges();
    even();
    fours();
    twice();
    walked();
    trees();
    count();
    waysToPoint();
    askedAgain();
  }

  private static void bridges() {
    says(27, "The set of all BRIDGES.");
    dueOfEach(0, new RoundFlows().bridges(), netOf(6).bridges(), four().bridges(), loops(10).bridges());
    dueOfEach(0, beside(2).bridges(), ring(6).bridges());
    due(netOf(6, 0, 1, 2, 1, 2, 3, 4, 3, 4, 5).bridges(), 31);
    due(netOf(2, 0, 0, 0, 1, 1, 1).bridges(), 2);
    due(netOf(3, 0, 1, 1, 2, 1, 0).bridges(), 2);
    due(netOf(6, 0, 1, 1, 2, 2, 3, 3, 4, 4, 5, 5, 3, 2, 0).bridges(), 4);
    due(netOf(4, 0, 1, 2, 3).bridges(), 3);
    due(netOf(2, 0, 0, 0, 0, 0, 0, 0, 0, 0, 0, 0, 0, 0, 0, 0, 0, 0, 0, 1, 0).bridges(), 512);
  }

  private static void even() {
    says(28, "The i-th (from 0) EVEN set, by its bits as a number;");
    RoundFlows x = netOf(3, 0, 1, 1, 2, 2, 0, 0, 1, 2, 2);
    int[] sets = {0, 7, 9, 14, 16, 23, 25, 30};
    for (int i = 0; i < sets.length; i++) {
      due(x.even(i), sets[i]);
    }
    // As roads are numbered otherwise, the order is by the sets' numbers still.
    x = netOf(3, 2, 2, 0, 1, 0, 1, 2, 0, 1, 2);
    int[] others = {0, 1, 6, 7, 26, 27, 28, 29};
    for (int i = 0; i < others.length; i++) {
      due(x.even(i), others[i]);
    }
    for (int i = 0; i < 1024; i += 31) {
      due(loops(10).even(i), i);
    }
    dueOfEach(0, netOf(2).even(0), beside(1).even(0), new RoundFlows().even(0));
    due(ring(6).even(1), 63);
    // Road 0 leads away from the round of 1, 2 and 3, though it is there first.
    dueInTurn(row(netOf(4, 2, 3, 0, 1, 1, 3, 3, 0).even(1), netOf(4, 2, 3, 0, 1, 1, 3, 3, 0).bridges()), 14, 1);

    says(28, "i = -1: how many there are.");
    dueInTurn(row(four().even(-1), five().even(-1), loops(10).even(-1), beside(10).even(-1)), 8, 64, 1024, 512);
    dueOfEach(1, netOf(6).even(-1), new RoundFlows().even(-1), beside(1).even(-1));

    says(28, "NONE.");
    x = four();
    due(x.even(7) > 0 ? 1 : 0, 1);
    dueOfEach(NONE, x.even(8), x.even(-2), x.even(LOW), x.even(HIGH));
    dueOfEach(NONE, netOf(2).even(1), new RoundFlows().even(1), loops(10).even(1024));
    due(loops(10).even(1023), 1023);
  }

  private static void fours() {
    says(29, "The first two EVEN sets (a, not above b, by numbers: a first) that together have all roads: 2048 a and b.");
    // EVEN sets of four posts: 0, 15, 19, 28, 38, 41, 53, 58; 15 lacks 48, which 53 has, 58 too.
    due(four().fours(), 2048 * 15 + 53);
    due(beside(3).fours(), 2048 * 3 + 5);
    dueInTurn(row(loops(1).fours(), loops(2).fours(), loops(10).fours()), 1, 3, 1023);
    dueInTurn(row(five().fours(), ring(6).fours()), 1023, 63);
    // Five beside: 3 and one of the others with roads 2, 3, 4 and just one of 0, 1.
    due(beside(5).fours(), 2048 * 3 + 29);
    dueOfEach(0, new RoundFlows().fours(), netOf(6).fours());

    says(29, "NONE: there are none.");
    dueOfEach(NONE, beside(1).fours(), netOf(3, 0, 1, 1, 0, 1, 2).fours(), netOf(2, 0, 0, 0, 1, 1, 1).fours());
    RoundFlows x = beside(1);
    x.fours();
    due(x.told(3), 1);
  }

  private static void twice() {
    says(30, "The fewest EVEN sets (the same one more than once, too) of which each road is in just two.");
    dueOfEach(2, loops(1).twice(), loops(4).twice(), ring(6).twice(), beside(4).twice());
    dueOfEach(3, four().twice(), prism().twice(), beside(3).twice(), beside(5).twice());
    dueOfEach(0, new RoundFlows().twice(), netOf(6).twice());

    says(30, "NONE: there is a BRIDGE.");
    dueOfEach(NONE, beside(1).twice(), netOf(3, 0, 1, 1, 0, 1, 2).twice());
    // Asked ahead of LONG.
    due(netOf(2, 0, 1, 0, 0, 0, 0, 0, 0, 0, 0, 0, 0).twice(), NONE);

    says(30, "LONG: GENUS is above 4.");
    dueInTurn(row(loops(4).twice(), loops(5).twice(), loops(10).twice()), 2, LONG, LONG);
    dueInTurn(row(beside(5).twice(), beside(6).twice(), five().twice()), 3, LONG, LONG);
    due(netOf(2, 0, 0, 0, 0, 1, 1, 1, 1).twice(), 2);
    due(netOf(2, 0, 0, 0, 0, 1, 1, 1, 1, 1, 1).twice(), LONG);
  }

  private static void walked() {
    says(31, "The least sum of LENGTHS of a set of roads with which, walked twice, each post has an even number of ends: the sum;");
    dueOfEach(0, new RoundFlows().walked(false), netOf(6).walked(false), five().walked(false), loops(10).walked(false));
    dueInTurn(row(four().walked(false), prism().walked(false), beside(1).walked(false)), 2, 3, 1);
    RoundFlows x = beside(9);
    for (int i = 0; i < 9; i++) {
      x.length(i, 9 - i);
    }
    due(x.walked(false), 1);
    x.road(0, 1);
    due(x.walked(false), 0);
    // Posts 0 and 2 are odd: the way over 1 is shorter than a road between, till that is shorter.
    x = netOf(3, 0, 1, 1, 2, 0, 2, 0, 2);
    x.length(2, 3);
    x.length(3, 3);
    due(x.walked(false), 2);
    x.length(3, 1);
    due(x.walked(false), 1);
    // A tree of nine all along.
    x = netOf(6, 0, 1, 1, 2, 2, 3, 3, 4, 4, 5);
    for (int i = 0; i < 5; i++) {
      x.length(i, 9);
    }
    due(x.walked(false), 45);

    says(31, "set: the least such set as a number instead.");
    // Of the prism's four sets of three roads that meet each post once, 1, 4 and 6 are the least.
    dueInTurn(row(four().walked(true), prism().walked(true), beside(1).walked(true)), 5, 2 + 16 + 64, 1);
    x = four();
    x.length(0, 2);
    due(x.walked(true), 10);
    x.length(1, 9);
    x.length(4, 9);
    due(x.walked(true), 5);
    x = netOf(3, 0, 1, 1, 2, 0, 2, 0, 2);
    x.length(2, 3);
    x.length(3, 2);
    // 3 and 8 are both of sum 2.
    dueInTurn(row(x.walked(false), x.walked(true)), 2, 3);
    x.length(3, 1);
    due(x.walked(true), 8);
    dueOfEach(0, new RoundFlows().walked(true), five().walked(true));
  }

  private static void trees() {
    says(32, "How many sets of roads without a ROUND hang all pieces together as they are.");
    dueInTurn(row(four().trees(), five().trees(), prism().trees(), ring(6).trees()), 16, 125, 75, 6);
    dueOfEach(1, new RoundFlows().trees(), netOf(6).trees(), loops(10).trees(), beside(1).trees());
    due(beside(10).trees(), 10);
    due(netOf(5, 0, 1, 1, 2, 2, 0, 3, 4, 4, 3).trees(), 6);
    due(netOf(3, 0, 1, 0, 1, 1, 1, 1, 2).trees(), 2);
    RoundFlows x = ring(3);
    x.trees();
    x.post();
    due(x.trees(), 3);
    x.road(3, 0);
    x.road(0, 3);
    due(x.trees(), 6);
  }

  private static void count() {
    says(33, "What 0: pieces,");
    dueInTurn(row(new RoundFlows().count(0), netOf(6).count(0), four().count(0), loops(3).count(0)), 0, 6, 1, 1);
    RoundFlows x = netOf(6, 0, 1, 2, 1, 3, 4);
    due(x.count(0), 3);
    x.turn(0);
    due(x.count(0), 3);

    says(33, "1 GENUS,");
    dueInTurn(row(new RoundFlows().count(1), netOf(6).count(1), beside(1).count(1), beside(2).count(1)), 0, 0, 0, 1);
    dueInTurn(row(four().count(1), five().count(1), prism().count(1), loops(10).count(1)), 3, 6, 4, 10);
    due(netOf(5, 0, 1, 1, 0, 2, 3, 3, 4, 4, 2).count(1), 2);

    says(33, "BEYOND: another what.");
    x = four();
    dueOfEach(BEYOND, x.count(4), x.count(-1), x.count(LOW), x.count(HIGH));
  }

  private static void waysToPoint() {
    says(33, "2 in how many ways roads can be pointed so that each lies on a ROUND pointed along");
    dueInTurn(row(ring(2).count(2), ring(6).count(2), four().count(2), beside(3).count(2)), 2, 2, 24, 6);
    dueOfEach(1, new RoundFlows().count(2), netOf(6).count(2));
    dueOfEach(0, beside(1).count(2), netOf(3, 0, 1, 1, 0, 1, 2).count(2));
    // Of ten beside, all but those that all point the same way.
    due(beside(10).count(2), 1022);
    // How they point now does not matter.
    due(netOf(2, 0, 1, 1, 0).count(2), 2);

    says(33, "(each LOOP does, both ways),");
    dueInTurn(row(loops(1).count(2), loops(10).count(2), netOf(2, 0, 1, 1, 0, 1, 1).count(2)), 2, 1024, 4);

    says(33, "3 in how many so that none does.");
    dueInTurn(row(ring(3).count(3), four().count(3), five().count(3), beside(10).count(3)), 6, 24, 120, 2);
    dueOfEach(1, new RoundFlows().count(3), netOf(6).count(3));
    dueOfEach(0, loops(1).count(3), netOf(2, 0, 1, 1, 1).count(3));
    due(netOf(6, 0, 1, 1, 2, 2, 3, 3, 4, 4, 5).count(3), 32);
    due(netOf(6, 0, 1, 1, 2, 2, 0, 3, 4).count(3), 12);
  }

  /** bridges(), even(1), fours(), twice(), walked(true), trees(), count(0) to count(3). */
  private static long[] all(RoundFlows x) {
    return row(x.bridges(), x.even(1), x.fours(), x.twice(), x.walked(true), x.trees(),
        x.count(0), x.count(1), x.count(2), x.count(3));
  }

  private static void askedAgain() {
    says(27, "The set of all BRIDGES.");
    // One object whose net changes: nothing is left of what was asked before.
    RoundFlows x = netOf(3, 0, 1);
    dueInTurn(all(x), 1, NONE, NONE, NONE, 1, 1, 2, 0, 0, 2);
    x.road(1, 2);
    dueInTurn(all(x), 3, NONE, NONE, NONE, 3, 1, 1, 0, 0, 4);
    x.road(2, 0);
    dueInTurn(all(x), 0, 7, 7, 2, 0, 3, 1, 1, 2, 6);
    x.take(0);
    dueInTurn(all(x), 3, NONE, NONE, NONE, 3, 1, 1, 0, 0, 4);
    x.melt(0);
    dueInTurn(all(x), 1, NONE, NONE, NONE, 1, 1, 1, 0, 0, 2);
    x.road(0, 1);
    x.road(0, 1);
    dueInTurn(all(x), 0, 3, 2048 * 3 + 5, 3, 1, 3, 1, 2, 6, 2);
    x.length(0, 2);
    due(x.walked(true), 2);
    x.undo();
    x.undo();
    dueInTurn(all(x), 0, 3, 3, 2, 0, 2, 1, 1, 2, 2);
    x.anew();
    dueInTurn(all(x), 0, NONE, 0, 0, 0, 1, 0, 0, 1, 1);
  }
}
