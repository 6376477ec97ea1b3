/** The document's terms 1 to 3: nets, flows, slots and sheets. */
final class TermSentences extends Bench {
  static void run() {
    calls();
    net();
    piecesAndRounds();
    evenSets();
    takenAndMelted();
    flow();
    wholeFlow();
    nowhere();
    flowPoly();
    colourPoly();
    slots();
    sheets();
  }

  private static void calls() {
    says(WHAT_IT_IS, "An object is used for at most 512 calls after it has been made;");
    RoundFlows x = loops(1);
    for (int i = 0; i < 505; i++) {
      x.set(0, i % 101);
    }
    // These are calls 508 to 512.
    dueInTurn(row(x.of(0, 3), x.undo(), x.told(4), x.told(3), x.rounds(0, true)), 504 % 101, 24, BEYOND, 1, 503 % 101);
  }

  private static void net() {
    says(TERMS, "1. A NET has POSTS 0, 1, .. (at most 6)");
    RoundFlows x = new RoundFlows();
    dueInTurn(row(x.post(), x.post(), x.post(), x.post(), x.post(), x.post()), 0, 1, 2, 3, 4, 5);
    due(x.post(), FULL);
    dueInTurn(row(x.excess(5), x.excess(6)), 0, BEYOND);

    says(TERMS, "and ROADS 0, 1, .. (at most 10),");
    x = netOf(1);
    for (int i = 0; i < 10; i++) {
      due(x.road(0, 0), i);
    }
    due(x.road(0, 0), FULL);
    dueInTurn(row(x.of(9, 0), x.of(10, 0)), 0, BEYOND);

    says(TERMS, "each pointed from a post to a post (the same one: a LOOP; several between two are allowed),");
    x = netOf(2);
    dueInTurn(row(x.road(0, 1), x.road(0, 1), x.road(1, 0), x.road(1, 1), x.road(1, 1)), 0, 1, 2, 3, 4);
    due(story(x), "2 posts, group 0, 0>1 x1 =0 0>1 x1 =0 1>0 x1 =0 1>1 x1 =0 1>1 x1 =0");

    says(TERMS, "with a LENGTH (1 to 9; 1 at first).");
    x = loops(1);
    dueInTurn(row(x.of(0, 2), x.length(0, 9), x.length(0, 1), x.of(0, 2)), 1, 1, 9, 1);
    dueOfEach(BEYOND, x.length(0, 0), x.length(0, 10));

    says(TERMS, "SETS of roads are told by bits.");
    due(netOf(3, 0, 0, 0, 1, 1, 2).bridges(), 2 + 4);
    dueInTurn(row(loops(10).even(512), numbers(loops(2), 0, 3).rounds(0, false)), 512, 2);
    due(netOf(4, 0, 0, 0, 1, 0, 0, 2, 3).walked(true), 2 + 8);
  }

  private static void piecesAndRounds() {
    says(TERMS, "PIECES: posts that hang together by roads, however these point.");
    dueInTurn(row(netOf(6).count(0), netOf(6, 0, 1, 2, 1, 2, 3, 5, 5).count(0)), 6, 3);
    due(netOf(6, 5, 0, 5, 1, 5, 2, 5, 3, 5, 4).count(0), 1);
    due(new RoundFlows().count(0), 0);

    says(TERMS, "GENUS: roads less posts and pieces added.");
    dueInTurn(row(netOf(6, 0, 1, 2, 1, 2, 3, 5, 5).count(1), loops(10).count(1)), 4 - 6 + 3, 10 - 1 + 1);
    dueInTurn(row(netOf(6).count(1), ring(6).count(1), four().count(1)), 0, 1, 3);

    says(TERMS, "A BRIDGE is a road (no LOOP) without which there is a piece more.");
    dueInTurn(row(beside(1).bridges(), beside(2).bridges(), loops(1).bridges(), ring(3).bridges()), 1, 0, 0, 0);
    due(netOf(4, 0, 1, 1, 2, 2, 0, 2, 3).bridges(), 8);
    // In another piece it is one as well, and pointing does not matter.
    due(netOf(5, 1, 0, 0, 1, 4, 3).bridges(), 4);

    says(TERMS, "A ROUND is a LOOP, or a row of unlike roads and posts that comes back to its first post, "
        + "however roads point.");
    // Sets without a ROUND: never a LOOP, never two beside, never all of three round.
    dueInTurn(row(loops(3).trees(), beside(2).trees(), ring(3).trees()), 1, 2, 3);
    due(netOf(3, 0, 1, 2, 1, 2, 0).trees(), 3);
    // There and back by one road is none.
    due(beside(1).trees(), 1);
  }

  private static void evenSets() {
    says(TERMS, "An EVEN set of roads has at each post an even number of ends (a LOOP has two).");
    dueInTurn(row(loops(1).even(-1), loops(1).even(1)), 2, 1);
    dueInTurn(row(beside(3).even(-1), beside(3).even(1), beside(3).even(2), beside(3).even(3)), 4, 3, 5, 6);
    dueInTurn(row(beside(1).even(-1), ring(3).even(-1), ring(3).even(1)), 1, 2, 7);
    // Two rounds that share a post, or none, are EVEN together.
    due(netOf(5, 0, 1, 1, 2, 2, 0, 0, 3, 3, 4, 4, 0).even(3), 63);
  }

  private static void takenAndMelted() {
    says(TERMS, "TAKING a road: it goes.");
    RoundFlows x = ring(3);
    x.take(1);
    due(story(x), "3 posts, group 0, 0>1 x1 =0 2>0 x1 =0");

    says(TERMS, "MELTING one that is no LOOP: it goes, and its two posts become one.");
    x = ring(3);
    x.melt(1);
    due(story(x), "2 posts, group 0, 0>1 x1 =0 1>0 x1 =0");
    due(loops(1).melt(0), KIND);
  }

  private static void flow() {
    says(TERMS, "2. THE FLOW gives each road a number (-100 to 100; 0 at first, of a new road too),");
    RoundFlows x = beside(2);
    dueInTurn(flowOf(x), 0, 0);
    dueInTurn(row(x.set(0, 100), x.set(0, -100), x.set(0, 101), x.set(0, -101)), 0, 100, BEYOND, BEYOND);
    x.set(1, 7);
    x.road(0, 1);
    x.sheet(0, 8, 2);
    x.lay(0);
    dueInTurn(flowOf(x), -100, 7, 0, 0);
    x.take(1);
    x.road(1, 0);
    dueInTurn(flowOf(x), -100, 0, 0, 0);

    says(TERMS, "of a GROUP: whole numbers (0, at first), or rests modulo m (2 to 12):");
    x = new RoundFlows();
    dueInTurn(row(x.told(2), x.group(2), x.group(12), x.group(0)), 0, 0, 2, 12);
    dueOfEach(BEYOND, x.group(1), x.group(13), x.group(-2));

    says(TERMS, "then each number counts as its rest, 0 to m - 1.");
    for (int m = 2; m <= 12; m++) {
      x = numbers(loops(4), -1, m, m - 1, -100);
      x.group(m);
      dueInTurn(flowOf(x), m - 1, 0, m - 1, (1200 * m - 100) % m);
    }
  }

  private static void wholeFlow() {
    says(TERMS, "A post is OFF when what comes in (numbers of roads that point to it, together) is not what goes "
        + "out (by the group; a LOOP does both).");
    RoundFlows x = numbers(netOf(3, 0, 1, 1, 2, 1, 2, 2, 2), 5, 2, 3, 9);
    dueInTurn(row(x.off(), x.excess(0), x.excess(1), x.excess(2)), 2, -5, 0, 5);
    x.group(5);
    due(x.off(), 0);
    x.set(2, 4);
    dueInTurn(row(x.off(), x.excess(0), x.excess(1), x.excess(2)), 2, 0, 4, 1);

    says(TERMS, "THE FLOW is WHOLE when no post is OFF and no road's number is 0 (by the group).");
    due(numbers(ring(3), 4, 4, 4).whole(), 1);
    due(numbers(ring(3), 4, 4, 3).whole(), 0);
    due(numbers(ring(3), 0, 0, 0).whole(), 0);
    x = numbers(ring(3), 4, 4, 1);
    x.group(3);
    due(x.whole(), 1);
    x.group(2);
    due(x.whole(), 0);
    x = numbers(ring(3), 4, 4, 4);
    x.group(4);
    due(x.whole(), 0);
    due(netOf(3).whole(), 1);
  }

  private static void nowhere() {
    says(TERMS, "A NOWHERE of size k (k at least 2): whole numbers 1 to k - 1 or -(k - 1) to -1 on all roads, no post OFF.");
    for (int k = 2; k <= 4; k++) {
      // Each number but 0 on a LOOP; two beside have opposite ones.
      dueOfEach(2 * (k - 1), loops(1).sized(k), beside(2).sized(k), ring(3).sized(k));
      due(loops(2).sized(k), 4 * (k - 1) * (k - 1));
      due(beside(1).sized(k), 0);
    }
    dueInTurn(row(loops(1).sized(1), loops(1).find(1)), BEYOND, BEYOND);
    dueInTurn(row(beside(3).sized(2), beside(3).sized(3)), 0, 6);
  }

  /** How many WHOLE flows of rests there are, by trying all on the bench itself. */
  private static long wholeFlows(int m, int posts, int... pairs) {
    int roads = pairs.length / 2;
    long all = 1;
    for (int i = 0; i < roads; i++) {
      all *= m;
    }
    long many = 0;
    for (long n = 0; n < all; n++) {
      RoundFlows x = netOf(posts, pairs);
      x.group(m);
      long rest = n;
      for (int i = 0; i < roads; i++) {
        x.set(i, (int) (rest % m));
        rest /= m;
      }
      many += x.whole();
    }
    return many;
  }

  private static final int[][] NETS = {
    {}, {0, 0}, {0, 1}, {0, 1, 0, 1}, {0, 1, 1, 0, 1, 1}, {0, 1, 0, 1, 0, 1}, {0, 1, 1, 2, 2, 0, 0, 1},
    {0, 1, 1, 2, 2, 0, 3, 3}, {0, 1, 1, 2, 2, 0, 0, 3}, {0, 1, 1, 2, 2, 3, 3, 0, 0, 2}
  };

  private static void flowPoly() {
    says(TERMS, "FLOW POLY of a net: the polynomial whose worth at each m from 2 on is how many WHOLE flows of rests modulo m there are");
    for (int[] pairs : NETS) {
      for (int m = 2; m <= 5; m++) {
        due(netOf(4, pairs).worth(false, m), wholeFlows(m, 4, pairs));
      }
    }
    due(four().worth(false, 4), wholeFlows(4, 4, 0, 1, 1, 2, 2, 3, 3, 0, 0, 2, 1, 3));
    due(netOf(1, 0, 0, 0, 0).worth(false, 12), 121);

    says(TERMS, "(there is just one; 1 of a net without roads; at 1 it is 0 if there is a road);");
    dueInTurn(row(netOf(3).worth(false, 2), netOf(3).worth(false, 1), netOf(3).worth(false, 0)), 1, 1, 1);
    dueInTurn(row(new RoundFlows().flowPoly(0), new RoundFlows().flowPoly(1)), 1, 0);
    dueOfEach(0, loops(1).worth(false, 1), loops(10).worth(false, 1), beside(1).worth(false, 1), four().worth(false, 1));
  }

  private static long colourings(int m, int posts, int... pairs) {
    long all = 1;
    for (int i = 0; i < posts; i++) {
      all *= m;
    }
    long many = 0;
    for (long n = 0; n < all; n++) {
      int[] colours = new int[posts];
      long rest = n;
      for (int p = 0; p < posts; p++) {
        colours[p] = (int) (rest % m);
        rest /= m;
      }
      boolean fits = true;
      for (int i = 0; i < pairs.length; i += 2) {
        fits &= colours[pairs[i]] != colours[pairs[i + 1]];
      }
      many += fits ? 1 : 0;
    }
    return many;
  }

  private static void colourPoly() {
    says(TERMS, "COLOUR POLY: that whose worth at each m from 1 on is in how many ways posts can have numbers 0 to m - 1, "
        + "so that the two posts of no road have the same");
    for (int[] pairs : NETS) {
      for (int m = 1; m <= 6; m++) {
        due(netOf(4, pairs).worth(true, m), colourings(m, 4, pairs));
      }
    }
    due(ring(6).worth(true, 12), colourings(12, 6, 0, 1, 1, 2, 2, 3, 3, 4, 4, 5, 5, 0));

    says(TERMS, "(0 for all, if there is a LOOP).");
    for (int m = -6; m <= 12; m++) {
      dueOfEach(0, loops(1).worth(true, m), netOf(3, 0, 1, 2, 2).worth(true, m));
    }
    for (int i = 0; i <= 10; i++) {
      due(netOf(3, 0, 1, 2, 2).colourPoly(i), 0);
    }
  }

  private static void slots() {
    says(TERMS, "3. SLOTS 0 to 3 keep THE FLOW's numbers,");
    RoundFlows x = numbers(ring(2), 4, -6);
    dueInTurn(row(x.keep(-1), x.keep(0), x.keep(1), x.keep(2), x.keep(3), x.keep(4)), BEYOND, 0, 0, 0, 0, BEYOND);
    for (int i = 0; i < 4; i++) {
      numbers(x, 0, 0);
      x.bring(i);
      dueInTurn(flowOf(x), 4, -6);
    }

    says(TERMS, "of a KIND: 0 FLOW, 1 RESTS under FLOW (the group is rests), 2 BITS under RESTS (rests modulo 2), "
        + "3 SIZED under FLOW (whole numbers, and WHOLE): the last of these that it is.");
    x = numbers(ring(2), 3, 5);
    due(x.keep(0), 0);
    for (int m = 3; m <= 12; m++) {
      x.group(m);
      due(x.keep(1), 1);
    }
    x.group(2);
    due(x.keep(2), 2);
    x.group(0);
    numbers(x, 5, 5);
    due(x.keep(3), 3);
    dueInTurn(row(x.as(0, 0), x.as(0, 1), x.as(0, 2), x.as(0, 3)), 2, KIND, KIND, KIND);
    dueInTurn(row(x.as(1, 0), x.as(1, 1), x.as(1, 2), x.as(1, 3)), 2, 2, KIND, KIND);
    dueInTurn(row(x.as(2, 0), x.as(2, 1), x.as(2, 2), x.as(2, 3)), 2, 2, 2, KIND);
    dueInTurn(row(x.as(3, 0), x.as(3, 1), x.as(3, 2), x.as(3, 3)), 2, KIND, KIND, 2);
    // A number of 0 or a post that is OFF: FLOW alone.
    dueOfEach(0, numbers(ring(2), 0, 0).keep(0), numbers(ring(2), 1, 2).keep(0));
  }

  private static void sheets() {
    says(TERMS, "SHEETS 0 to 3 are rows of up to 24 numbers of 8, 16 or 32 bits, or MISSING (all, at first).");
    RoundFlows x = new RoundFlows();
    dueInTurn(row(x.lay(-1), x.lay(0), x.lay(1), x.lay(2), x.lay(3), x.lay(4)),
        BEYOND, MISSING, MISSING, MISSING, MISSING, BEYOND);
    dueInTurn(row(x.sheet(0, 8, 24), x.sheet(1, 16, 24), x.sheet(2, 32, 24)), 24, 24, 24);
    dueOfEach(BEYOND, x.sheet(0, 8, 25), x.sheet(0, 12, 1), x.sheet(0, 64, 1));
    dueInTurn(row(x.put(0, 23, 1), x.put(0, 24, 1), x.put(3, 0, 1)), 0, BEYOND, MISSING);
  }
}
