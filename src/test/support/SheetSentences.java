/** Promises 11 to 14: sheets. What a sheet holds is seen by the roads that it lays. */
final class SheetSentences extends Bench {
  static void run() {
    sheet();
    sheetRefused();
    put();
    copy();
    copyRefused();
    lay();
    layRefused();
  }

  private static void fill(RoundFlows x, int s, int... values) {
    for (int i = 0; i < values.length; i++) {
      x.put(s, i, values[i]);
    }
  }

  private static void sheet() {
    says(11, "A sheet has n numbers, all 0, of 8, 16 or 32 bits;");
    RoundFlows x = netOf(1);
    x.sheet(3, 8, 24);
    due(x.put(3, 23, 1), 0);
    due(x.put(3, 24, 1), BEYOND);
    x.sheet(3, 8, 2);
    due(x.put(3, 1, 5), 0);
    due(x.put(3, 2, 5), BEYOND);
    x.sheet(3, 16, 6);
    due(laid(x, 3), "3: 00 00 00");
    fill(x, 3, 1, 2, 3, 4, 5, 1);
    x.sheet(3, 16, 6);
    due(laid(x, 3), "3: 00 00 00");
    // 257 and 65537 end in a 1 of 8 bits, 65537 in one of 16, neither of 32.
    dueInTurn(row(bitsOf(8, 257), bitsOf(16, 257), bitsOf(32, 257)), 1, BEYOND, BEYOND);
    dueInTurn(row(bitsOf(8, 65537), bitsOf(16, 65537), bitsOf(32, 65537)), 1, 1, BEYOND);
    // A sheet without numbers is there.
    x = netOf(1);
    x.sheet(0, 32, 0);
    due(x.lay(0), 0);
    due(x.put(0, 0, 1), BEYOND);
    due(x.copy(0, 0, 0, 0, 0), 0);

    says(11, "bits 0: it is MISSING:");
    x = netOf(1);
    x.sheet(0, 8, 3);
    x.sheet(0, 0, 3);
    dueOfEach(MISSING, x.put(0, 0, 1), x.lay(0), x.copy(0, 0, 0, 0, 0));
    x.sheet(0, 8, 2);
    due(x.lay(0), 1);

    says(11, "n (0).");
    x = new RoundFlows();
    for (int n = 0; n <= 24; n++) {
      dueOfEach(n, x.sheet(0, 8, n), x.sheet(1, 16, n), x.sheet(3, 32, n));
      due(x.sheet(2, 0, n), 0);
    }
  }

  /** What lay() answers of two numbers v put on a sheet of so many bits. */
  private static long bitsOf(int bits, int v) {
    RoundFlows x = netOf(2);
    x.sheet(0, bits, 2);
    fill(x, 0, v, v);
    return x.lay(0);
  }

  private static void sheetRefused() {
    says(11, "BEYOND: no such sheet, or bits.");
    RoundFlows x = netOf(2);
    dueOfEach(BEYOND, x.sheet(4, 8, 1), x.sheet(-1, 8, 1), x.sheet(LOW, 0, 1), x.sheet(HIGH, 0, 1));
    dueOfEach(BEYOND, x.sheet(0, 1, 1), x.sheet(0, 7, 1), x.sheet(0, 9, 1), x.sheet(0, 15, 1));
    dueOfEach(BEYOND, x.sheet(0, 17, 1), x.sheet(0, 24, 1), x.sheet(0, 31, 1), x.sheet(0, 33, 1));
    dueOfEach(BEYOND, x.sheet(0, 64, 1), x.sheet(0, -8, 1), x.sheet(0, LOW, 1), x.sheet(0, HIGH, 1));
    due(x.lay(0), MISSING);
    // Asked ahead of SIZE.
    dueOfEach(BEYOND, x.sheet(4, 8, -1), x.sheet(-1, 0, -1), x.sheet(0, 7, -1));

    says(11, "SIZE: n is below 0.");
    x = netOf(2);
    x.sheet(1, 8, 2);
    x.put(1, 0, 1);
    dueOfEach(SIZE, x.sheet(1, 8, -1), x.sheet(1, 16, LOW), x.sheet(1, 32, -1), x.sheet(1, 0, -1));
    due(laid(x, 1), "1: 10");

    says(11, "BEYOND: n is above 24.");
    x = netOf(2);
    x.sheet(1, 8, 2);
    x.put(1, 1, 1);
    dueOfEach(BEYOND, x.sheet(1, 8, 25), x.sheet(1, 16, HIGH), x.sheet(1, 32, 25), x.sheet(1, 0, 25));
    due(laid(x, 1), "1: 01");
    due(x.sheet(1, 8, 24), 24);
  }

  private static void put() {
    says(12, "Number i of a sheet becomes v (its lowest bits): 0.");
    RoundFlows x = new RoundFlows();
    x.sheet(0, 8, 4);
    dueOfEach(0, x.put(0, 0, 256 + 2), x.put(0, 1, -255), x.put(0, 2, LOW + 3), x.put(0, 3, HIGH - 251));
    due(laid(x, 0), "2: 21 34");
    x.sheet(1, 16, 4);
    dueOfEach(0, x.put(1, 3, 65536 + 2), x.put(1, 2, -65535), x.put(1, 1, LOW + 3), x.put(1, 0, HIGH - 65531));
    due(laid(x, 1), "2: 43 12");
    x.sheet(2, 32, 2);
    dueOfEach(0, x.put(2, 0, 5), x.put(2, 1, 4), x.put(2, 1, 3));
    due(laid(x, 2), "1: 53");
    // -1 is no post, of however many bits.
    dueInTurn(row(bitsOf(8, -1), bitsOf(16, -1), bitsOf(32, -1)), BEYOND, BEYOND, BEYOND);
    dueInTurn(row(bitsOf(8, 128), bitsOf(16, 32768), bitsOf(32, LOW)), BEYOND, BEYOND, BEYOND);

    says(12, "BEYOND: no such sheet.");
    x = new RoundFlows();
    x.sheet(3, 8, 1);
    dueOfEach(BEYOND, x.put(4, 0, 1), x.put(-1, 0, 1), x.put(LOW, 0, 1), x.put(HIGH, 0, 1));
    due(x.put(3, 0, 1), 0);

    says(12, "MISSING.");
    x = new RoundFlows();
    // Asked ahead of the number.
    dueOfEach(MISSING, x.put(0, 0, 1), x.put(3, 99, 1), x.put(1, -1, 1));

    says(12, "BEYOND: no such number.");
    x = new RoundFlows();
    x.sheet(0, 8, 2);
    dueOfEach(BEYOND, x.put(0, 2, 1), x.put(0, -1, 1), x.put(0, LOW, 1), x.put(0, HIGH, 1));
    due(laid(x, 0), "1: 00");
  }

  private static RoundFlows sixAndFour() {
    RoundFlows x = netOf(6);
    x.sheet(0, 8, 6);
    fill(x, 0, 5, 4, 3, 2, 1, 0);
    x.sheet(1, 8, 4);
    return x;
  }

  private static void copy() {
    says(13, "n numbers of a sheet from one on come to another one from one on: n.");
    RoundFlows x = sixAndFour();
    due(x.copy(0, 1, 1, 1, 3), 3);
    due(laid(x, 1), "2: 04 32");
    due(laid(x, 0), "3: 54 32 10");
    x = sixAndFour();
    due(x.copy(0, 2, 1, 0, 4), 4);
    due(laid(x, 1), "2: 32 10");
    x = sixAndFour();
    due(x.copy(0, 5, 1, 3, 1), 1);
    due(x.copy(0, 0, 1, 0, 0), 0);
    due(laid(x, 1), "2: 00 00");
    // On the same sheet, numbers come as they were before.
    x = sixAndFour();
    due(x.copy(0, 0, 0, 1, 5), 5);
    due(laid(x, 0), "3: 55 43 21");
    x = sixAndFour();
    due(x.copy(0, 1, 0, 0, 5), 5);
    due(laid(x, 0), "3: 43 21 00");
    // As many bits: 16 and 32, too, and 32 bits stay whole.
    x = netOf(2);
    x.sheet(2, 32, 1);
    x.sheet(3, 32, 2);
    x.put(2, 0, 65536);
    due(x.copy(2, 0, 3, 1, 1), 1);
    due(x.lay(3), BEYOND);
    x.sheet(2, 16, 24);
    x.sheet(3, 16, 24);
    due(x.copy(2, 0, 3, 0, 24), 24);
  }

  private static void copyRefused() {
    says(13, "BEYOND: no such sheet (either).");
    RoundFlows x = sixAndFour();
    dueOfEach(BEYOND, x.copy(4, 0, 0, 0, 1), x.copy(-1, 0, 0, 0, 1), x.copy(LOW, 0, 0, 0, 1));
    dueOfEach(BEYOND, x.copy(0, 0, 4, 0, 1), x.copy(0, 0, -1, 0, 1), x.copy(0, 0, HIGH, 0, 1));
    // Asked ahead of MISSING.
    dueOfEach(BEYOND, x.copy(2, 0, 4, 0, 1), x.copy(4, 0, 2, 0, 1));

    says(13, "MISSING: one is.");
    x = sixAndFour();
    dueOfEach(MISSING, x.copy(0, 0, 2, 0, 1), x.copy(2, 0, 0, 0, 1), x.copy(2, 0, 3, 0, 1));
    // Asked ahead of KIND and of the numbers.
    dueOfEach(MISSING, x.copy(0, -1, 2, 0, 1), x.copy(2, 0, 0, 99, 1), x.copy(2, 0, 2, 0, -1));

    says(13, "KIND: they are not of as many bits.");
    x = sixAndFour();
    x.sheet(2, 16, 4);
    x.sheet(3, 32, 4);
    dueOfEach(KIND, x.copy(0, 0, 2, 0, 1), x.copy(2, 0, 0, 0, 1), x.copy(0, 0, 3, 0, 0), x.copy(3, 0, 2, 0, 1));
    // Asked ahead of the numbers.
    dueOfEach(KIND, x.copy(0, 9, 2, 0, 1), x.copy(0, 0, 2, -1, 1), x.copy(0, 0, 2, 0, 99));

    says(13, "BEYOND: one has not so many, or from, to or n is below 0.");
    x = sixAndFour();
    dueOfEach(BEYOND, x.copy(0, 5, 1, 0, 2), x.copy(0, 6, 1, 0, 1), x.copy(0, 0, 0, 0, 7));
    dueOfEach(BEYOND, x.copy(0, 0, 1, 3, 2), x.copy(0, 0, 1, 4, 1), x.copy(0, 0, 1, 0, 5));
    dueOfEach(BEYOND, x.copy(0, 7, 1, 0, 0), x.copy(0, 0, 1, 5, 0));
    dueOfEach(BEYOND, x.copy(0, -1, 1, 0, 1), x.copy(0, 0, 1, -1, 1), x.copy(0, 0, 1, 0, -1));
    dueOfEach(BEYOND, x.copy(0, -1, 1, 0, 0), x.copy(0, 0, 1, -1, 0), x.copy(0, 1, 1, 1, -1));
    dueOfEach(BEYOND, x.copy(0, HIGH, 1, 0, HIGH), x.copy(0, 1, 1, 1, HIGH), x.copy(0, HIGH, 1, 0, 1));
    dueOfEach(BEYOND, x.copy(0, 0, 1, HIGH, 1), x.copy(0, LOW, 1, LOW, LOW), x.copy(0, 1, 1, 1, LOW));
    due(laid(x, 0), "3: 54 32 10");
    due(laid(x, 1), "2: 00 00");
    dueOfEach(0, x.copy(0, 6, 1, 4, 0), x.copy(1, 4, 0, 6, 0));
  }

  private static void lay() {
    says(14, "Roads of a sheet are laid: pairs of numbers from the first on, from which post to which");
    RoundFlows x = numbers(netOf(3, 1, 1), 8);
    x.length(0, 5);
    x.sheet(2, 8, 4);
    fill(x, 2, 0, 2, 1, 0);
    due(x.lay(2), 2);
    due(story(x), "3 posts, group 0, 1>1 x5 =8 0>2 x1 =0 1>0 x1 =0");
    due(x.lay(2), 2);
    due(x.told(1), 5);

    says(14, "(a last one alone is left out): how many.");
    x = netOf(3);
    x.sheet(0, 8, 5);
    fill(x, 0, 0, 1, 1, 2, 9);
    due(x.lay(0), 2);
    due(x.told(1), 2);
    x.sheet(0, 8, 1);
    x.put(0, 0, 9);
    due(x.lay(0), 0);
    x.sheet(0, 8, 0);
    due(x.lay(0), 0);
    due(x.told(1), 2);
    // 21 numbers are 10 pairs and one alone, 20 are as many.
    x = netOf(1);
    x.sheet(0, 32, 21);
    due(x.lay(0), 10);
    x.undo();
    x.sheet(0, 32, 20);
    due(x.lay(0), 10);
    due(x.told(1), 10);
  }

  private static void layRefused() {
    says(14, "BEYOND: no such sheet.");
    RoundFlows x = netOf(1);
    dueOfEach(BEYOND, x.lay(4), x.lay(-1), x.lay(LOW), x.lay(HIGH));

    says(14, "MISSING.");
    dueOfEach(MISSING, x.lay(0), x.lay(3), loops(10).lay(1));

    says(14, "BEYOND: one of the pairs' is no post.");
    for (int i = 0; i < 4; i++) {
      x = netOf(2);
      x.sheet(0, 8, 4);
      x.put(0, i, 2);
      due(x.lay(0), BEYOND);
      x.put(0, i, -1);
      due(x.lay(0), BEYOND);
      due(x.told(1), 0);
      x.put(0, i, 1);
      due(x.lay(0), 2);
    }
    x = new RoundFlows();
    x.sheet(0, 8, 2);
    due(x.lay(0), BEYOND);
    // Asked ahead of FULL.
    x = loops(10);
    x.sheet(0, 8, 2);
    x.put(0, 1, 1);
    due(x.lay(0), BEYOND);
    x = netOf(1);
    x.sheet(0, 8, 24);
    x.put(0, 23, 1);
    due(x.lay(0), BEYOND);

    says(14, "FULL: there would be more than 10.");
    x = loops(7);
    x.sheet(0, 8, 8);
    due(x.lay(0), FULL);
    due(x.told(1), 7);
    x.sheet(0, 8, 7);
    due(x.lay(0), 3);
    due(x.told(1), 10);
    dueOfEach(FULL, x.lay(0), x.lay(0));
    x.sheet(0, 8, 1);
    due(x.lay(0), 0);
    x = netOf(1);
    x.sheet(0, 8, 22);
    due(x.lay(0), FULL);
  }
}
