/** Promises 24 to 26: polynomials. */
final class PolynomialSentences extends Bench {
  static void run() {
    flowPoly();
    colourPoly();
    worth();
    worthKeepsUp();
  }

  private static void flows(RoundFlows x, long... terms) {
    for (int i = 0; i <= 10; i++) {
      due(x.flowPoly(i), i < terms.length ? terms[i] : 0);
    }
  }

  private static void colours(RoundFlows x, long... terms) {
    for (int i = 0; i <= 10; i++) {
      due(x.colourPoly(i), i < terms.length ? terms[i] : 0);
    }
  }

  private static void flowPoly() {
    says(24, "Number i (of the i-th power) of the FLOW POLY.");
    flows(new RoundFlows(), 1);
    flows(netOf(6), 1);
    flows(loops(1), -1, 1);
    flows(ring(6), -1, 1);
    flows(beside(3), 2, -3, 1);
    flows(four(), -6, 11, -6, 1);
    // (q - 1) (q - 2) (q - 3) (q - 3).
    flows(prism(), 18, -39, 29, -9, 1);
    flows(loops(10), 1, -10, 45, -120, 210, -252, 210, -120, 45, -10, 1);
    // With a BRIDGE there is no WHOLE flow at all.
    flows(beside(1));
    flows(netOf(3, 0, 0, 0, 1, 1, 2, 1, 2));
    // Of two pieces, as of two that share a post, the one times the other.
    flows(netOf(4, 0, 1, 0, 1, 0, 1, 2, 3, 2, 3), -2, 5, -4, 1);

    says(24, "BEYOND: i is not 0 to 10.");
    RoundFlows x = four();
    dueOfEach(BEYOND, x.flowPoly(-1), x.flowPoly(11), x.flowPoly(LOW), x.flowPoly(HIGH));
    dueInTurn(row(x.flowPoly(0), x.flowPoly(10), loops(10).flowPoly(10)), -6, 0, 1);
  }

  private static void colourPoly() {
    says(25, "Number i of the COLOUR POLY.");
    colours(new RoundFlows(), 1);
    colours(netOf(1), 0, 1);
    colours(netOf(6), 0, 0, 0, 0, 0, 0, 1);
    colours(beside(1), 0, -1, 1);
    colours(beside(10), 0, -1, 1);
    colours(netOf(2, 0, 1, 1, 0), 0, -1, 1);
    colours(ring(3), 0, 2, -3, 1);
    colours(four(), 0, -6, 11, -6, 1);
    colours(five(), 0, 24, -50, 35, -10, 1);
    colours(netOf(3, 0, 1), 0, 0, -1, 1);
    // A LOOP leaves none.
    colours(loops(1));
    colours(netOf(6, 0, 1, 5, 5));

    says(25, "BEYOND: i is not 0 to 10.");
    RoundFlows x = four();
    dueOfEach(BEYOND, x.colourPoly(-1), x.colourPoly(11), x.colourPoly(LOW), x.colourPoly(HIGH));
    dueInTurn(row(x.colourPoly(0), x.colourPoly(10), netOf(6).colourPoly(6)), 0, 0, 1);
  }

  private static void worth() {
    says(26, "The worth of the FLOW POLY (colours: the COLOUR POLY) at m.");
    RoundFlows x = four();
    for (int m = -6; m <= 12; m++) {
      due(x.worth(false, m), (long) (m - 1) * (m - 2) * (m - 3));
      due(x.worth(true, m), (long) m * (m - 1) * (m - 2) * (m - 3));
    }
    dueInTurn(row(prism().worth(true, 2), prism().worth(true, 3)), 0, 12);
    dueInTurn(row(netOf(2).worth(false, 1), netOf(2).worth(false, -6), netOf(2).worth(true, 12)), 1, 1, 144);
    dueInTurn(row(new RoundFlows().worth(true, 0), new RoundFlows().worth(true, 1)), 1, 1);
    // Answers that no int can hold.
    dueInTurn(row(loops(10).worth(false, 12), loops(10).worth(false, -6)), 25937424601L, 282475249);
    due(beside(10).worth(false, 12), (25937424601L + 11) / 12);
    // An answer of its own may be as low as a finding; it is none.
    x = loops(9);
    due(x.worth(false, -6), -40353607);
    due(x.told(3), 0);

    says(26, "BEYOND: m is not -6 to 12.");
    x = four();
    dueOfEach(BEYOND, x.worth(false, -7), x.worth(true, -7), x.worth(false, 13), x.worth(true, 13));
    dueOfEach(BEYOND, x.worth(false, LOW), x.worth(true, LOW), x.worth(false, HIGH), x.worth(true, HIGH));
    due(x.told(3), 8);
    dueInTurn(row(x.worth(true, -6), x.worth(true, 12)), 3024, 11880);
  }

  private static void worthKeepsUp() {
    says(26, "The worth of the FLOW POLY (colours: the COLOUR POLY) at m.");
    RoundFlows x = four();
    due(x.worth(true, 4), 24);
    x.take(5);
    due(x.worth(true, 4), 48);
    x.undo();
    due(x.worth(true, 4), 24);
    x.post();
    due(x.worth(true, 4), 96);
    x.road(4, 4);
    due(x.worth(true, 4), 0);
    x.undo();
    x.road(4, 0);
    due(x.worth(true, 4), 72);
    due(x.worth(false, 4), 0);
    x.melt(6);
    due(x.worth(true, 4), 24);
    x.sheet(0, 8, 2);
    x.lay(0);
    due(x.worth(true, 4), 0);
    due(x.worth(false, 4), 18);
    x.anew();
    due(x.worth(true, 4), 1);
  }
}
