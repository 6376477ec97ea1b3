/** Promises 34 and 35: faces of a net as it is laid out. */
final class FaceSentences extends Bench {
  static void run() {
    layout();
    faces();
    face();
  }

  private static void layout() {
    says(34, "Each road has two ends; at each post ends go round in the order of roads");
    // The same six roads between four posts: in this order all faces have three ends.
    RoundFlows x = netOf(4, 1, 2, 0, 1, 2, 3, 1, 3, 0, 2, 0, 3);
    due(x.faces(), 4);
    for (int i = 0; i < 6; i++) {
      dueOfEach(3, x.face(i, false), x.face(i, true));
    }
    due(four().faces(), 2);
    // How roads point does not change the order.
    due(netOf(2, 0, 1, 0, 1, 1, 0).faces(), 1);
    x.turn(2);
    due(x.faces(), 4);

    says(34, "(of a LOOP the end from which it points first).");
    // From the end to which it points, the next is that of the next road, which comes back there.
    x = netOf(2, 0, 0, 0, 1);
    dueInTurn(row(x.face(0, false), x.face(0, true)), 3, 1);
    x = loops(2);
    dueInTurn(row(x.face(0, false), x.face(0, true), x.face(1, false), x.face(1, true)), 2, 1, 2, 1);
    // A turned LOOP points from where it pointed to: the same again.
    x.turn(0);
    dueInTurn(row(x.face(0, false), x.face(0, true)), 2, 1);
  }

  private static void faces() {
    says(34, "FACES: from an end go along its road to the other end, then to the next end round there, and so on, "
        + "till the first end comes again; each end is on one. How many there are");
    dueInTurn(row(beside(1).faces(), beside(2).faces(), beside(3).faces(), beside(4).faces()), 1, 2, 1, 2);
    dueInTurn(row(ring(3).faces(), ring(6).faces(), loops(1).faces(), loops(2).faces()), 2, 2, 2, 3);
    due(loops(10).faces(), 11);
    // A tree has one, however it goes.
    due(netOf(6, 0, 1, 0, 2, 0, 3, 3, 4, 3, 5).faces(), 1);
    // Nine beside have one face of all ends; a road that leads away from them only makes it longer.
    RoundFlows long20 = beside(9);
    long20.post();
    long20.road(1, 2);
    due(long20.faces(), 1);
    for (int i = 0; i < 10; i++) {
      dueOfEach(20, long20.face(i, false), long20.face(i, true));
    }
    // Two pieces: those of both.
    due(netOf(4, 0, 1, 1, 0, 2, 3).faces(), 3);

    says(34, "(posts without roads have one each).");
    dueInTurn(row(new RoundFlows().faces(), netOf(1).faces(), netOf(6).faces()), 0, 1, 6);
    due(netOf(6, 4, 5).faces(), 5);
    RoundFlows x = beside(1);
    x.take(0);
    // Asked again, it is the same; as posts come and roads go, it is not.
    dueOfEach(2, x.faces(), x.faces());
    x.post();
    due(x.faces(), 3);
    x.road(2, 1);
    due(x.faces(), 2);
  }

  private static void face() {
    says(35, "How many ends the face has that goes out from an end of a road (back: from that to which it points).");
    dueInTurn(row(four().face(0, false), four().face(0, true)), 9, 3);
    dueInTurn(row(beside(1).face(0, false), beside(1).face(0, true)), 2, 2);
    dueInTurn(row(ring(6).face(5, false), ring(6).face(5, true)), 6, 6);
    dueInTurn(row(beside(3).face(2, false), beside(3).face(2, true)), 6, 6);
    dueInTurn(row(loops(10).face(9, false), loops(10).face(9, true)), 10, 1);
    // As the road is turned, back is the other one.
    RoundFlows x = four();
    x.turn(0);
    dueInTurn(row(x.face(0, false), x.face(0, true)), 3, 9);

    says(35, "BEYOND.");
    x = beside(2);
    dueOfEach(BEYOND, x.face(2, false), x.face(2, true), x.face(-1, false), x.face(LOW, true), x.face(HIGH, true));
    dueOfEach(BEYOND, new RoundFlows().face(0, false), netOf(6).face(0, true));
  }
}
