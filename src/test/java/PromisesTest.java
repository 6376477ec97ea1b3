/** Each promise of the document by answers worked out by hand: ordinary inputs, edges, wrong inputs. */
public final class PromisesTest {
  private static final int BEYOND = -1000001;
  private static final int MISSING = -1000002;
  private static final int SIZE = -1000003;
  private static final int KIND = -1000004;
  private static final int FULL = -1000005;
  private static final int NONE = -1000006;
  private static final int LONG = -1000007;
  private static final int OFF = -1000008;
  private static final int LOW = Integer.MIN_VALUE;
  private static final int HIGH = Integer.MAX_VALUE;

  private static int wrong = 0;
  private static int asked = 0;

  private static void due(String call, long got, long want) {
    asked++;
    if (got != want) {
      wrong++;
      System.out.println(call + " answered " + got + ", due is " + want);
    }
  }

  /** A net of so many posts, its roads given by pairs of posts. */
  private static RoundFlows netOf(int posts, int... pairs) {
    RoundFlows x = new RoundFlows();
    for (int i = 0; i < posts; i++) {
      x.post();
    }
    for (int i = 0; i < pairs.length; i += 2) {
      x.road(pairs[i], pairs[i + 1]);
    }
    return x;
  }

  private static void numbers(RoundFlows x, int... values) {
    for (int i = 0; i < values.length; i++) {
      x.set(i, values[i]);
    }
  }

  private static RoundFlows four() {
    return netOf(4, 0, 1, 1, 2, 2, 3, 3, 0, 0, 2, 1, 3);
  }

  private static RoundFlows loops(int many) {
    RoundFlows x = netOf(1);
    for (int i = 0; i < many; i++) {
      x.road(0, 0);
    }
    return x;
  }

  private static RoundFlows sideBySide(int many) {
    RoundFlows x = netOf(2);
    for (int i = 0; i < many; i++) {
      x.road(0, 1);
    }
    return x;
  }

  private static RoundFlows prism() {
    return netOf(6, 0, 1, 1, 2, 2, 0, 3, 4, 4, 5, 5, 3, 0, 3, 1, 4, 2, 5);
  }

  private static RoundFlows fiveAll() {
    return netOf(5, 0, 1, 0, 2, 0, 3, 0, 4, 1, 2, 1, 3, 1, 4, 2, 3, 2, 4, 3, 4);
  }

  private static void newObject() {
    RoundFlows x = new RoundFlows();
    due("1 told(0)", x.told(0), 0);
    due("1 told(1)", x.told(1), 0);
    due("1 told(2)", x.told(2), 0);
    due("1 told(3)", x.told(3), 0);
    for (int i = 0; i < 4; i++) {
      due("1 bring", x.bring(i), NONE);
      due("1 lay", x.lay(i), MISSING);
    }
    due("1 undo", x.undo(), NONE);
    due("1 told(3) after", x.told(3), 9);
    due("1 excess", x.excess(0), BEYOND);
    due("1 whole", x.whole(), 1);
    due("1 off", x.off(), 0);
  }

  private static void anew() {
    RoundFlows x = four();
    x.group(5);
    x.keep(2);
    x.sheet(1, 8, 3);
    due("2 anew", x.anew(), 6);
    due("2 posts", x.told(0), 0);
    due("2 roads", x.told(1), 0);
    due("2 group", x.told(2), 0);
    due("2 slot stays", x.as(2, 1), 6);
    due("2 sheet stays", x.put(1, 2, 1), 0);
    due("2 again", x.anew(), 0);
    due("2 road", x.road(0, 0), BEYOND);
    due("2 post", x.post(), 0);
    x.undo();
    x.undo();
    x.undo();
    due("2 undone group", x.told(2), 5);
    due("2 undone roads", x.told(1), 6);
    due("2 undone end", x.of(5, 1), 3);
  }

  private static void post() {
    RoundFlows x = new RoundFlows();
    for (int i = 0; i < 6; i++) {
      due("3 post", x.post(), i);
    }
    due("3 full", x.post(), FULL);
    due("3 posts", x.told(0), 6);
    due("3 undo", x.undo(), 5);
    due("3 post again", x.post(), 5);
  }

  private static void road() {
    RoundFlows x = netOf(2);
    due("4 road", x.road(0, 1), 0);
    due("4 loop", x.road(1, 1), 1);
    due("4 beside", x.road(0, 1), 2);
    due("4 from", x.of(0, 0), 0);
    due("4 to", x.of(0, 1), 1);
    due("4 length", x.of(0, 2), 1);
    due("4 number", x.of(0, 3), 0);
    due("4 no from", x.road(2, 0), BEYOND);
    due("4 no to", x.road(0, 2), BEYOND);
    due("4 below", x.road(-1, 0), BEYOND);
    due("4 far", x.road(LOW, HIGH), BEYOND);
    for (int i = 3; i < 10; i++) {
      due("4 road", x.road(1, 0), i);
    }
    due("4 beyond ahead of full", x.road(0, 2), BEYOND);
    due("4 full", x.road(0, 0), FULL);
    due("4 roads", x.told(1), 10);
    RoundFlows y = netOf(1, 0, 0);
    y.set(0, 7);
    y.length(0, 4);
    y.take(0);
    y.road(0, 0);
    due("4 new number", y.of(0, 3), 0);
    due("4 new length", y.of(0, 2), 1);
  }

  private static void length() {
    RoundFlows x = netOf(2, 0, 1);
    due("5 length", x.length(0, 9), 1);
    due("5 length", x.length(0, 1), 9);
    due("5 low", x.length(0, 0), BEYOND);
    due("5 high", x.length(0, 10), BEYOND);
    due("5 no road", x.length(1, 5), BEYOND);
    due("5 below", x.length(-1, 5), BEYOND);
    due("5 stays", x.of(0, 2), 1);
  }

  private static void turn() {
    RoundFlows x = netOf(2, 0, 1, 1, 1);
    x.set(0, 7);
    due("6 turn", x.turn(0), -7);
    due("6 from", x.of(0, 0), 1);
    due("6 to", x.of(0, 1), 0);
    x.group(5);
    due("6 by the group", x.of(0, 3), 3);
    due("6 whatever the group", x.turn(0), 7);
    due("6 and back", x.turn(0), -7);
    x.set(1, 4);
    due("6 loop", x.turn(1), -4);
    due("6 no road", x.turn(2), BEYOND);
    due("6 below", x.turn(-1), BEYOND);
  }

  private static void take() {
    RoundFlows x = netOf(3, 0, 1, 1, 2, 2, 0);
    numbers(x, 5, 6, 7);
    x.length(2, 8);
    due("7 take", x.take(1), 2);
    due("7 first", x.of(0, 3), 5);
    due("7 from", x.of(1, 0), 2);
    due("7 to", x.of(1, 1), 0);
    due("7 length", x.of(1, 2), 8);
    due("7 number", x.of(1, 3), 7);
    due("7 gone", x.of(2, 0), BEYOND);
    due("7 posts stay", x.told(0), 3);
    due("7 last", x.take(1), 1);
    due("7 no road", x.take(1), BEYOND);
    due("7 below", x.take(-1), BEYOND);
    due("7 none left", x.take(0), 0);
    due("7 none", x.take(0), BEYOND);
  }

  private static void melt() {
    RoundFlows x = netOf(4, 3, 1, 1, 3, 2, 3, 0, 2, 3, 3);
    numbers(x, 1, 2, 3, 4, 5);
    x.length(2, 6);
    due("8 melt", x.melt(0), 3);
    due("8 roads", x.told(1), 4);
    due("8 became a loop", x.of(0, 0), 1);
    due("8 became a loop", x.of(0, 1), 1);
    due("8 higher post stays", x.of(1, 0), 2);
    due("8 end moved", x.of(1, 1), 1);
    due("8 length moved", x.of(1, 2), 6);
    due("8 number moved", x.of(1, 3), 3);
    due("8 loop moved", x.of(3, 0), 1);
    due("8 loop", x.melt(0), KIND);
    due("8 no road", x.melt(4), BEYOND);
    due("8 below", x.melt(-1), BEYOND);
    RoundFlows y = netOf(5, 1, 3, 4, 2, 0, 4);
    due("8 behind the other", y.melt(0), 4);
    due("8 four is three", y.of(0, 0), 3);
    due("8 two stays", y.of(0, 1), 2);
    due("8 nought stays", y.of(1, 0), 0);
    due("8 undo", y.undo(), 8);
    due("8 as before", y.of(1, 0), 4);
  }

  private static void of() {
    RoundFlows x = netOf(3, 2, 1);
    x.length(0, 3);
    x.set(0, -8);
    due("9 from", x.of(0, 0), 2);
    due("9 to", x.of(0, 1), 1);
    due("9 length", x.of(0, 2), 3);
    due("9 number", x.of(0, 3), -8);
    x.group(3);
    due("9 rest", x.of(0, 3), 1);
    due("9 what", x.of(0, 4), BEYOND);
    due("9 what below", x.of(0, -1), BEYOND);
    due("9 no road", x.of(1, 0), BEYOND);
    due("9 below", x.of(-1, 0), BEYOND);
  }

  private static void undo() {
    RoundFlows x = new RoundFlows();
    due("10 none", x.undo(), NONE);
    x.post();
    x.post();
    x.road(0, 1);
    x.length(0, 5);
    x.turn(0);
    x.set(0, 3);
    x.group(4);
    x.times(2);
    x.keep(0);
    x.add(0);
    x.bring(0);
    x.sheet(0, 8, 2);
    x.lay(0);
    x.take(1);
    x.find(2);
    x.melt(0);
    x.anew();
    due("10 anew undone", x.undo(), 13);
    due("10 melt undone", x.undo(), 12);
    due("10 posts", x.told(0), 2);
    due("10 take undone (find found none)", x.undo(), 11);
    due("10 roads", x.told(1), 2);
    due("10 lay undone", x.undo(), 10);
    due("10 roads", x.told(1), 1);
    due("10 bring undone", x.undo(), 9);
    due("10 add stands", x.turn(0), -12);
    due("10 turn undone", x.undo(), 9);
    due("10 add undone", x.undo(), 8);
    due("10 times undone", x.undo(), 7);
    due("10 number", x.of(0, 3), 3);
    due("10 group undone", x.undo(), 6);
    due("10 group", x.told(2), 0);
    due("10 set undone", x.undo(), 5);
    due("10 number", x.of(0, 3), 0);
    due("10 turn undone", x.undo(), 4);
    due("10 from", x.of(0, 0), 0);
    due("10 length undone", x.undo(), 3);
    due("10 length", x.of(0, 2), 1);
    due("10 road undone", x.undo(), 2);
    due("10 post undone", x.undo(), 1);
    due("10 post undone", x.undo(), 0);
    due("10 none left", x.undo(), NONE);
    due("10 slot stays", x.as(0, 1), 1);
    due("10 sheet stays", x.lay(0), BEYOND);
    due("10 findings stay", x.told(3), 4);
  }

  private static void undoKeepsTwentyFive() {
    RoundFlows x = netOf(1, 0, 0);
    for (int i = 1; i <= 60; i++) {
      x.set(0, i);
    }
    for (int i = 0; i < 25; i++) {
      due("10 undo of many", x.undo(), 24 - i);
      due("10 number of many", x.of(0, 3), 59 - i);
    }
    due("10 older ones are gone", x.undo(), NONE);
    due("10 nothing changed", x.of(0, 3), 35);
    x.set(0, 35);
    due("10 changed nothing, is kept", x.undo(), 0);
    x.set(0, 101);
    due("10 a finding is not kept", x.undo(), NONE);
    RoundFlows y = loops(1);
    y.find(3);
    due("10 find", y.of(0, 3), 1);
    due("10 find undone", y.undo(), 2);
    due("10 as before", y.of(0, 3), 0);
  }

  private static void sheet() {
    RoundFlows x = netOf(6);
    due("11 sheet", x.sheet(0, 8, 24), 24);
    due("11 sheet", x.sheet(3, 16, 0), 0);
    due("11 sheet", x.sheet(1, 32, 2), 2);
    due("11 empty is there", x.lay(3), 0);
    x.put(1, 0, 5);
    due("11 anew", x.sheet(1, 32, 2), 2);
    due("11 all nought", x.lay(1), 1);
    due("11 all nought", x.of(0, 0), 0);
    due("11 missing", x.sheet(1, 0, 5), 0);
    due("11 is missing", x.lay(1), MISSING);
    due("11 no sheet", x.sheet(4, 8, 1), BEYOND);
    due("11 no sheet", x.sheet(-1, 8, 1), BEYOND);
    due("11 bits", x.sheet(0, 7, 1), BEYOND);
    due("11 bits", x.sheet(0, 64, 1), BEYOND);
    due("11 bits", x.sheet(0, -8, -1), BEYOND);
    due("11 size", x.sheet(0, 8, -1), SIZE);
    due("11 too many", x.sheet(0, 8, 25), BEYOND);
    due("11 far", x.sheet(0, 8, HIGH), BEYOND);
    due("11 as it was", x.put(0, 23, 1), 0);
  }

  private static void put() {
    RoundFlows x = netOf(3);
    x.sheet(0, 8, 2);
    x.sheet(1, 16, 2);
    x.sheet(2, 32, 2);
    due("12 put", x.put(0, 0, 256 + 2), 0);
    due("12 put", x.put(0, 1, -255), 0);
    x.lay(0);
    due("12 lowest 8 bits", x.of(0, 0), 2);
    due("12 lowest 8 bits", x.of(0, 1), 1);
    due("12 put", x.put(1, 0, 65536 + 1), 0);
    due("12 put", x.put(1, 1, -65534), 0);
    x.lay(1);
    due("12 lowest 16 bits", x.of(1, 0), 1);
    due("12 lowest 16 bits", x.of(1, 1), 2);
    x.put(1, 0, 257);
    due("12 all of 16 bits", x.lay(1), BEYOND);
    x.put(2, 0, 65536);
    due("12 all of 32 bits", x.lay(2), BEYOND);
    due("12 no sheet", x.put(4, 0, 1), BEYOND);
    due("12 no sheet", x.put(-1, 0, 1), BEYOND);
    due("12 missing ahead of number", x.put(3, 99, 1), MISSING);
    due("12 no number", x.put(0, 2, 1), BEYOND);
    due("12 no number", x.put(0, -1, 1), BEYOND);
    due("12 no number", x.put(0, HIGH, 1), BEYOND);
  }

  private static void copy() {
    RoundFlows x = netOf(6);
    x.sheet(0, 8, 6);
    for (int i = 0; i < 6; i++) {
      x.put(0, i, i);
    }
    x.sheet(1, 8, 4);
    due("13 copy", x.copy(0, 3, 1, 1, 3), 3);
    x.lay(1);
    due("13 copied", x.of(0, 0), 0);
    due("13 copied", x.of(0, 1), 3);
    due("13 copied", x.of(1, 0), 4);
    due("13 copied", x.of(1, 1), 5);
    x.anew();
    for (int i = 0; i < 6; i++) {
      x.post();
    }
    due("13 over itself", x.copy(0, 0, 0, 1, 5), 5);
    x.lay(0);
    due("13 over itself", x.of(0, 0), 0);
    due("13 over itself", x.of(0, 1), 0);
    due("13 over itself", x.of(1, 0), 1);
    due("13 over itself", x.of(2, 1), 4);
    due("13 none", x.copy(0, 6, 1, 4, 0), 0);
    due("13 no sheet", x.copy(4, 0, 0, 0, 1), BEYOND);
    due("13 no sheet", x.copy(0, 0, -1, 0, 1), BEYOND);
    due("13 missing", x.copy(0, 0, 2, 0, 1), MISSING);
    due("13 missing", x.copy(2, 0, 0, 0, 1), MISSING);
    x.sheet(2, 16, 4);
    due("13 kind ahead of beyond", x.copy(0, 9, 2, 0, 1), KIND);
    due("13 from", x.copy(0, 5, 1, 0, 2), BEYOND);
    due("13 to", x.copy(0, 0, 1, 3, 2), BEYOND);
    due("13 from below", x.copy(0, -1, 1, 0, 1), BEYOND);
    due("13 to below", x.copy(0, 0, 1, -1, 1), BEYOND);
    due("13 n below", x.copy(0, 0, 1, 0, -1), BEYOND);
    due("13 far", x.copy(0, HIGH, 1, 0, HIGH), BEYOND);
    due("13 far", x.copy(0, 1, 1, 1, HIGH), BEYOND);
  }

  private static void lay() {
    RoundFlows x = netOf(2, 0, 0);
    x.sheet(0, 8, 5);
    x.put(0, 1, 1);
    x.put(0, 2, 1);
    x.put(0, 4, 9);
    due("14 lay, the last alone", x.lay(0), 2);
    due("14 from", x.of(1, 0), 0);
    due("14 to", x.of(1, 1), 1);
    due("14 from", x.of(2, 0), 1);
    due("14 to", x.of(2, 1), 0);
    due("14 length", x.of(2, 2), 1);
    due("14 number", x.of(2, 3), 0);
    due("14 no sheet", x.lay(4), BEYOND);
    due("14 no sheet", x.lay(-1), BEYOND);
    due("14 missing", x.lay(1), MISSING);
    x.sheet(1, 8, 16);
    due("14 full", x.lay(1), FULL);
    x.put(1, 15, 2);
    due("14 beyond ahead of full", x.lay(1), BEYOND);
    due("14 none laid", x.told(1), 3);
    x.sheet(1, 8, 14);
    due("14 up to ten", x.lay(1), 7);
    due("14 one act", x.undo(), 4);
    due("14 roads", x.told(1), 3);
  }

  private static void group() {
    RoundFlows x = netOf(1, 0, 0);
    x.set(0, -5);
    due("15 group", x.group(12), 0);
    due("15 rest", x.of(0, 3), 7);
    due("15 group", x.group(2), 12);
    due("15 rest", x.of(0, 3), 1);
    due("15 same", x.group(2), 2);
    due("15 one", x.group(1), BEYOND);
    due("15 high", x.group(13), BEYOND);
    due("15 below", x.group(-2), BEYOND);
    due("15 back", x.group(0), 2);
    due("15 numbers stay", x.of(0, 3), -5);
  }

  private static void set() {
    RoundFlows x = netOf(1, 0, 0);
    due("16 set", x.set(0, 100), 0);
    due("16 set", x.set(0, -100), 100);
    due("16 high", x.set(0, 101), BEYOND);
    due("16 low", x.set(0, -101), BEYOND);
    due("16 no road", x.set(1, 1), BEYOND);
    due("16 below", x.set(-1, 1), BEYOND);
    x.group(7);
    due("16 was, by the group", x.set(0, 3), 5);
  }

  private static void excess() {
    RoundFlows x = netOf(2, 0, 1, 0, 1, 1, 1);
    numbers(x, 4, 3, 50);
    due("17 in", x.excess(1), 7);
    due("17 out", x.excess(0), -7);
    x.group(5);
    due("17 in", x.excess(1), 2);
    due("17 out", x.excess(0), 3);
    due("17 no post", x.excess(2), BEYOND);
    due("17 below", x.excess(-1), BEYOND);
  }

  private static void off() {
    RoundFlows x = netOf(4, 0, 1, 1, 2, 2, 2);
    due("18 none", x.off(), 0);
    numbers(x, 6, 3, 1);
    due("18 off", x.off(), 3);
    x.group(3);
    due("18 by rests", x.off(), 0);
    x.group(6);
    due("18 by rests", x.off(), 2);
  }

  private static void whole() {
    RoundFlows x = netOf(2, 0, 1, 1, 0);
    due("19 nought", x.whole(), 0);
    numbers(x, 2, 2);
    due("19 whole", x.whole(), 1);
    x.group(2);
    due("19 nought by rests", x.whole(), 0);
    x.group(3);
    due("19 by rests", x.whole(), 1);
    x.set(0, -1);
    due("19 by rests", x.whole(), 1);
    x.group(0);
    due("19 off", x.whole(), 0);
    due("19 no roads", netOf(3).whole(), 1);
  }

  private static void find() {
    RoundFlows x = four();
    x.group(6);
    due("20 none", x.find(3), NONE);
    due("20 group stays", x.told(2), 6);
    due("20 find", x.find(4), 4);
    due("20 group", x.told(2), 0);
    // 1 on road 1 would leave 0 for road 5; -1 leaves it 2, and road 2 can have 1.
    int[] first = {1, -1, 1, 3, 2, 2};
    for (int i = 0; i < 6; i++) {
      due("20 road " + i, x.of(i, 3), first[i]);
    }
    due("20 whole", x.whole(), 1);
    due("20 low", x.find(1), BEYOND);
    due("20 high", x.find(7), BEYOND);
    due("20 bridge", netOf(2, 0, 1).find(6), NONE);
    RoundFlows three = sideBySide(3);
    due("20 three", three.find(2), NONE);
    due("20 three", three.find(3), 3);
    due("20 three", three.of(0, 3), 1);
    due("20 three", three.of(1, 3), 1);
    due("20 three", three.of(2, 3), -2);
    RoundFlows bare = netOf(2);
    bare.group(3);
    due("20 no roads", bare.find(2), 2);
    due("20 no roads, group", bare.told(2), 0);
    RoundFlows loop = loops(10);
    due("20 loops", loop.find(6), 6);
    due("20 loops", loop.of(9, 3), 1);
  }

  private static void sized() {
    RoundFlows x = four();
    due("21 two", x.sized(2), 0);
    due("21 three", x.sized(3), 0);
    due("21 four", x.sized(4), 24);
    due("21 low", x.sized(1), BEYOND);
    due("21 high", x.sized(5), BEYOND);
    due("21 no roads", netOf(1).sized(3), 1);
    due("21 bridge", netOf(3, 0, 0, 0, 1).sized(4), 0);
    due("21 six loops", loops(6).sized(4), 46656);
    due("21 seven loops", loops(7).sized(2), LONG);
    due("21 beyond ahead of long", loops(7).sized(5), BEYOND);
    due("21 three beside", sideBySide(3).sized(3), 6);
    // Two of 1, -1, 2, -2 make 0 in 4 ways, 1, -1, 3, -3 in 2 each, 2, -2, 4, -4 in 1 each.
    due("21 four beside", sideBySide(4).sized(2), 6);
    due("21 four beside", sideBySide(4).sized(3), 4 * 4 + 4 * 2 * 2 + 4);
    due("21 seven beside", sideBySide(7).sized(2), 0);
    due("21 long, though a bridge", netOf(2, 0, 1, 0, 0, 0, 0, 0, 0, 0, 0, 0, 0, 0, 0, 0, 0).sized(3), LONG);
  }

  private static void least() {
    due("22 no roads", netOf(2).least(), 1);
    due("22 none", new RoundFlows().least(), 1);
    due("22 four", four().least(), 4);
    due("22 loop", loops(1).least(), 2);
    due("22 three", sideBySide(3).least(), 3);
    due("22 ten", sideBySide(10).least(), 2);
    due("22 bridge", netOf(3, 0, 1, 1, 0, 1, 2).least(), NONE);
    due("22 prism", prism().least(), 4);
    due("22 five", fiveAll().least(), 2);
    RoundFlows x = four();
    x.least();
    due("22 flow stays", x.of(0, 3), 0);
  }

  private static void rounds() {
    // 0 -> 1 -> 2 -> 1 comes to 1 again: the round is that of 1 and 2, not from the start.
    RoundFlows x = netOf(3, 0, 1, 1, 2, 2, 1, 2, 0, 2, 2);
    numbers(x, 2, 5, 3, 2, 4);
    due("23 how many", x.rounds(-1, false), 3);
    due("23 how many", x.rounds(-1, true), 3);
    due("23 first", x.rounds(0, false), 6);
    due("23 its number", x.rounds(0, true), 3);
    due("23 second", x.rounds(1, false), 11);
    due("23 its number", x.rounds(1, true), 2);
    due("23 third", x.rounds(2, false), 16);
    due("23 its number", x.rounds(2, true), 4);
    due("23 no more", x.rounds(3, false), NONE);
    due("23 below", x.rounds(-2, false), NONE);
    due("23 flow stays", x.of(0, 3), 2);
    x.set(3, -2);
    due("23 off ahead of size", x.rounds(-1, false), OFF);
    numbers(x, -2, -2, 0, -2, 4);
    due("23 size ahead of none", x.rounds(9, false), SIZE);
    x.group(2);
    due("23 kind ahead of size", x.rounds(-1, false), KIND);
    due("23 nought", netOf(2, 0, 1).rounds(-1, false), 0);
    due("23 nought", netOf(2, 0, 1).rounds(0, false), NONE);
    RoundFlows ten = loops(10);
    for (int i = 0; i < 10; i++) {
      ten.set(i, 100 - i);
    }
    due("23 ten loops", ten.rounds(-1, true), 10);
    due("23 ten loops", ten.rounds(9, false), 512);
    due("23 ten loops", ten.rounds(0, true), 100);
  }

  private static void flowPoly() {
    RoundFlows x = four();
    int[] want = {-6, 11, -6, 1, 0, 0, 0, 0, 0, 0, 0};
    for (int i = 0; i < 11; i++) {
      due("24 four " + i, x.flowPoly(i), want[i]);
    }
    due("24 below", x.flowPoly(-1), BEYOND);
    due("24 above", x.flowPoly(11), BEYOND);
    due("24 no roads", netOf(3).flowPoly(0), 1);
    due("24 no roads", netOf(3).flowPoly(1), 0);
    due("24 bridge", netOf(2, 0, 1).flowPoly(0), 0);
    due("24 ten loops", loops(10).flowPoly(10), 1);
    due("24 ten loops", loops(10).flowPoly(5), -252);
    due("24 ten loops", loops(10).flowPoly(0), 1);
    due("24 loop", loops(1).flowPoly(0), -1);
    x.take(0);
    due("24 after a take", x.flowPoly(2), 1);
    due("24 after a take", x.flowPoly(0), 2);
    x.undo();
    due("24 after an undo", x.flowPoly(0), -6);
  }

  private static void colourPoly() {
    RoundFlows x = four();
    int[] want = {0, -6, 11, -6, 1, 0, 0, 0, 0, 0, 0};
    for (int i = 0; i < 11; i++) {
      due("25 four " + i, x.colourPoly(i), want[i]);
    }
    due("25 below", x.colourPoly(-1), BEYOND);
    due("25 above", x.colourPoly(11), BEYOND);
    due("25 no posts", new RoundFlows().colourPoly(0), 1);
    due("25 bare posts", netOf(6).colourPoly(6), 1);
    due("25 loop", netOf(2, 0, 0).colourPoly(2), 0);
    due("25 beside", sideBySide(5).colourPoly(2), 1);
    due("25 beside", sideBySide(5).colourPoly(1), -1);
    x.post();
    due("25 a post more", x.colourPoly(5), 1);
    due("25 a post more", x.colourPoly(2), -6);
  }

  private static void worth() {
    RoundFlows x = four();
    due("26 flows", x.worth(false, 5), 24);
    due("26 colours", x.worth(true, 5), 120);
    due("26 at 1", x.worth(false, 1), 0);
    due("26 at 0", x.worth(false, 0), -6);
    due("26 at -6", x.worth(true, -6), 3024);
    due("26 at 12", x.worth(true, 12), 11880);
    due("26 low", x.worth(true, -7), BEYOND);
    due("26 high", x.worth(false, 13), BEYOND);
    due("26 beyond an int", loops(10).worth(false, 12), 25937424601L);
    due("26 no roads", netOf(2).worth(false, 1), 1);
    due("26 no posts", new RoundFlows().worth(true, 0), 1);
    due("26 a finding", x.told(3), 2);
    // Flows by rests modulo m of m roads side by side, counted: ((m - 1)^3 + (m - 1)) / m of three.
    due("26 three beside", sideBySide(3).worth(false, 4), 6);
  }

  private static void bridges() {
    due("27 none", four().bridges(), 0);
    due("27 no roads", netOf(1).bridges(), 0);
    due("27 all", netOf(3, 0, 1, 2, 1).bridges(), 3);
    due("27 loop is none", netOf(2, 0, 0, 0, 1, 1, 1).bridges(), 2);
    due("27 beside are none", netOf(3, 0, 1, 1, 2, 1, 0).bridges(), 2);
    due("27 between rounds", netOf(6, 0, 1, 1, 2, 2, 3, 3, 4, 4, 5, 5, 3, 2, 0).bridges(), 4);
  }

  private static void even() {
    RoundFlows x = netOf(3, 0, 1, 1, 2, 2, 0, 0, 1, 2, 2);
    int[] want = {0, 7, 9, 14, 16, 23, 25, 30};
    due("28 how many", x.even(-1), 8);
    for (int i = 0; i < 8; i++) {
      due("28 even " + i, x.even(i), want[i]);
    }
    due("28 no more", x.even(8), NONE);
    due("28 below", x.even(-2), NONE);
    due("28 far", x.even(HIGH), NONE);
    due("28 no roads", netOf(2).even(-1), 1);
    due("28 no roads", netOf(2).even(0), 0);
    due("28 ten loops", loops(10).even(-1), 1024);
    due("28 ten loops", loops(10).even(1000), 1000);
  }

  private static void fours() {
    due("29 four", four().fours(), 2048 * 15 + 53);
    due("29 no roads", netOf(2).fours(), 0);
    due("29 loop", loops(2).fours(), 3);
    // Three beside: 3, 5 and 6 are even, and the first two of them have all.
    due("29 three beside", sideBySide(3).fours(), 2048 * 3 + 5);
    due("29 bridge", netOf(3, 0, 1, 1, 0, 1, 2).fours(), NONE);
    due("29 all even", fiveAll().fours(), 1023);
  }

  private static void twice() {
    due("30 four", four().twice(), 3);
    due("30 prism", prism().twice(), 3);
    due("30 loops", loops(4).twice(), 2);
    due("30 no roads", netOf(3).twice(), 0);
    due("30 three beside", sideBySide(3).twice(), 3);
    due("30 four beside", sideBySide(4).twice(), 2);
    due("30 bridge", netOf(2, 0, 1).twice(), NONE);
    due("30 long", loops(5).twice(), LONG);
    due("30 none ahead of long", netOf(2, 0, 1, 0, 0, 0, 0, 0, 0, 0, 0, 0, 0).twice(), NONE);
  }

  private static void walked() {
    due("31 no roads", netOf(2).walked(false), 0);
    due("31 all even", fiveAll().walked(false), 0);
    due("31 all even", fiveAll().walked(true), 0);
    RoundFlows x = four();
    due("31 least set of the least", x.walked(true), 5);
    x.length(0, 2);
    due("31 another", x.walked(true), 10);
    due("31 its sum", x.walked(false), 2);
    x.length(1, 9);
    x.length(4, 9);
    due("31 longer", x.walked(false), 3);
    due("31 longer", x.walked(true), 5);
    // Posts 0 and 2 are odd: the way round over 1 is shorter than a road between.
    RoundFlows y = netOf(3, 0, 1, 1, 2, 0, 2, 0, 2);
    y.length(2, 3);
    y.length(3, 3);
    due("31 way round", y.walked(false), 2);
    due("31 way round", y.walked(true), 3);
    y.length(3, 2);
    due("31 as long, but a higher set", y.walked(true), 3);
    y.length(3, 1);
    due("31 straight on", y.walked(true), 8);
    due("31 bridge", netOf(2, 0, 1).walked(true), 1);
  }

  private static void trees() {
    due("32 four", four().trees(), 16);
    due("32 five", fiveAll().trees(), 125);
    due("32 prism", prism().trees(), 75);
    due("32 no posts", new RoundFlows().trees(), 1);
    due("32 bare posts", netOf(6).trees(), 1);
    due("32 loops", loops(5).trees(), 1);
    due("32 beside", sideBySide(10).trees(), 10);
    due("32 two pieces", netOf(5, 0, 1, 1, 2, 2, 0, 3, 4, 4, 3).trees(), 6);
  }

  private static void count() {
    RoundFlows x = netOf(6, 0, 1, 1, 2, 2, 0, 3, 4);
    due("33 pieces", x.count(0), 3);
    due("33 genus", x.count(1), 1);
    due("33 rounds", x.count(2), 0);
    due("33 no rounds", x.count(3), 12);
    x.road(4, 3);
    due("33 rounds", x.count(2), 4);
    due("33 no rounds", x.count(3), 12);
    x.road(5, 5);
    due("33 loops both ways", x.count(2), 8);
    due("33 a loop is one", x.count(3), 0);
    due("33 what", x.count(4), BEYOND);
    due("33 what below", x.count(-1), BEYOND);
    due("33 nothing", new RoundFlows().count(0), 0);
    due("33 nothing", new RoundFlows().count(1), 0);
    due("33 nothing", new RoundFlows().count(2), 1);
    due("33 nothing", netOf(3).count(3), 1);
    due("33 five", fiveAll().count(3), 120);
    due("33 ten loops", loops(10).count(2), 1024);
  }

  private static void faces() {
    due("34 no posts", new RoundFlows().faces(), 0);
    due("34 bare posts", netOf(4).faces(), 4);
    due("34 road", netOf(3, 0, 1).faces(), 2);
    due("34 loop", loops(1).faces(), 2);
    due("34 two loops", loops(2).faces(), 3);
    due("34 three round", netOf(3, 0, 1, 1, 2, 2, 0).faces(), 2);
    due("34 three beside", sideBySide(3).faces(), 1);
    due("34 two beside", sideBySide(2).faces(), 2);
    due("34 four", four().faces(), 2);
  }

  private static void face() {
    RoundFlows x = loops(2);
    due("35 outer", x.face(0, false), 2);
    due("35 inner", x.face(0, true), 1);
    due("35 outer", x.face(1, false), 2);
    due("35 inner", x.face(1, true), 1);
    x.turn(0);
    due("35 a turned loop is the same", x.face(0, false), 2);
    due("35 three beside", sideBySide(3).face(2, true), 6);
    due("35 four", four().face(0, false), 9);
    due("35 four", four().face(0, true), 3);
    due("35 no road", x.face(2, false), BEYOND);
    due("35 below", x.face(-1, true), BEYOND);
  }

  private static void keep() {
    RoundFlows x = netOf(2, 0, 1, 1, 0);
    due("36 flow", x.keep(0), 0);
    numbers(x, 3, 3);
    due("36 sized", x.keep(1), 3);
    x.group(3);
    due("36 rests", x.keep(2), 1);
    x.group(2);
    due("36 bits", x.keep(3), 2);
    due("36 no slot", x.keep(4), BEYOND);
    due("36 below", x.keep(-1), BEYOND);
    due("36 not an act to undo", x.undo(), 7);
    x.group(0);
    x.set(0, 2);
    due("36 off", x.keep(1), 0);
    due("36 no roads", netOf(1).keep(0), 3);
  }

  private static void bring() {
    RoundFlows x = netOf(2, 0, 1, 1, 0);
    numbers(x, 7, -7);
    x.group(5);
    x.keep(1);
    x.group(0);
    numbers(x, 1, 1);
    due("37 bring", x.bring(1), 1);
    due("37 group", x.told(2), 5);
    due("37 rest", x.of(1, 3), 3);
    x.group(0);
    due("37 number as it was", x.of(1, 3), -7);
    due("37 undo group", x.undo(), 11);
    due("37 undo bring", x.undo(), 10);
    due("37 group", x.told(2), 0);
    due("37 number", x.of(0, 3), 1);
    x.keep(2);
    x.turn(0);
    due("37 the kind it was kept with", x.bring(2), 3);
    due("37 no slot", x.bring(4), BEYOND);
    due("37 below", x.bring(-1), BEYOND);
    due("37 none", x.bring(0), NONE);
    x.take(0);
    due("37 size", x.bring(1), SIZE);
  }

  private static void add() {
    RoundFlows x = netOf(2, 0, 1, 1, 0);
    numbers(x, 60, -40);
    x.keep(0);
    due("38 full above", x.add(0), FULL);
    due("38 nothing changed", x.of(1, 3), -40);
    numbers(x, 40, -60);
    due("38 up to the limits", x.add(0), 1);
    due("38 high", x.of(0, 3), 100);
    due("38 low", x.of(1, 3), -100);
    numbers(x, 0, -61);
    due("38 full below", x.add(0), FULL);
    due("38 nothing changed", x.of(0, 3), 0);
    numbers(x, 3, 4);
    x.group(7);
    x.keep(1);
    numbers(x, 6, 6);
    due("38 rests", x.add(1), 1);
    due("38 group stays", x.told(2), 7);
    x.group(0);
    due("38 as whole numbers", x.of(0, 3), 9);
    due("38 no slot", x.add(4), BEYOND);
    due("38 below", x.add(-1), BEYOND);
    due("38 none", x.add(3), NONE);
    x.road(0, 0);
    due("38 size", x.add(0), SIZE);
  }

  private static void times() {
    RoundFlows x = netOf(2, 0, 1, 1, 0);
    numbers(x, 10, -10);
    due("39 ten", x.times(10), 1);
    due("39 high", x.of(0, 3), 100);
    due("39 low", x.of(1, 3), -100);
    due("39 full", x.times(2), FULL);
    due("39 turned", x.times(-1), 1);
    due("39 turned", x.of(0, 3), -100);
    due("39 c", x.times(11), BEYOND);
    due("39 c", x.times(-11), BEYOND);
    numbers(x, 4, 4);
    x.group(3);
    x.times(-10);
    due("39 rest", x.of(0, 3), 2);
    x.group(0);
    due("39 whole number", x.of(0, 3), -40);
    due("39 nought", x.times(0), 1);
    due("39 nought", x.of(1, 3), 0);
    due("39 no roads", netOf(1).times(10), 1);
  }

  private static void as() {
    RoundFlows x = netOf(2, 0, 1, 1, 0);
    x.keep(0);
    numbers(x, 1, 1);
    x.keep(3);
    x.group(9);
    x.keep(1);
    x.group(2);
    x.keep(2);
    int[][] want = {{2, KIND, KIND, KIND}, {2, 2, KIND, KIND}, {2, 2, 2, KIND}, {2, KIND, KIND, 2}};
    for (int slot = 0; slot < 4; slot++) {
      for (int kind = 0; kind < 4; kind++) {
        due("40 as " + slot + " " + kind, x.as(slot, kind), want[slot][kind]);
      }
    }
    due("40 no slot", x.as(4, 0), BEYOND);
    due("40 below", x.as(-1, 0), BEYOND);
    due("40 kind", x.as(0, 4), BEYOND);
    due("40 kind below", x.as(0, -1), BEYOND);
    RoundFlows y = new RoundFlows();
    due("40 beyond ahead of none", y.as(0, 4), BEYOND);
    due("40 none", y.as(0, 3), NONE);
    x.take(0);
    due("40 roads it has", x.as(0, 0), 2);
  }

  private static void told() {
    RoundFlows x = netOf(3, 0, 1);
    x.group(8);
    due("41 posts", x.told(0), 3);
    due("41 roads", x.told(1), 1);
    due("41 group", x.told(2), 8);
    due("41 findings", x.told(3), 0);
    due("41 what", x.told(4), BEYOND);
    due("41 what below", x.told(-1), BEYOND);
    due("41 findings", x.told(3), 2);
    x.excess(9);
    x.worth(true, 99);
    x.undo();
    due("41 findings", x.told(3), 4);
  }

  public static void main(String[] args) {
    newObject();
    anew();
    post();
    road();
    length();
    turn();
    take();
    melt();
    of();
    undo();
    undoKeepsTwentyFive();
    sheet();
    put();
    copy();
    lay();
    group();
    set();
    excess();
    off();
    whole();
    find();
    sized();
    least();
    rounds();
    flowPoly();
    colourPoly();
    worth();
    bridges();
    even();
    fours();
    twice();
    walked();
    trees();
    count();
    faces();
    face();
    keep();
    bring();
    add();
    times();
    as();
    told();
    System.out.println(asked + " answers asked, " + wrong + " not as due");
    if (wrong != 0) {
      System.exit(1);
    }
  }
}
