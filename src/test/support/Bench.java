import java.io.IOException;
import java.io.UncheckedIOException;
import java.nio.charset.StandardCharsets;
import java.nio.file.Files;
import java.nio.file.Path;
import java.util.Map;
import java.util.TreeMap;

/** What the tests by sentence share: the document that they quote, answers that are due, nets. */
class Bench {
  static final int BEYOND = -1000001;
  static final int MISSING = -1000002;
  static final int SIZE = -1000003;
  static final int KIND = -1000004;
  static final int FULL = -1000005;
  static final int NONE = -1000006;
  static final int LONG = -1000007;
  static final int OFF = -1000008;
  static final int LOW = Integer.MIN_VALUE;
  static final int HIGH = Integer.MAX_VALUE;
  /** The numbers under which "What it is" and "Terms" stand beside the promises 1 to 41. */
  static final int WHAT_IT_IS = -1;
  static final int TERMS = 0;

  private static final Path DOC = Path.of("../shared/DOC.md");
  private static final int PROMISES = 41;

  private static final Map<Integer, String> texts = new TreeMap<>();
  private static final Map<Integer, boolean[]> quoted = new TreeMap<>();
  private static int promise = TERMS;
  private static String sentence = "";
  private static int askedHere = 1;
  private static int sentences = 0;
  private static int asked = 0;
  private static int wrong = 0;

  private static void fault(String text) {
    wrong++;
    System.out.println(text);
  }

  /** The test of these words of the document goes from here to the next call of says(). */
  static void says(int where, String words) {
    closeSentence();
    promise = where;
    sentence = words;
    askedHere = 0;
    sentences++;
    if (texts.isEmpty()) {
      readDocument();
    }
    if (!mark(where, words)) {
      fault("promise " + where + " does not say: " + words);
    }
  }

  private static void closeSentence() {
    if (askedHere == 0) {
      fault("promise " + promise + ": nothing is asked of: " + sentence);
    }
  }

  private static boolean mark(int where, String words) {
    String text = texts.getOrDefault(where, "");
    int at = text.indexOf(words);
    if (at < 0 || words.isEmpty()) {
      return false;
    }
    for (int i = at; i < at + words.length(); i++) {
      quoted.get(where)[i] = true;
    }
    return true;
  }

  static void due(long got, long want) {
    asked++;
    askedHere++;
    if (got != want) {
      fault(place() + " answered " + got + ", due is " + want + ", for promise " + promise + " says: " + sentence);
    }
  }

  static void due(String got, String want) {
    asked++;
    askedHere++;
    if (!got.equals(want)) {
      fault(place() + " came to " + got + ", due is " + want + ", for promise " + promise + " says: " + sentence);
    }
  }

  static void dueOfEach(long want, long... got) {
    for (long one : got) {
      due(one, want);
    }
  }

  static void dueInTurn(long[] got, long... want) {
    due(got.length, want.length);
    for (int i = 0; i < Math.min(got.length, want.length); i++) {
      due(got[i], want[i]);
    }
  }

  static long[] row(long... answers) {
    return answers;
  }

  /** The line of the test that asked. */
  private static String place() {
    for (StackTraceElement e : new Throwable().getStackTrace()) {
      if (!"Bench.java".equals(e.getFileName())) {
        return e.getFileName() + ":" + e.getLineNumber();
      }
    }
    return "?";
  }

  private static void readDocument() {
    String document;
    try {
      document = Files.readString(DOC, StandardCharsets.UTF_8);
    } catch (IOException e) {
      throw new UncheckedIOException(e);
    }
    for (String part : document.split("\n## ")) {
      if (part.startsWith("What it is\n")) {
        enter(WHAT_IT_IS, part.substring(part.indexOf('\n')));
      } else if (part.startsWith("Terms\n")) {
        enter(TERMS, part.substring(part.indexOf('\n'))
            .replaceAll("\n```(text)?", "\n").replaceAll("\nAhead of the calls [^\n]*", "\n"));
      } else if (part.startsWith("Promise ")) {
        int number = Integer.parseInt(part.substring(8, part.indexOf(':')));
        enter(number, part.substring(part.indexOf("`: ") + 3));
      }
    }
  }

  private static void enter(int where, String text) {
    String plain = text.replaceAll("\\s+", " ").trim();
    texts.put(where, plain);
    quoted.put(where, new boolean[plain.length()]);
  }

  /** Every word of the terms and the promises must have been quoted by a test. */
  static void end() {
    closeSentence();
    for (int i = TERMS; i <= PROMISES; i++) {
      if (!texts.containsKey(i)) {
        fault("the document has no promise " + i);
      }
    }
    for (Map.Entry<Integer, String> e : texts.entrySet()) {
      String left = unquoted(e.getValue(), quoted.get(e.getKey()));
      if (e.getKey() >= TERMS && !left.isEmpty()) {
        fault("promise " + e.getKey() + " has words without a test: " + left);
      }
    }
    System.out.println(sentences + " sentences, " + asked + " answers asked, " + wrong + " not as due");
    if (wrong != 0) {
      System.exit(1);
    }
  }

  private static String unquoted(String text, boolean[] marks) {
    StringBuilder left = new StringBuilder();
    for (int i = 0; i < text.length(); i++) {
      left.append(marks[i] ? ' ' : text.charAt(i));
    }
    return left.toString().replaceAll("\\s+", " ").trim();
  }

  /** A net of so many posts, its roads given by pairs of posts. */
  static RoundFlows netOf(int posts, int... pairs) {
    RoundFlows x = new RoundFlows();
    for (int i = 0; i < posts; i++) {
      x.post();
    }
    for (int i = 0; i < pairs.length; i += 2) {
      x.road(pairs[i], pairs[i + 1]);
    }
    return x;
  }

  /** Four posts, each two with a road between them. */
  static RoundFlows four() {
    return netOf(4, 0, 1, 1, 2, 2, 3, 3, 0, 0, 2, 1, 3);
  }

  /** Five posts, each two with a road between them. */
  static RoundFlows five() {
    return netOf(5, 0, 1, 0, 2, 0, 3, 0, 4, 1, 2, 1, 3, 1, 4, 2, 3, 2, 4, 3, 4);
  }

  /** Two rounds of three roads, and a road between each post of one and one of the other. */
  static RoundFlows prism() {
    return netOf(6, 0, 1, 1, 2, 2, 0, 3, 4, 4, 5, 5, 3, 0, 3, 1, 4, 2, 5);
  }

  static RoundFlows loops(int many) {
    RoundFlows x = netOf(1);
    for (int i = 0; i < many; i++) {
      x.road(0, 0);
    }
    return x;
  }

  static RoundFlows beside(int many) {
    RoundFlows x = netOf(2);
    for (int i = 0; i < many; i++) {
      x.road(0, 1);
    }
    return x;
  }

  /** One round of so many posts and roads, all pointed along it. */
  static RoundFlows ring(int many) {
    RoundFlows x = netOf(many);
    for (int i = 0; i < many; i++) {
      x.road(i, (i + 1) % many);
    }
    return x;
  }

  static RoundFlows numbers(RoundFlows x, int... values) {
    for (int i = 0; i < values.length; i++) {
      x.set(i, values[i]);
    }
    return x;
  }

  static long[] flowOf(RoundFlows x) {
    long[] numbers = new long[x.told(1)];
    for (int i = 0; i < numbers.length; i++) {
      numbers[i] = x.of(i, 3);
    }
    return numbers;
  }

  /** All that can be asked of the net without a change: posts, group, and each road. */
  static String story(RoundFlows x) {
    StringBuilder text = new StringBuilder(x.told(0) + " posts, group " + x.told(2) + ",");
    for (int i = 0; i < x.told(1); i++) {
      text.append(" ").append(x.of(i, 0)).append(">").append(x.of(i, 1)).append(" x")
          .append(x.of(i, 2)).append(" =").append(x.of(i, 3));
    }
    return text.toString();
  }

  /** The net's story with its numbers as they are, whatever the group. */
  static String bareStory(RoundFlows x) {
    String seen = story(x);
    x.group(0);
    String bare = story(x);
    x.undo();
    return seen + " (" + bare + ")";
  }

  /** Lays a sheet on six bare posts and tells its roads. */
  static String laid(RoundFlows x, int s) {
    x.anew();
    for (int i = 0; i < 6; i++) {
      x.post();
    }
    int answer = x.lay(s);
    StringBuilder text = new StringBuilder(answer + ":");
    for (int i = 0; i < x.told(1); i++) {
      text.append(" ").append(x.of(i, 0)).append(x.of(i, 1));
    }
    return text.toString();
  }
}
