import java.io.IOException;
import java.lang.management.ManagementFactory;
import java.lang.reflect.Constructor;
import java.lang.reflect.Field;
import java.lang.reflect.Method;
import java.lang.reflect.Modifier;
import java.nio.charset.StandardCharsets;
import java.nio.file.Files;
import java.nio.file.Path;
import java.util.ArrayList;
import java.util.Arrays;
import java.util.List;
import java.util.TreeSet;
import java.util.regex.Matcher;
import java.util.regex.Pattern;

/** The public face, the rules of LANGUAGE.md that can be read off, and the room that calls take. */
public final class FaceTest {
  private static final String[] RULED_OUT = {
    "\\bimport\\b", "\\bpackage\\b", "\\bthrow\\b", "\\bthrows\\b", "\\btry\\b", "\\bcatch\\b",
    "\\bfinally\\b", "\\bsynchronized\\b", "\\bassert\\b", "->", "::", "\\bstatic\\s*\\{",
    "\\bException\\b", "\\bRandom\\b", "\\bThread\\b", "\\bExact\\b", "\\w+Exact\\(",
    "\\bhashCode\\b", "\\btoString\\b", "\\bprotected\\b", "\\bvar\\b", "\\bdouble\\b", "\\bfloat\\b",
    "\\bSystem\\.(?!arraycopy\\b)", "\\bMath\\.(?!abs\\b|min\\b|max\\b|floorMod\\b)",
    "\\bInteger\\.(?!bitCount\\b)"
  };
  private static final int MOST_LINES_A_METHOD = 60;
  private static final int MOST_CLASSES = 12;
  private static final int MOST_FIELDS = 20;
  private static final int MOST_PARAMETERS = 7;
  private static final int METHODS_PROMISED = 40;

  private static int wrong = 0;

  private static void due(boolean holds, String text) {
    if (!holds) {
      wrong++;
      System.out.println(text);
    }
  }

  private static String shown(Method m) {
    StringBuilder text = new StringBuilder(m.getReturnType() + " " + m.getName() + "(");
    for (Class<?> type : m.getParameterTypes()) {
      text.append(text.charAt(text.length() - 1) == '(' ? "" : ",").append(type);
    }
    return text.append(")").toString();
  }

  /** The methods that the document's face has, with their types alone. */
  private static TreeSet<String> promisedFace() throws IOException {
    String document = Files.readString(Path.of("../shared/DOC.md"));
    Matcher block = Pattern.compile("(?s)```java\npublic final class RoundFlows \\{\n(.*?)\n\\}\n```")
        .matcher(document);
    due(block.find(), "the document shows no face");
    TreeSet<String> face = new TreeSet<>();
    for (String line : block.group(1).split("\n")) {
      Matcher head = Pattern.compile("    public (int|long) (\\w+)\\((.*)\\);").matcher(line);
      if (head.matches()) {
        String types = head.group(3).replaceAll("(int|boolean) \\w+", "$1").replace(" ", "");
        face.add(head.group(1) + " " + head.group(2) + "(" + types + ")");
      } else {
        due(line.equals("    public RoundFlows();"), "a line of the face that was not understood: " + line);
      }
    }
    return face;
  }

  private static void face() throws IOException {
    Class<?> type = RoundFlows.class;
    due(Modifier.isPublic(type.getModifiers()) && Modifier.isFinal(type.getModifiers()), "not public final");
    TreeSet<String> shown = new TreeSet<>();
    TreeSet<String> names = new TreeSet<>();
    for (Method m : type.getDeclaredMethods()) {
      if (Modifier.isPublic(m.getModifiers())) {
        due(!Modifier.isStatic(m.getModifiers()), "static: " + m);
        shown.add(shown(m));
        names.add(m.getName());
      } else {
        due(Modifier.isPrivate(m.getModifiers()), "not private: " + m);
      }
    }
    TreeSet<String> promised = promisedFace();
    due(promised.size() == METHODS_PROMISED, "methods of the document's face: " + promised.size());
    due(shown.equals(promised), "another face: " + shown + ", due is " + promised);
    for (Field f : type.getDeclaredFields()) {
      due(Modifier.isPrivate(f.getModifiers()), "not private: " + f);
    }
    Constructor<?>[] made = type.getDeclaredConstructors();
    due(made.length == 1 && made[0].getParameterCount() == 0, "another constructor");
    due(Modifier.isPublic(made[0].getModifiers()), "constructor is not public");
    inside(type, names);
  }

  private static void inside(Class<?> type, TreeSet<String> names) {
    List<Class<?>> all = new ArrayList<>(Arrays.asList(type.getDeclaredClasses()));
    due(all.size() + 1 <= MOST_CLASSES, "too many classes");
    for (Class<?> c : all) {
      due(Modifier.isStatic(c.getModifiers()), "not static: " + c);
      due(Modifier.isPrivate(c.getModifiers()), "not private: " + c);
      for (Method m : c.getDeclaredMethods()) {
        due(!names.contains(m.getName()), "bears a public one's name: " + m);
      }
    }
    all.add(type);
    for (Class<?> c : all) {
      int fields = 0;
      for (Field f : c.getDeclaredFields()) {
        boolean fixed = Modifier.isStatic(f.getModifiers());
        due(!fixed || Modifier.isFinal(f.getModifiers()), "static and not final: " + f);
        fields += fixed ? 0 : 1;
      }
      due(fields <= MOST_FIELDS, "too many fields: " + c);
      for (Method m : c.getDeclaredMethods()) {
        due(m.getParameterCount() <= MOST_PARAMETERS, "too many parameters: " + m);
      }
    }
  }

  private static void text() throws IOException {
    String source = new String(Files.readAllBytes(Path.of("src/main/java/RoundFlows.java")),
        StandardCharsets.UTF_8);
    for (int i = 0; i < source.length(); i++) {
      due(source.charAt(i) < 128, "a sign above 127 at " + i);
    }
    String bare = source.replaceAll("(?s)/\\*.*?\\*/", "").replaceAll("//[^\n]*", "");
    for (String ruledOut : RULED_OUT) {
      Matcher m = Pattern.compile(ruledOut).matcher(bare);
      due(!m.find(), "ruled out: " + ruledOut);
    }
    lines(source.split("\n"));
  }

  /** A method's last line is a brace that stands as far in as its first line. */
  private static void lines(String[] lines) {
    int methods = 0;
    for (int i = 0; i < lines.length; i++) {
      due(lines[i].length() <= 100, "a long line at " + (i + 1));
      Matcher head = Pattern.compile("^(  |    )(?!if|for|while|switch|\\})[a-z].*\\) \\{$").matcher(lines[i]);
      if (head.matches()) {
        methods++;
        int end = Arrays.asList(lines).subList(i, lines.length).indexOf(head.group(1) + "}");
        due(end > 0 && end <= MOST_LINES_A_METHOD, "a long method at " + (i + 1));
      }
    }
    due(methods > METHODS_PROMISED, "methods were not seen: " + methods);
  }

  /** The document says what stands ahead of which calls in the interface. */
  private static void chapters() throws IOException {
    String source = Files.readString(Path.of("src/main/java/RoundFlows.java"));
    String document = Files.readString(Path.of("../shared/DOC.md"));
    Matcher told = Pattern.compile("Ahead of the calls (.*) the interface says: (---- .*)").matcher(document);
    int chapters = 0;
    while (told.find()) {
      chapters++;
      int from = source.indexOf("\n  // " + told.group(2) + "\n");
      int to = source.indexOf("\n  // ---- ", from + 1);
      String part = from < 0 ? "" : source.substring(from, to < 0 ? source.length() : to);
      List<String> names = new ArrayList<>();
      Matcher head = Pattern.compile("\n  public \\w+ (\\w+)\\(").matcher(part);
      while (head.find()) {
        names.add("`" + head.group(1) + "`");
      }
      due(String.join(", ", names).equals(told.group(1)), told.group(2) + " is ahead of " + names);
    }
    due(chapters == 7, "chapters of the interface: " + chapters);
  }

  /** All calls of a run share one room, so that no call may make anything. */
  private static void room() {
    com.sun.management.ThreadMXBean bean =
        (com.sun.management.ThreadMXBean) ManagementFactory.getThreadMXBean();
    long thread = Thread.currentThread().getId();
    bean.getThreadAllocatedBytes(thread);
    long start = bean.getThreadAllocatedBytes(thread);
    RoundFlows x = new RoundFlows();
    long made = bean.getThreadAllocatedBytes(thread);
    long sum = 0;
    for (int i = 0; i < 12; i++) {
      sum += allCalls(x, i);
    }
    long called = bean.getThreadAllocatedBytes(thread);
    due(made - start <= 16384, "a new object takes bytes: " + (made - start));
    due(called - made <= 1024, "calls take bytes: " + (called - made) + " " + sum);
  }

  private static long allCalls(RoundFlows x, int i) {
    long sum = x.post() + x.post() + x.road(0, 1) + x.road(1, i % 3) + x.length(0, i) + x.turn(0);
    sum += x.sheet(0, 8, 2) + x.put(0, 1, i) + x.copy(0, 0, 0, 1, 1) + x.lay(0) + x.group(i);
    sum += x.set(0, i) + x.excess(0) + x.off() + x.whole() + x.sized(4) + x.least() + x.find(4);
    sum += x.rounds(-1, true) + x.flowPoly(1) + x.colourPoly(1) + x.worth(true, i) + x.bridges();
    sum += x.even(i) + x.fours() + x.twice() + x.walked(true) + x.trees() + x.count(2) + x.faces();
    sum += x.face(0, true) + x.keep(0) + x.add(0) + x.times(2) + x.bring(0) + x.as(0, 1) + x.of(0, 3);
    return sum + x.told(3) + (i % 4 == 3 ? x.take(0) + x.melt(0) + x.undo() : i == 8 ? x.anew() : 0);
  }

  public static void main(String[] args) throws IOException {
    face();
    text();
    chapters();
    room();
    System.out.println(wrong == 0 ? "the face and the rules are kept" : wrong + " rules are not kept");
    if (wrong != 0) {
      System.exit(1);
    }
  }
}
