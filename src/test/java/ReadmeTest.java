import java.io.IOException;
import java.lang.reflect.Method;
import java.lang.reflect.Modifier;
import java.nio.file.Files;
import java.nio.file.Path;
import java.util.regex.Matcher;
import java.util.regex.Pattern;

/** README.md says how the class is used: what it says must be so. */
public final class ReadmeTest {
  private static final Pattern MADE = Pattern.compile("RoundFlows x = new RoundFlows\\(\\);");
  private static final Pattern CALL = Pattern.compile("x\\.(\\w+)\\((.*)\\); +// (-?\\d+)(:.*)?");

  private static int wrong = 0;
  private static int asked = 0;

  private static void due(boolean holds, String text) {
    asked++;
    if (!holds) {
      wrong++;
      System.out.println(text);
    }
  }

  public static void main(String[] args) throws Exception {
    String readme = Files.readString(Path.of("README.md"));
    example(readme);
    calls(readme);
    findings(readme);
    tests(readme);
    System.out.println(asked + " words of README.md asked, " + wrong + " not as due");
    if (wrong != 0) {
      System.exit(1);
    }
  }

  private static void example(String readme) throws ReflectiveOperationException {
    Matcher block = Pattern.compile("(?s)```java\n(.*?)\n```").matcher(readme);
    due(block.find(), "README.md has no example");
    RoundFlows x = null;
    for (String line : block.group(1).split("\n")) {
      Matcher call = CALL.matcher(line);
      if (MADE.matcher(line).matches()) {
        x = new RoundFlows();
      } else if (call.matches()) {
        long got = answer(x, call.group(1), call.group(2));
        due(got == Long.parseLong(call.group(3)), line + " answered " + got);
      } else {
        due(line.isEmpty(), "a line of the example that was not understood: " + line);
      }
    }
  }

  private static long answer(RoundFlows x, String name, String given) throws ReflectiveOperationException {
    String[] words = given.isEmpty() ? new String[0] : given.split(", ");
    Object[] values = new Object[words.length];
    for (int i = 0; i < words.length; i++) {
      boolean isTruth = words[i].equals("true") || words[i].equals("false");
      values[i] = isTruth ? (Object) Boolean.valueOf(words[i]) : (Object) Integer.valueOf(words[i]);
    }
    for (Method m : RoundFlows.class.getMethods()) {
      if (m.getName().equals(name) && m.getDeclaringClass() == RoundFlows.class) {
        return ((Number) m.invoke(x, values)).longValue();
      }
    }
    throw new NoSuchMethodException(name);
  }

  /** Each chapter of the document is a line of the table, with its calls. */
  private static void calls(String readme) throws IOException {
    String document = Files.readString(Path.of("../shared/DOC.md"));
    Matcher told = Pattern.compile("Ahead of the calls (.*) the interface says: ---- (.*)\\.\n").matcher(document);
    int chapters = 0;
    while (told.find()) {
      chapters++;
      String line = "| " + told.group(2) + " | " + told.group(1).replace(",", "") + " |";
      due(readme.contains("\n" + line + "\n"), "README.md has no line: " + line);
    }
    due(chapters == 7, "chapters of the document: " + chapters);
    for (Method m : RoundFlows.class.getDeclaredMethods()) {
      if (Modifier.isPublic(m.getModifiers())) {
        due(readme.contains("`" + m.getName() + "`"), "README.md does not name " + m.getName());
      }
    }
  }

  private static void findings(String readme) throws IOException {
    String document = Files.readString(Path.of("../shared/DOC.md"));
    Matcher told = Pattern.compile("(-100000\\d) ([A-Z]+)[,.]").matcher(document);
    int findings = 0;
    while (told.find()) {
      findings++;
      String cells = "| " + told.group(1) + " | " + told.group(2) + " |";
      due(readme.contains(cells), "README.md does not tell: " + cells);
    }
    due(findings == 8, "findings of the document: " + findings);
  }

  private static void tests(String readme) throws IOException {
    due(readme.contains("```sh\n.ci/run\n```"), "README.md does not say how tests are run");
    due(Files.isExecutable(Path.of(".ci/run")), ".ci/run cannot be run");
    try (var files = Files.newDirectoryStream(Path.of("src/test/java"), "*.java")) {
      for (Path file : files) {
        String name = file.getFileName().toString().replace(".java", "");
        due(readme.contains("- `" + name + "`: "), "README.md does not say what is tested by " + name);
      }
    }
  }
}
