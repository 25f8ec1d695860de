import java.io.IOException;
import java.lang.reflect.Method;
import java.nio.file.DirectoryStream;
import java.nio.file.Files;
import java.nio.file.Path;
import java.util.HashMap;
import java.util.Map;
import java.util.regex.Matcher;
import java.util.regex.Pattern;

/** README.md: its examples answer as it says, and it names each finding, each call and each test. */
public final class ReadmeTest {
  private static final Path README = Path.of("README.md");
  private static final Path DOCUMENT = Path.of("../shared/DOC.md");
  private static final Path TESTS = Path.of("src/test/java");
  private static final int LOW = -1000001;

  private static final Due due = new Due();

  public static void main(String[] args) throws IOException, ReflectiveOperationException {
    String readme = Files.readString(README);
    examples(readme);
    findings(readme);
    calls(readme);
    tests(readme);
    due.end();
  }

  /** Each line of an example is a new object, or a call with the answer that is due behind it. */
  private static void examples(String readme) throws ReflectiveOperationException {
    Pattern line = Pattern.compile("x\\.(\\w+)\\(([^)]*)\\);\\s*// (-?\\d+)(:.*)?");
    Matcher block = Pattern.compile("(?s)```java\n(.*?)```").matcher(readme);
    int compared = 0;
    while (block.find()) {
      ListenWood x = new ListenWood();
      for (String told : block.group(1).split("\n")) {
        Matcher m = line.matcher(told);
        if (m.matches()) {
          due.is(told, answer(x, m.group(1), m.group(2)), Long.parseLong(m.group(3)));
          compared++;
        } else {
          boolean isOther = told.isEmpty() || told.equals("ListenWood x = new ListenWood();");
          due.is("a line of an example, without its answer: " + told, isOther ? 1 : 0, 1);
        }
      }
    }
    due.is("that there are some examples", compared >= 30 ? 1 : 0, 1);
  }

  private static long answer(ListenWood x, String name, String numbers) throws ReflectiveOperationException {
    String[] told = numbers.isEmpty() ? new String[0] : numbers.split(", ");
    Class<?>[] types = new Class<?>[told.length];
    Object[] values = new Object[told.length];
    for (int i = 0; i < told.length; i++) {
      types[i] = int.class;
      values[i] = Integer.decode(told[i]);
    }
    Method method = ListenWood.class.getMethod(name, types);
    return ((Number) method.invoke(x, values)).longValue();
  }

  private static void findings(String readme) throws IOException {
    String doc = Files.readString(DOCUMENT);
    Map<String, Integer> values = new HashMap<>();
    Matcher m = Pattern.compile("LOW( - (\\d))? ([A-Z]+)[,.( ]").matcher(doc);
    while (m.find()) {
      values.put(m.group(3), LOW - (m.group(2) == null ? 0 : Integer.parseInt(m.group(2))));
    }
    due.is("the document's findings", values.size(), 7);
    for (String name : values.keySet()) {
      String row = "| " + name + " | " + values.get(name) + " |";
      due.is("README's row " + row, readme.contains(row) ? 1 : 0, 1);
    }
  }

  /** Each call stands there as on the document's face, but for the types. */
  private static void calls(String readme) throws IOException {
    Matcher m = Pattern.compile("(?m)^    public (?:int|long) (\\w+\\([^)]*\\));").matcher(Files.readString(DOCUMENT));
    int found = 0;
    while (m.find()) {
      String call = m.group(1).replace("int ", "");
      due.is("README's call " + call, readme.contains("| `" + call + "` |") ? 1 : 0, 1);
      found++;
    }
    due.is("the document's calls", found, 40);
  }

  private static void tests(String readme) throws IOException {
    try (DirectoryStream<Path> files = Files.newDirectoryStream(TESTS, "*.java")) {
      for (Path file : files) {
        String name = file.getFileName().toString().replace(".java", "");
        due.is("README's test " + name, readme.contains("`" + name + "`") ? 1 : 0, 1);
      }
    }
  }
}
