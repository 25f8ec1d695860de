import java.io.IOException;
import java.lang.reflect.Field;
import java.lang.reflect.Method;
import java.lang.reflect.Modifier;
import java.nio.file.Files;
import java.nio.file.Path;
import java.util.ArrayList;
import java.util.Collections;
import java.util.HashSet;
import java.util.List;
import java.util.Map;
import java.util.Set;
import java.util.TreeMap;
import java.util.regex.Matcher;
import java.util.regex.Pattern;

/** The face of the document, and those rules of LANGUAGE.md that can be seen from outside. */
public final class LanguageTest {
  private static final Due due = new Due();
  private static final Path SOURCE = Path.of("src/main/java/ListenWood.java");
  private static final Path DOCUMENT = Path.of("../shared/DOC.md");

  public static void main(String[] args) throws IOException {
    face();
    namesOfOwnMethods();
    nestedClasses();
    words();
    lengths();
    depths();
    due.end();
  }

  private static void face() throws IOException {
    String doc = Files.readString(DOCUMENT);
    List<String> wanted = new ArrayList<>();
    Matcher m = Pattern.compile("    public (int|long) (\\w+)\\(([^)]*)\\);").matcher(doc);
    while (m.find()) {
      int parameters = m.group(3).isEmpty() ? 0 : m.group(3).split(",").length;
      wanted.add(m.group(1) + " " + m.group(2) + " " + parameters);
    }
    List<String> found = new ArrayList<>();
    for (Method method : ListenWood.class.getDeclaredMethods()) {
      if (!Modifier.isPrivate(method.getModifiers())) {
        found.add(method.getReturnType() + " " + method.getName() + " " + method.getParameterCount());
      }
    }
    Collections.sort(wanted);
    Collections.sort(found);
    due.is("the document's calls", wanted.size(), 40);
    due.is("the face " + found, found.equals(wanted) ? 1 : 0, 1);
    due.is("public and final", ListenWood.class.getModifiers(), Modifier.PUBLIC | Modifier.FINAL);
    due.is("constructors", ListenWood.class.getDeclaredConstructors().length, 1);
    for (Field field : ListenWood.class.getDeclaredFields()) {
      due.is("private " + field, Modifier.isPrivate(field.getModifiers()) ? 1 : 0, 1);
    }
  }

  private static void namesOfOwnMethods() {
    Set<String> publicNames = new HashSet<>();
    for (Method method : ListenWood.class.getDeclaredMethods()) {
      if (Modifier.isPublic(method.getModifiers())) {
        publicNames.add(method.getName());
      }
    }
    List<Class<?>> classes = new ArrayList<>(List.of(ListenWood.class.getDeclaredClasses()));
    classes.add(ListenWood.class);
    for (Class<?> c : classes) {
      for (Method method : c.getDeclaredMethods()) {
        boolean isOwn = !Modifier.isPublic(method.getModifiers());
        due.is("name " + method, isOwn && publicNames.contains(method.getName()) ? 1 : 0, 0);
        due.is("parameters " + method, method.getParameterCount() <= 7 ? 1 : 0, 1);
      }
    }
  }

  private static void nestedClasses() {
    Class<?>[] classes = ListenWood.class.getDeclaredClasses();
    due.is("at most twelve classes", classes.length <= 11 ? 1 : 0, 1);
    for (Class<?> c : classes) {
      due.is("static " + c, Modifier.isStatic(c.getModifiers()) ? 1 : 0, 1);
      for (Field field : c.getDeclaredFields()) {
        int modifiers = field.getModifiers();
        due.is("final if static " + field,
            Modifier.isStatic(modifiers) && !Modifier.isFinal(modifiers) ? 1 : 0, 0);
      }
    }
  }

  /** The source without comments and without what stands in quotes. */
  private static String code() throws IOException {
    String source = Files.readString(SOURCE);
    source = source.replaceAll("\"(\\\\.|[^\"\\\\])*\"", "\"\"");
    source = source.replaceAll("'(\\\\.|[^'\\\\])'", "' '");
    return source.replaceAll("(?s)/\\*.*?\\*/", "").replaceAll("//[^\n]*", "");
  }

  private static void words() throws IOException {
    String code = code();
    String[] refused = {"throw", "throws", "try", "catch", "synchronized", "assert", "import", "package",
        "protected", "volatile", "native", "hashCode", "toString", "Object", "Thread", "Random"};
    for (String word : refused) {
      due.is("word " + word, Pattern.compile("\\b" + word + "\\b").matcher(code).find() ? 1 : 0, 0);
    }
    due.is("no lambda", code.contains("->") ? 1 : 0, 0);
    due.is("no method reference", code.contains("::") ? 1 : 0, 0);
    due.is("nothing of Exact", code.contains("Exact") ? 1 : 0, 0);
    // All is made where objects are made, so that calls take no room.
    for (String line : code.split("\n")) {
      boolean isField = line.matches("\\s+(private )?final .* = new .*;");
      boolean isSheet = line.contains("sheets[s] = new Sheet();");
      due.is("made in a call: " + line, line.contains("new ") && !isField && !isSheet ? 1 : 0, 0);
    }
  }

  private static void lengths() throws IOException {
    int begin = -1;
    String indent = "";
    List<String> lines = Files.readAllLines(SOURCE);
    for (int i = 0; i < lines.size(); i++) {
      String line = lines.get(i);
      due.is("signs 1 to 127: " + line, line.chars().allMatch(c -> c > 0 && c < 128) ? 1 : 0, 1);
      Matcher head = Pattern.compile("^( {2}| {4})(private |public |static )*\\w+(\\[\\])? ?\\w*\\(.*\\) \\{$")
          .matcher(line);
      if (begin < 0 && head.find()) {
        begin = i;
        indent = head.group(1);
      } else if (begin >= 0 && line.equals(indent + "}")) {
        due.is("short enough: " + lines.get(begin), i - begin <= 60 ? 1 : 0, 1);
        begin = -1;
      }
    }
  }

  /** By the name of each method of the source: its lines from head to end. */
  private static Map<String, String> bodies() throws IOException {
    Map<String, String> bodies = new TreeMap<>();
    Matcher m = Pattern.compile("(?m)^( {2}| {4})(?:(?:private|public|static) )*[\\w\\[\\]]+ (\\w+)\\(.*\\) \\{$")
        .matcher(code());
    while (m.find()) {
      String rest = code().substring(m.end());
      String body = rest.substring(0, rest.indexOf("\n" + m.group(1) + "}"));
      due.is("one method of the name " + m.group(2), bodies.put(m.group(2), body) == null ? 1 : 0, 1);
    }
    return bodies;
  }

  /** How many calls stand open at once at most, this one too; above forty if one calls itself. */
  private static int depth(String name, Map<String, String> bodies, int open) {
    int most = 0;
    Matcher m = Pattern.compile("\\b(\\w+)\\(").matcher(bodies.get(name));
    while (open <= 40 && m.find()) {
      if (bodies.containsKey(m.group(1))) {
        most = Math.max(most, depth(m.group(1), bodies, open + 1));
      }
    }
    return 1 + most;
  }

  private static void depths() throws IOException {
    Map<String, String> bodies = bodies();
    due.is("methods were found", bodies.size() > 40 ? 1 : 0, 1);
    for (String name : bodies.keySet()) {
      due.is("at most eight deep: " + name, depth(name, bodies, 1) <= 8 ? 1 : 0, 1);
    }
  }
}
