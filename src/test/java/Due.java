import java.io.IOException;
import java.io.UncheckedIOException;
import java.nio.file.Files;
import java.nio.file.Path;

/** Compares answers with those that are due, and ends a test with exit code 1 if one differs. */
final class Due {
  static final long BEYOND = -1000001L;
  static final long FULL = -1000002L;
  static final long KIND = -1000003L;
  static final long NONE = -1000004L;
  static final long STATE = -1000005L;
  static final long MISSING = -1000006L;
  static final long SIZE = -1000007L;

  private static final Path DOCUMENT = Path.of("../shared/DOC.md");

  private String document = null;
  private String words = "";
  private int asked = 0;
  private int wrong = 0;

  /** The sentence of the document by which the answers from here on are due: it must stand there. */
  void by(String sentence) {
    if (document == null) {
      document = readDocument();
    }
    words = "";
    is("that the document says: " + sentence, document.contains(sentence) ? 1 : 0, 1);
    words = " (" + sentence + ")";
  }

  private static String readDocument() {
    try {
      return Files.readString(DOCUMENT).replaceAll("\\s+", " ");
    } catch (IOException e) {
      throw new UncheckedIOException(e);
    }
  }

  void is(String call, long got, long want) {
    asked++;
    if (got != want) {
      wrong++;
      System.out.println(call + " answered " + got + ", due is " + want + words);
    }
  }

  void end() {
    System.out.println(asked + " answers, " + wrong + " not as due");
    if (wrong != 0) {
      System.exit(1);
    }
  }

  /** Feeds a text byte by byte. */
  static void feed(ListenWood x, String text) {
    for (int i = 0; i < text.length(); i++) {
      x.feed(text.charAt(i), 1);
    }
  }

  static int text(ListenWood x, String text) {
    feed(x, text);
    return x.text();
  }

  /** A sheet of 16 bits with these numbers. */
  static void sheet(ListenWood x, int s, int... numbers) {
    x.sheet(s, 16, numbers.length);
    for (int i = 0; i < numbers.length; i++) {
      x.write(s, i, numbers[i]);
    }
  }

  /** A new object with a plank of each of these kinds in house 0. */
  static ListenWood withKinds(int... kinds) {
    ListenWood x = new ListenWood();
    for (int kind : kinds) {
      x.plank(kind, 0);
    }
    return x;
  }
}
