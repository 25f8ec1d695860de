import java.io.IOException;
import java.nio.file.DirectoryStream;
import java.nio.file.Files;
import java.nio.file.Path;
import java.util.BitSet;
import java.util.regex.Matcher;
import java.util.regex.Pattern;

/** Whether the tests quote, with due.by(..), all that the document says in its terms and promises. */
public final class SentencesTest {
  private static final Path DOCUMENT = Path.of("../shared/DOC.md");
  private static final Path TESTS = Path.of("src/test/java");
  private static final Pattern QUOTE = Pattern.compile("due\\.by\\(((?:\\s*\\+?\\s*\"[^\"]*\")+)\\)");

  public static void main(String[] args) throws IOException {
    Due due = new Due();
    String said = said();
    BitSet quoted = new BitSet(said.length());
    try (DirectoryStream<Path> files = Files.newDirectoryStream(TESTS, "*.java")) {
      for (Path file : files) {
        Matcher m = QUOTE.matcher(Files.readString(file));
        while (m.find()) {
          mark(quoted, said, m.group(1).replaceAll("\"\\s*\\+\\s*\"", "").replace("\"", "").strip());
        }
      }
    }
    int begin = 0;
    while (begin < said.length()) {
      int from = quoted.nextClearBit(begin);
      int to = quoted.nextSetBit(from) < 0 ? said.length() : quoted.nextSetBit(from);
      String part = from < to ? said.substring(from, to) : "";
      due.is("tests by '" + part + "'", part.matches("[ .,;:|]*") ? 1 : 0, 1);
      begin = to;
    }
    due.end();
  }

  /** The terms and promises, without headings, heads of calls and what begins and ends a list. */
  private static String said() throws IOException {
    String doc = Files.readString(DOCUMENT);
    return doc.substring(doc.indexOf("## Terms"), doc.indexOf("## Not promised"))
        .replaceAll("(?m)^##.*$|^```\\w*$|^Ahead of the calls.*$|^`[^`]*`: |^[123]\\. ", "|")
        .replaceAll("\\s+", " ");
  }

  private static void mark(BitSet quoted, String said, String sentence) {
    for (int i = said.indexOf(sentence); i >= 0; i = said.indexOf(sentence, i + 1)) {
      quoted.set(i, i + sentence.length());
    }
  }
}
