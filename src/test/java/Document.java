import java.io.IOException;
import java.nio.file.Files;
import java.nio.file.Path;
import java.util.BitSet;

/** ../shared/DOC.md: which of its words have a test, and which have none. */
final class Document {
  private final String text;
  private final BitSet quoted = new BitSet();

  private Document(String text) {
    this.text = text;
  }

  static Document read() {
    try {
      String words = Files.readString(Path.of("../shared/DOC.md"));
      return new Document(plain(words.replaceAll("```\\w*", " ").replaceAll("==== \\d\\.", " ")));
    } catch (IOException e) {
      throw new IllegalStateException("../shared/DOC.md can't be read", e);
    }
  }

  /** One blank for all that parts two words, so that the document's rows need not be minded. */
  private static String plain(String words) {
    return words.replaceAll("\\s+", " ").trim();
  }

  /** Marks a sentence of the part with a heading; false if it does not stand there. */
  boolean quote(String heading, String sentence) {
    String words = plain(sentence);
    int from = text.indexOf("## " + heading);
    int at = from < 0 ? -1 : text.indexOf(words, from);
    if (at < 0 || at + words.length() > endOfPart(from)) {
      return false;
    }
    quoted.set(at, at + words.length());
    return true;
  }

  private int endOfPart(int from) {
    int end = text.indexOf(" ## ", from);
    return end < 0 ? text.length() : end;
  }

  /** The words of a part that no test has quoted: behind a mark, and ahead of another one if it is there. */
  String unquoted(String heading, String behind, String ahead) {
    int part = text.indexOf("## " + heading);
    int from = text.indexOf(behind, part) + behind.length();
    int end = endOfPart(part);
    int mark = text.indexOf(ahead, from);
    StringBuilder left = new StringBuilder();
    for (int at = from; at < (mark >= 0 && mark < end ? mark : end); at++) {
      left.append(quoted.get(at) ? ' ' : text.charAt(at));
    }
    return plain(left.toString());
  }
}
