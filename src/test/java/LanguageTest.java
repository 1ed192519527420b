import java.nio.file.Files;
import java.nio.file.Path;
import java.util.ArrayList;
import java.util.HashSet;
import java.util.List;
import java.util.Set;
import java.util.TreeSet;
import java.util.regex.Matcher;
import java.util.regex.Pattern;

/** What can be seen of ../shared/LANGUAGE.md by reading the source as text. */
public final class LanguageTest {
  private static final String FACE = "status feed load pairs lines fault many letter field point code drop move swap "
      + "normal copy worth mate pairing ways overlay by signedBy partial sub sum diagram name part far holds "
      + "ofDiagram sumOf diagrams print printPairs out core";
  private static final Pattern METHOD =
      Pattern.compile("^ +((?:public |private |static |final )*)(\\w+(?:\\[\\])*) (\\w+)\\(([^)]*)\\) \\{$");

  private static int wrong = 0;

  public static void main(String[] args) throws Exception {
    String source = Files.readString(Path.of("src/main/java/ContractionCounter.java"));
    String code = source.replaceAll("(?s)/\\*.*?\\*/", "").replaceAll("//[^\n]*", "")
        .replaceAll("\"[^\"\n]*\"", "\"\"").replaceAll("'(\\\\.|[^'\\\\])'", "' '");
    forbid(code, 6, "\\b(throw|throws|try|catch|synchronized|assert)\\b");
    forbid(code, 2, "->|::|\\bnew \\w+\\([^)]*\\) \\{");
    forbid(code, 4, "\\b(Exact|System\\.out|HashMap|Map|Set|Optional|Stream|String\\.format|Object)\\b");
    forbid(code, 5, "\\bstatic \\{|(?m)^ +private static (?!final)\\w+(\\[\\])? \\w+( =|;)");
    forbid(code, 10, "\"\" *\\+|\\+ *\"\"");
    forbid(code, 13, "\\b(Thread|Random|nanoTime|currentTimeMillis|java\\.io|java\\.nio)\\b");
    forbid(code, 9, "while \\(true\\)|for \\(;;\\)");
    if (count(code, "\\bclass \\w+ \\{") > 12) {
      complain(11, "more than twelve classes");
    }
    for (String imported : found(code, "import ([\\w.]+);")) {
      if (!imported.equals("java.util.Arrays")) {
        complain(4, "import of " + imported);
      }
    }
    methods(code.split("\n", -1));
    fields(code);
    System.out.println(wrong == 0 ? "the source keeps to what can be seen" : wrong + " rules are broken");
    if (wrong != 0) {
      System.exit(1);
    }
  }

  private static void complain(int rule, String what) {
    wrong++;
    System.out.println("rule " + rule + ": " + what);
  }

  private static void forbid(String code, int rule, String pattern) {
    Matcher matcher = Pattern.compile(pattern).matcher(code);
    if (matcher.find()) {
      complain(rule, matcher.group().trim());
    }
  }

  private static int count(String code, String pattern) {
    return (int) Pattern.compile(pattern).matcher(code).results().count();
  }

  private static List<String> found(String code, String pattern) {
    List<String> all = new ArrayList<>();
    Pattern.compile(pattern).matcher(code).results().forEach(r -> all.add(r.group(1)));
    return all;
  }

  private static void methods(String[] lines) {
    Set<String> face = new HashSet<>(List.of(FACE.split(" ")));
    Set<String> open = new TreeSet<>();
    for (int at = 0; at < lines.length; at++) {
      Matcher matcher = METHOD.matcher(lines[at]);
      if (!matcher.matches() || matcher.group(2).equals("new") || matcher.group(2).equals("else")) {
        continue;
      }
      String name = matcher.group(3);
      boolean isOpen = matcher.group(1).contains("public");
      if (isOpen) {
        open.add(name);
      } else if (face.contains(name)) {
        complain(1, "the name of a public method: " + name);
      }
      if (matcher.group(4).split(",").length > 7) {
        complain(11, "too many parameters: " + name);
      }
      String indent = lines[at].replaceAll("\\S.*", "");
      int end = at;
      while (!lines[end].equals(indent + "}")) {
        end++;
      }
      if (end - at + 1 > 60) {
        complain(11, "too long: " + name);
      }
    }
    if (!open.equals(new TreeSet<>(face))) {
      complain(1, "the face is " + open);
    }
  }

  private static void fields(String code) {
    for (String body : code.split("(?m)^ *(?=(?:public|private static) final class )")) {
      int fields = count(body, "(?m)^ +private (?!static)(final )?[\\w\\[\\]]+ \\w+( = [^\n]*)?;");
      if (fields > 20) {
        complain(11, fields + " fields of " + body.substring(0, Math.min(60, body.length())));
      }
    }
  }
}
