import java.lang.reflect.Method;
import java.nio.file.Files;
import java.nio.file.Path;
import java.util.regex.Matcher;
import java.util.regex.Pattern;

/** Each call of README.md's examples has the answer that stands behind it. */
public final class ReadmeTest extends Checks {
  private static final Pattern CALL = Pattern.compile("x\\.(\\w+)\\(([^)]*)\\);(?: +// (-?\\d+).*)?");
  private static final Pattern TOLD = Pattern.compile("// \"(.*)\"");
  private static final Pattern SHOWN = Pattern.compile(".* OUT is \"(.*)\"");

  private static ContractionCounter x;
  private static String told = "";
  private static int calls = 0;

  public static void main(String[] args) throws Exception {
    boolean inside = false;
    for (String line : Files.readAllLines(Path.of("README.md"))) {
      under("README: " + line);
      if (line.startsWith("```")) {
        inside = line.equals("```java");
      } else if (inside && !line.isBlank()) {
        follow(line);
      }
    }
    due("the last text is fed to its end", told, "");
    due("examples have calls", calls > 20 ? 1 : 0, 1);
    finish();
  }

  private static void follow(String line) throws Exception {
    Matcher call = CALL.matcher(line);
    Matcher text = TOLD.matcher(line);
    if (line.equals("ContractionCounter x = new ContractionCounter();")) {
      x = new ContractionCounter();
    } else if (text.matches()) {
      due("the text ahead of it is fed to its end", told, "");
      told = text.group(1);
    } else if (call.matches() && call.group(3) != null) {
      calls++;
      due("its answer", ask(call.group(1), call.group(2)), Long.parseLong(call.group(3)));
      shown(line);
    } else {
      due("is neither a new object, a text, nor a call with its answer", 0, 1);
    }
  }

  private static void shown(String line) {
    Matcher shown = SHOWN.matcher(line);
    if (shown.matches()) {
      due("OUT", printed(x), shown.group(1));
    }
  }

  private static long ask(String name, String row) throws Exception {
    String[] words = row.isEmpty() ? new String[0] : row.split(", ");
    Object[] args = new Object[words.length];
    Class<?>[] types = new Class<?>[words.length];
    for (int i = 0; i < words.length; i++) {
      args[i] = Long.decode(words[i]).intValue();
      types[i] = int.class;
    }
    if (name.equals("feed")) {
      fed(args);
    }
    Method method = ContractionCounter.class.getMethod(name, types);
    return ((Number) method.invoke(x, args)).longValue();
  }

  /** The text that the README tells ahead of a row of feeds is what they put onto the tape. */
  private static void fed(Object[] args) {
    int[] next = ints(told.substring(0, Math.min(20, told.length())));
    for (int i = 0; i < args.length; i++) {
      due("int " + i, (int) args[i], i < next.length ? next[i] : 0);
    }
    told = told.substring(Math.min(20, told.length()));
  }
}
