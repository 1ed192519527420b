import java.nio.ByteBuffer;
import java.nio.charset.StandardCharsets;
import java.util.Arrays;
import java.util.function.LongSupplier;

/** What the tests share: they ask, compare with what is due, and count what is wrong. */
abstract class Checks {
  static final int LEAST = Integer.MIN_VALUE;
  static final int MOST = Integer.MAX_VALUE;

  /** One real field; two diagrams, of 12 and 3 pairings. */
  static final String PHI = "field p real;outer p;vertex p p p p;outer p;";
  /** An odd pair and an even real field; four diagrams, two vertices alike. */
  static final String QED =
      "field e pair odd;field p real;outer e;vertex e' e p;vertex e' e p;outer e';";
  /** Two real fields that are mixed, the second one told first. */
  static final String MIXED =
      "field a real;field b real;mix b a;outer a;vertex a b;outer b;";
  /** One odd real field: 01|23, 02|13 (which cross), 03|12. */
  static final String ODD = "field m real odd;outer m m m m;";
  /** Three letters: no pairing at all. */
  static final String THREE = "field p real;outer p p p;";
  /** Twelve letters, each of which may be paired with each other. */
  static final String TWELVE = "field p real;vertex p p p p p p;vertex p p p p p p;";
  /** As many fields as there may be, 78 bytes. */
  static final String SIX_FIELDS =
      "field a real;field b real;field c real;field d real;field e real;field f real;";

  /** More than any of the small theories has, so that a snapshot holds all of these. */
  private static final int SHOWN = 20;

  private static int wrong = 0;
  private static int asked = 0;
  private static String sentence = "";

  /** What is asked from here on is a test of this sentence. */
  static void under(String text) {
    sentence = "\"" + text + "\" ";
  }

  static void finish() {
    System.out.println(asked + " answers looked at, " + wrong + " are not as due");
    if (wrong != 0) {
      System.exit(1);
    }
  }

  static void due(String what, long got, long want) {
    asked++;
    if (got != want) {
      wrong++;
      System.out.println(sentence + what + ": answered " + got + ", due is " + want);
    }
  }

  static void due(String what, String got, String want) {
    asked++;
    if (!got.equals(want)) {
      wrong++;
      System.out.println(sentence + what + ": was\n  " + got + "\n due is\n  " + want);
    }
  }

  /** An answer with STATUS 0, which the call itself must leave: the one ahead of it leaves another. */
  static void fine(String what, ContractionCounter x, LongSupplier call, long want) {
    x.many(-1);
    due(what, call.getAsLong(), want);
    due(what + " status", x.status(), 0);
  }

  /** NONE with a STATUS, and nothing else changed. */
  static void refused(String what, ContractionCounter x, LongSupplier call, int status) {
    String before = snapshot(x);
    due(what, call.getAsLong(), ContractionCounter.NONE);
    due(what + " status", x.status(), status);
    due(what + " changed something", snapshot(x), before);
  }

  /** All that can be read without changing anything. */
  static String snapshot(ContractionCounter x) {
    StringBuilder all = new StringBuilder();
    all.append(x.fault(0)).append(' ').append(x.fault(1)).append(" many");
    for (int what = 0; what < 13; what++) {
      all.append(' ').append(x.many(what));
    }
    for (int k = 0; k < x.many(0); k++) {
      all.append(" field ").append(x.field(k, 0)).append(x.field(k, 1)).append(x.field(k, 2));
    }
    for (int i = 0; i < x.many(4); i++) {
      all.append(" letter ").append(x.letter(i, 0)).append(x.letter(i, 1)).append(x.letter(i, 2));
      for (int j = 0; j < i; j++) {
        all.append(' ').append(x.code(i, j));
      }
    }
    for (int p = 0; p < x.many(2); p++) {
      all.append(" point ").append(x.point(p, 0)).append(x.point(p, 1)).append(x.point(p, 2));
    }
    for (int d = 0; d < Math.min(SHOWN, x.many(6)); d++) {
      all.append(" diagram ").append(x.sumOf(d));
      for (int what = 0; what < 11; what++) {
        all.append(' ').append(x.diagram(d, what));
      }
      all.append(" name");
      for (int k = 0; k < x.many(4) / 2; k++) {
        all.append(' ').append(x.name(d, k));
      }
    }
    for (int k = 0; k < Math.min(SHOWN, x.many(5)); k++) {
      all.append(" pairing");
      for (int what = 0; what < 5; what++) {
        all.append(' ').append(x.pairing(k, what));
      }
      all.append(" mates");
      for (int i = 0; i < x.many(4); i++) {
        all.append(' ').append(x.mate(k, i));
      }
    }
    all.append(" sum ").append(x.sum()).append(" out ").append(printed(x));
    return all.toString();
  }

  static String printed(ContractionCounter x) {
    StringBuilder text = new StringBuilder();
    for (int i = 0; x.out(i) >= 0; i++) {
      text.append((char) x.out(i));
    }
    return text.toString();
  }

  /** Each letter, with its point ahead of it. */
  static String rows(ContractionCounter x) {
    StringBuilder rows = new StringBuilder();
    for (int i = 0; i < x.many(4); i++) {
      rows.append(x.letter(i, 2)).append((char) ('a' - 1 + x.field(x.letter(i, 0), 0)));
      rows.append(x.letter(i, 1) == 1 ? "'" : "").append(' ');
    }
    return rows.toString();
  }

  // ---- texts

  static int[] ints(String text) {
    byte[] bytes = Arrays.copyOf(text.getBytes(StandardCharsets.ISO_8859_1), (text.length() + 19) / 20 * 20);
    int[] ints = new int[bytes.length / 4];
    ByteBuffer.wrap(bytes).asIntBuffer().get(ints);
    return ints;
  }

  static int tell(ContractionCounter x, String text) {
    int[] v = ints(text);
    int has = 0;
    for (int at = 0; at < v.length; at += 5) {
      has = x.feed(v[at], v[at + 1], v[at + 2], v[at + 3], v[at + 4]);
    }
    return has;
  }

  static int load(ContractionCounter x, String text) {
    tell(x, text);
    return x.load(text.length());
  }

  static int pairs(ContractionCounter x, String text) {
    tell(x, text);
    return x.pairs(text.length());
  }

  static int lines(ContractionCounter x, String text) {
    tell(x, text);
    return x.lines(text.length());
  }

  static ContractionCounter with(String text) {
    ContractionCounter x = new ContractionCounter();
    due("load of " + text, load(x, text) >= 0 ? 0 : x.status(), 0);
    return x;
  }

  static void badLoad(String text, int kind, int place) {
    ContractionCounter x = with(PHI);
    tell(x, text);
    bad(text, x, () -> x.load(text.length()), kind, place);
  }

  static void badPairs(String theory, String text, int kind, int place) {
    ContractionCounter x = with(theory);
    tell(x, text);
    bad(text, x, () -> x.pairs(text.length()), kind, place);
  }

  static void badLines(String theory, String text, int kind, int place) {
    ContractionCounter x = with(theory);
    tell(x, text);
    bad(text, x, () -> x.lines(text.length()), kind, place);
  }

  /** A FAULT: it leaves all as it was but the tape and what fault() tells. */
  private static void bad(String text, ContractionCounter x, LongSupplier call, int kind, int place) {
    String before = withoutFault(x);
    due("fault of " + text, call.getAsLong(), ContractionCounter.NONE);
    due("status of " + text, x.status(), 9);
    due("kind of " + text, x.fault(0), kind);
    due("place of " + text, x.fault(1), place);
    due("nothing else changes by " + text, withoutFault(x), before);
    due("the tape is empty behind " + text, x.feed(0, 0, 0, 0, 0), 20);
  }

  private static String withoutFault(ContractionCounter x) {
    String all = snapshot(x);
    return all.substring(all.indexOf("many"));
  }
}
