import java.lang.reflect.Method;
import java.util.ArrayList;
import java.util.Arrays;
import java.util.Comparator;
import java.util.List;

/** Asks the class and the oracle the same calls, chosen by a fixed row of numbers. */
public final class OracleTest {
  private static final int RUNS = 600;
  private static final int CALLS = 250;
  private static final int MOST_PAIRINGS = 1000;

  private static long state;
  private static int wrong = 0;
  private static long asked = 0;

  private ContractionCounter subject = new ContractionCounter();
  private Oracle oracle = new Oracle();
  private final List<String> log = new ArrayList<>();

  public static void main(String[] args) throws Exception {
    int runs = args.length > 0 ? Integer.parseInt(args[0]) : RUNS;
    int first = args.length > 1 ? Integer.parseInt(args[1]) : 0;
    for (int run = first; run < first + runs && wrong == 0; run++) {
      state = 77 + 1000003L * run;
      new OracleTest().play();
    }
    System.out.println(asked + " calls asked, " + wrong + " answers are not as due");
    if (wrong != 0) {
      System.exit(1);
    }
  }

  private static int random(int bound) {
    state = state * 6364136223846793005L + 1442695040888963407L;
    return (int) ((state >>> 33) % bound);
  }

  private static boolean chance(int oneOf) {
    return random(oneOf) == 0;
  }

  private void play() throws Exception {
    ask("load", 0);
    for (int call = 0; call < CALLS && wrong == 0; call++) {
      if (call % 60 == 5 || (oracle.many(5) < 2 && chance(4))) {
        say(randomText());
        ask("load", tapeTaken);
        shrink();
      } else if (chance(9)) {
        askText();
      } else if (chance(8)) {
        askChange();
      } else {
        askPlain();
      }
    }
  }

  // ---- one call on both

  private static Method find(Class<?> owner, String name) {
    for (Method method : owner.getMethods()) {
      if (method.getName().equals(name) && method.getDeclaringClass() == owner) {
        return method;
      }
    }
    throw new IllegalStateException(name);
  }

  private static long invoke(Object on, String name, Object[] args) throws Exception {
    Method method = find(on.getClass(), name);
    method.setAccessible(true);
    return ((Number) method.invoke(on, args)).longValue();
  }

  private long ask(String name, Object... args) throws Exception {
    String text = name + Arrays.toString(args);
    log.add(text);
    asked++;
    long want = invokeOracle(name, args);
    long got = invoke(subject, name, args);
    compare(text, got, want);
    if (!name.equals("status") && !name.equals("feed") && !name.equals("fault")) {
      compare(text + " status", subject.status(), oracle.status());
    }
    if (name.equals("load") || name.equals("pairs") || name.equals("lines")) {
      compare(text + " fault 0", subject.fault(0), oracle.fault(0));
      compare(text + " fault 1", subject.fault(1), oracle.fault(1));
    }
    return want;
  }

  private long invokeOracle(String name, Object[] args) throws Exception {
    for (Method method : Oracle.class.getDeclaredMethods()) {
      boolean open = java.lang.reflect.Modifier.isPublic(method.getModifiers());
      if (open && method.getName().equals(name)) {
        return ((Number) method.invoke(oracle, args)).longValue();
      }
    }
    throw new IllegalStateException(name);
  }

  private void compare(String text, long got, long want) {
    if (got != want && wrong == 0) {
      wrong++;
      log.forEach(System.out::println);
      System.out.println(text + " answered " + got + ", due is " + want);
    }
  }

  // ---- texts

  private int tapeTaken;

  private void say(String text) throws Exception {
    log.add("text: " + text);
    byte[] bytes = Arrays.copyOf(text.getBytes("ISO-8859-1"), (text.length() + 19) / 20 * 20);
    for (int at = 0; at < bytes.length; at += 20) {
      Object[] ints = new Object[5];
      for (int k = 0; k < 5; k++) {
        ints[k] = java.nio.ByteBuffer.wrap(bytes, at + 4 * k, 4).getInt();
      }
      ask("feed", ints);
    }
    tapeTaken = chance(40) ? random(450) - 20 : text.length();
  }

  private static String spoilt(String text) {
    if (text.isEmpty() || chance(2)) {
      return text;
    }
    StringBuilder spoilt = new StringBuilder(text);
    String signs = "abxyz;' -->0123456789;;  \n#\u00e9";
    for (int k = random(2); k >= 0 && spoilt.length() > 0; k--) {
      int at = random(spoilt.length());
      char sign = signs.charAt(random(signs.length()));
      switch (random(3)) {
        case 0 -> spoilt.deleteCharAt(at);
        case 1 -> spoilt.insert(at, sign);
        default -> spoilt.setCharAt(at, sign);
      }
    }
    return spoilt.toString();
  }

  private static String blank() {
    return chance(6) ? chance(2) ? "\n" : "  " : " ";
  }

  private static final String LETTERS = "abcxyz";

  private static int fieldCount;
  private static final boolean[] PAIR = new boolean[8];
  private static final boolean[] ODD = new boolean[8];

  private static String randomText() {
    String text = randomFields() + randomMixes();
    text += chance(4) ? loosePoints() : balancedPoints();
    String all = chance(5) ? spoilt(text) : text;
    return all.length() > 400 ? all.substring(0, 400) : all;
  }

  private static String randomFields() {
    StringBuilder text = new StringBuilder();
    fieldCount = chance(20) ? 6 + random(2) : 1 + random(3);
    for (int k = 0; k < fieldCount; k++) {
      PAIR[k] = chance(3);
      ODD[k] = chance(2);
      text.append("field").append(blank()).append(LETTERS.charAt(chance(60) ? random(6) : k % 6));
      text.append(blank()).append(PAIR[k] ? "pair" : "real").append(ODD[k] ? " odd" : "").append(";");
    }
    return text.toString();
  }

  /** Mostly lawful ones. */
  private static String randomMixes() {
    StringBuilder text = new StringBuilder();
    boolean[] told = new boolean[64];
    for (int m = random(chance(9) ? 12 : 4); m > 0; m--) {
      int a = random(Math.min(fieldCount, 6));
      int b = random(Math.min(fieldCount, 6));
      boolean lawful = a != b && !PAIR[a] && !PAIR[b] && ODD[a] == ODD[b] && !told[8 * a + b];
      if (lawful || chance(40)) {
        told[8 * a + b] = true;
        told[8 * b + a] = true;
        text.append("mix ").append(LETTERS.charAt(a)).append(blank()).append(LETTERS.charAt(b)).append(" ;");
      }
    }
    return text.toString();
  }

  /** Points of any letters, mostly without any pairing, often too many. */
  private static String loosePoints() {
    StringBuilder text = new StringBuilder();
    for (int p = random(chance(5) ? 10 : 7); p > 0; p--) {
      text.append(chance(4) ? "normal " : "").append(chance(3) ? "outer" : "vertex");
      text.append(randomRow(chance(6) ? 7 : 3)).append(";");
    }
    return text.toString();
  }

  private static String randomRow(int most) {
    StringBuilder row = new StringBuilder();
    for (int i = random(most); i >= 0; i--) {
      int k = random(Math.min(fieldCount, 6));
      row.append(" ").append(LETTERS.charAt(k)).append(PAIR[k] && chance(2) ? "'" : "");
    }
    return row.toString();
  }

  /** Vertices of few rows, and outer points for the letters that would be left. */
  private static String balancedPoints() {
    List<String> points = new ArrayList<>();
    int[] left = new int[12];
    int letters = 0;
    int most = 8 + 2 * random(chance(4) ? 3 : 2);
    String row = randomRow(3);
    for (int v = 0; v < 5 && letters + row.split(" ").length <= most; v++) {
      points.add((chance(5) ? "normal " : "") + (chance(7) ? "outer" : "vertex") + row + ";");
      letters += row.split(" ").length - 1;
      for (String letter : row.trim().split(" ")) {
        left[2 * LETTERS.indexOf(letter.charAt(0)) + letter.length() - 1]++;
      }
      row = chance(4) ? randomRow(3) : row;
    }
    for (int k = 0; k < fieldCount && k < 6; k++) {
      String real = (" " + LETTERS.charAt(k)).repeat(left[2 * k] % 2);
      int more = left[2 * k] - left[2 * k + 1];
      String pair = (more > 0 ? " " + LETTERS.charAt(k) + "'" : " " + LETTERS.charAt(k)).repeat(Math.abs(more));
      String missing = PAIR[k] ? pair : real;
      if (!missing.isEmpty()) {
        points.add(random(points.size() + 1), (chance(4) ? "vertex" : "outer") + missing + ";");
      }
    }
    return String.join(chance(2) ? "" : " ", points);
  }

  private void askText() throws Exception {
    int all = oracle.many(chance(2) ? 5 : 6);
    boolean pairs = chance(2);
    StringBuilder text = new StringBuilder();
    int length = pairs ? oracle.printPairs(random(Math.max(1, all))) : oracle.print(random(Math.max(1, all)));
    for (int i = 0; i < length; i++) {
      text.append((char) oracle.out(i));
    }
    // What was printed for this must not differ from what the class holds.
    ask("printPairs", 0);
    List<String> told = new ArrayList<>(List.of(text.toString().split(";")));
    told.sort(Comparator.comparingInt(line -> random(100)));
    if (chance(9) && !told.isEmpty()) {
      told.remove(0);
    }
    if (chance(9)) {
      told.add(chance(2) ? "0-0" : "0-1" + "xyz".charAt(random(3)));
    }
    StringBuilder again = new StringBuilder();
    for (String line : told) {
      again.append(line.isEmpty() ? "" : chance(3) ? turned(line) + ";" : line + (chance(3) ? " ; " : ";"));
    }
    say(chance(2) ? spoilt(again.toString()) : again.toString());
    ask(chance(15) != pairs ? "pairs" : "lines", tapeTaken);
  }

  private static String turned(String line) {
    int sign = Math.max(line.indexOf('-'), line.indexOf('>'));
    int end = sign + 1;
    while (end < line.length() && Character.isDigit(line.charAt(end))) {
      end++;
    }
    return line.substring(sign + 1, end) + line.charAt(sign) + line.substring(0, sign) + line.substring(end);
  }

  // ---- numbers

  private static final int[] ODD_ONES = {-1, -2, 99, 12, 8, Integer.MIN_VALUE, Integer.MAX_VALUE, 1 << 30, 256};

  private static int near(int bound) {
    if (chance(25)) {
      return ODD_ONES[random(ODD_ONES.length)];
    }
    return random(bound + (chance(8) ? 1 : 0) + (bound == 0 ? 1 : 0));
  }

  private int letterNumber() {
    return near(oracle.many(4));
  }

  private int pointNumber() {
    return near(oracle.many(2));
  }

  private int pairingNumber() {
    return near(oracle.many(5));
  }

  private int diagramNumber() {
    return near(oracle.many(6));
  }

  private void askChange() throws Exception {
    int wayOfChange = random(6);
    switch (wayOfChange) {
      case 0 -> ask("drop", chance(4) ? pointNumber() : -1);
      case 1 -> ask("move", pointNumber(), pointNumber());
      case 2, 3 -> ask("swap", letterNumber());
      case 4 -> ask("normal", pointNumber(), chance(2));
      default -> ask("copy", pointNumber());
    }
    shrink();
  }

  /** The oracle is slow: of states with very many pairings it is asked but little. */
  private void shrink() throws Exception {
    while (oracle.many(5) > MOST_PAIRINGS && wrong == 0) {
      for (int what = 5; what <= 12; what++) {
        ask("many", what);
      }
      ask("pairing", pairingNumber(), 2 + random(2));
      ask("drop", random(oracle.many(2)));
    }
  }

  private void askPlain() throws Exception {
    switch (random(26)) {
      case 0 -> ask("many", near(13));
      case 1 -> ask("letter", letterNumber(), near(4));
      case 2 -> ask("field", near(oracle.many(0)), near(3));
      case 3 -> ask("point", pointNumber(), near(5));
      case 4 -> ask("code", letterNumber(), letterNumber());
      case 5, 6, 7 -> askWorth();
      case 8 -> ask("mate", pairingNumber(), letterNumber());
      case 9 -> ask("pairing", pairingNumber(), near(5));
      case 10 -> ask("ways", letterNumber(), letterNumber(), near(2));
      case 11 -> ask("overlay", pairingNumber(), pairingNumber(), near(2));
      case 12 -> ask("by", near(2), near(6));
      case 13 -> ask("signedBy", near(2), near(6));
      case 14 -> ask("partial", near(7));
      case 15 -> ask("sub", near(1 << oracle.many(2)), near(4));
      case 16 -> ask("sum");
      case 17 -> ask("diagram", diagramNumber(), near(11));
      case 18 -> ask("name", diagramNumber(), near(6));
      case 19 -> ask(chance(2) ? "holds" : "sumOf", diagramNumber());
      case 20 -> ask("part", diagramNumber(), pointNumber());
      case 21 -> ask("far", diagramNumber(), pointNumber(), pointNumber());
      case 22 -> ask("ofDiagram", diagramNumber(), near(2), near(4));
      case 23 -> ask("diagrams", near(5), near(9));
      case 24 -> ask("core", diagramNumber(), near(3));
      default -> askPrint();
    }
  }

  private void askWorth() throws Exception {
    int code = chance(9) ? near(900) : 100 * pointNumber() + 10 * pointNumber() + near(10);
    if (oracle.many(5) > 0 && oracle.many(4) > 0 && !chance(3)) {
      int i = random(oracle.many(4));
      code = oracle.code(i, oracle.mate(random(oracle.many(5)), i));
    }
    ask("worth", code, near(20) - 10);
    ask("sum");
  }

  private void askPrint() throws Exception {
    long length = chance(2) ? ask("print", diagramNumber()) : ask("printPairs", pairingNumber());
    for (int i = -1; i <= Math.max(length, 0); i++) {
      ask("out", i);
    }
  }
}
