import java.util.ArrayList;
import java.util.Arrays;
import java.util.Collections;
import java.util.HashMap;
import java.util.List;
import java.util.Map;
import java.util.TreeMap;

/**
 * The document read a second time, as slowly and plainly as can be: no tables,
 * no packing, no look-ahead. OracleTest asks it and the class the same calls.
 */
final class Oracle {
  record Field(char letter, boolean pair, boolean odd) {}

  record Letter(int field, boolean bar) {}

  record Point(List<Letter> row, boolean vertex, boolean normal) {}

  record Line(int from, int to) {}

  /** A fault ends the reading of a text. */
  static final class Fault extends Exception {
    private static final long serialVersionUID = 1L;
    final int kind;
    final int place;

    Fault(int kind, int place) {
      this.kind = kind;
      this.place = place;
    }
  }

  /** Kind: 'w' a word, 'n' a number, 's' a sign, '!' no token, '$' the end. */
  record Token(char kind, String text, int place) {
    boolean is(String what) {
      return kind != '!' && kind != '$' && text.equals(what);
    }
  }

  static final class Diagram {
    List<Integer> name;
    final List<Integer> pairings = new ArrayList<>();
  }

  private List<Field> fields = new ArrayList<>();
  private List<int[]> mixes = new ArrayList<>();
  private List<Point> points = new ArrayList<>();
  private Map<Integer, Integer> worths = new HashMap<>();
  private List<Integer> tape = new ArrayList<>();
  private String out = "";
  private int status = 0;
  private int faultKind = -1;
  private int faultPlace = -1;

  private List<Letter> letters = new ArrayList<>();
  private List<Integer> homes = new ArrayList<>();
  private List<int[]> pairings = new ArrayList<>();
  private List<Diagram> diagrams = new ArrayList<>();
  private List<int[]> changes = new ArrayList<>();

  Oracle() {
    anew();
  }

  // ---- what follows from fields, mixes, points

  private void anew() {
    worths.clear();
    letters = new ArrayList<>();
    homes = new ArrayList<>();
    for (int p = 0; p < points.size(); p++) {
      for (Letter letter : points.get(p).row()) {
        letters.add(letter);
        homes.add(p);
      }
    }
    pairings = new ArrayList<>();
    int[] mates = new int[letters.size()];
    Arrays.fill(mates, -1);
    collect(mates, (1 << letters.size()) - 1, pairings);
    changes = new ArrayList<>();
    permute(new ArrayList<>());
    TreeMap<List<Integer>, Diagram> byName = new TreeMap<>(Oracle::compareRows);
    for (int k = 0; k < pairings.size(); k++) {
      List<Integer> name = nameOf(codesOf(pairings.get(k)));
      Diagram diagram = byName.computeIfAbsent(name, any -> new Diagram());
      diagram.name = name;
      diagram.pairings.add(k);
    }
    diagrams = new ArrayList<>(byName.values());
  }

  private static int compareRows(List<Integer> a, List<Integer> b) {
    for (int i = 0; i < a.size(); i++) {
      int order = Integer.compare(a.get(i), b.get(i));
      if (order != 0) {
        return order;
      }
    }
    return 0;
  }

  private void collect(int[] mates, int set, List<int[]> into) {
    int first = -1;
    for (int i = 0; i < mates.length && first < 0; i++) {
      if ((set >> i & 1) != 0 && mates[i] < 0) {
        first = i;
      }
    }
    if (first < 0) {
      into.add(mates.clone());
      return;
    }
    for (int j = first + 1; j < mates.length; j++) {
      if ((set >> j & 1) != 0 && mates[j] < 0 && may(first, j)) {
        mates[first] = j;
        mates[j] = first;
        collect(mates, set, into);
        mates[first] = -1;
        mates[j] = -1;
      }
    }
  }

  private void permute(List<Integer> begun) {
    int p = begun.size();
    if (p == points.size()) {
      changes.add(begun.stream().mapToInt(q -> q).toArray());
      return;
    }
    for (int q = 0; q < points.size(); q++) {
      if (!begun.contains(q) && (p == q || alike(p, q))) {
        begun.add(q);
        permute(begun);
        begun.remove(begun.size() - 1);
      }
    }
  }

  private boolean alike(int p, int q) {
    Point a = points.get(p);
    Point b = points.get(q);
    return a.vertex() && b.vertex() && a.normal() == b.normal() && a.row().equals(b.row());
  }

  private int mixOf(int f, int g) {
    for (int m = 0; m < mixes.size(); m++) {
      int[] mix = mixes.get(m);
      if ((mix[0] == f && mix[1] == g) || (mix[0] == g && mix[1] == f)) {
        return m;
      }
    }
    return -1;
  }

  private boolean may(int i, int j) {
    if (i == j || (homes.get(i).equals(homes.get(j)) && points.get(homes.get(i)).normal())) {
      return false;
    }
    Letter a = letters.get(i);
    Letter b = letters.get(j);
    if (a.field() != b.field()) {
      return mixOf(a.field(), b.field()) >= 0;
    }
    return !fields.get(a.field()).pair() || a.bar() != b.bar();
  }

  private int lineCode(int i, int j) {
    Letter a = letters.get(i);
    Letter b = letters.get(j);
    int p = homes.get(i);
    int q = homes.get(j);
    if (a.field() != b.field()) {
      int m = mixOf(a.field(), b.field());
      boolean firstIsA = mixes.get(m)[0] == a.field();
      return firstIsA ? 100 * p + 10 * q + 6 + m : 100 * q + 10 * p + 6 + m;
    }
    if (fields.get(a.field()).pair()) {
      return a.bar() ? 100 * q + 10 * p + a.field() : 100 * p + 10 * q + a.field();
    }
    return 100 * Math.min(p, q) + 10 * Math.max(p, q) + a.field();
  }

  private List<Integer> codesOf(int[] mates) {
    List<Integer> codes = new ArrayList<>();
    for (int i = 0; i < mates.length; i++) {
      if (mates[i] > i) {
        codes.add(lineCode(i, mates[i]));
      }
    }
    return codes;
  }

  private boolean isReal(int sort) {
    return sort < 6 && !fields.get(sort).pair();
  }

  private List<Integer> changed(List<Integer> codes, int[] change) {
    List<Integer> row = new ArrayList<>();
    for (int code : codes) {
      int from = change[code / 100];
      int to = change[code / 10 % 10];
      if (isReal(code % 10) && from > to) {
        row.add(100 * to + 10 * from + code % 10);
      } else {
        row.add(100 * from + 10 * to + code % 10);
      }
    }
    Collections.sort(row);
    return row;
  }

  private List<Integer> nameOf(List<Integer> codes) {
    List<Integer> least = null;
    for (int[] change : changes) {
      List<Integer> row = changed(codes, change);
      if (least == null || compareRows(row, least) < 0) {
        least = row;
      }
    }
    return least;
  }

  private List<int[]> twos(int[] mates) {
    List<int[]> twos = new ArrayList<>();
    for (int i = 0; i < mates.length; i++) {
      if (mates[i] > i) {
        twos.add(new int[] {i, mates[i]});
      }
    }
    return twos;
  }

  private static boolean between(int x, int[] line) {
    return x > line[0] && x < line[1];
  }

  private static boolean cross(int[] a, int[] b) {
    return between(a[0], b) != between(a[1], b);
  }

  private boolean isOdd(int i) {
    return fields.get(letters.get(i).field()).odd();
  }

  private int signOf(int[] mates) {
    List<int[]> twos = twos(mates);
    int sign = 1;
    for (int a = 0; a < twos.size(); a++) {
      for (int b = 0; b < a; b++) {
        if (isOdd(twos.get(a)[0]) && isOdd(twos.get(b)[0]) && cross(twos.get(a), twos.get(b))) {
          sign = -sign;
        }
      }
      if (isOdd(twos.get(a)[0]) && letters.get(twos.get(a)[0]).bar()) {
        sign = -sign;
      }
    }
    return sign;
  }

  private int crossingsOf(int[] mates) {
    List<int[]> twos = twos(mates);
    int count = 0;
    for (int a = 0; a < twos.size(); a++) {
      for (int b = 0; b < a; b++) {
        count += cross(twos.get(a), twos.get(b)) ? 1 : 0;
      }
    }
    return count;
  }

  private int roundsOf(int[] mates) {
    boolean[] seen = new boolean[mates.length];
    int rounds = 0;
    for (int i = 0; i < mates.length; i++) {
      if (!seen[i]) {
        rounds++;
        for (int at = i; !seen[at]; at = (mates[at] + 1) % mates.length) {
          seen[at] = true;
        }
      }
    }
    return rounds;
  }

  private int holesOf(int[] mates) {
    return mates.length == 0 ? 0 : (mates.length / 2 + 1 - roundsOf(mates)) / 2;
  }

  private long worthOf(int[] mates) {
    long product = signOf(mates);
    for (int code : codesOf(mates)) {
      product *= worths.getOrDefault(code, 1);
    }
    return product;
  }

  // ---- graphs: labels of parts by joining, over a set of points

  private int[] labels(int set, List<Line> lines) {
    int[] label = new int[8];
    for (int p = 0; p < 8; p++) {
      label[p] = (set >> p & 1) != 0 ? p : -1;
    }
    for (Line line : lines) {
      int a = label[line.from()];
      int b = label[line.to()];
      for (int p = 0; p < 8; p++) {
        if (label[p] == b) {
          label[p] = a;
        }
      }
    }
    return label;
  }

  private int partsOf(int set, List<Line> lines) {
    return (int) Arrays.stream(labels(set, lines)).filter(l -> l >= 0).distinct().count();
  }

  private int partWith(int p, int set, List<Line> lines) {
    int[] label = labels(set, lines);
    int bits = 0;
    for (int q = 0; q < 8; q++) {
      if (label[q] >= 0 && label[q] == label[p]) {
        bits |= 1 << q;
      }
    }
    return bits;
  }

  private boolean linked(int set, List<Line> lines) {
    return coreOf(set, lines) == set;
  }

  private int coreOf(int set, List<Line> lines) {
    int bits = 0;
    for (int p = 0; p < points.size(); p++) {
      if ((set >> p & 1) != 0 && !points.get(p).vertex()) {
        bits |= partWith(p, set, lines);
      }
    }
    return bits;
  }

  private static List<Line> linesOf(List<Integer> codes) {
    List<Line> lines = new ArrayList<>();
    for (int code : codes) {
      lines.add(new Line(code / 100, code / 10 % 10));
    }
    return lines;
  }

  private int bridgesOf(int set, List<Line> lines) {
    int count = 0;
    for (int k = 0; k < lines.size(); k++) {
      List<Line> less = new ArrayList<>(lines);
      less.remove(k);
      count += partsOf(set, less) > partsOf(set, lines) ? 1 : 0;
    }
    return count;
  }

  private int allPoints() {
    return (1 << points.size()) - 1;
  }

  // ---- texts

  private static List<Token> scan(List<Integer> bytes, boolean numbers) {
    List<Token> tokens = new ArrayList<>();
    StringBuilder text = new StringBuilder();
    bytes.forEach(b -> text.append((char) b.intValue()));
    String words = "[a-z]+|[" + (numbers ? "->" : "'") + ";]" + (numbers ? "|[0-9]+" : "");
    java.util.regex.Matcher matcher =
        java.util.regex.Pattern.compile("[\\n ]+|" + words + "|(?s:.)").matcher(text);
    while (matcher.find()) {
      String found = matcher.group();
      char first = found.charAt(0);
      if (first == ' ' || first == '\n') {
        continue;
      }
      char kind = '!';
      if (found.matches("[a-z]+")) {
        kind = 'w';
      } else if (numbers && found.matches("[0-9]{1,2}")) {
        kind = 'n';
      } else if (found.matches(numbers ? "[->;]" : "[';]")) {
        kind = 's';
      }
      tokens.add(new Token(kind, found, matcher.start()));
    }
    tokens.add(new Token('$', "", bytes.size()));
    return tokens;
  }

  private static Fault misplaced(Token token) {
    return new Fault(token.kind() == '!' ? 1 : 2, token.place());
  }

  private static void expect(Token token, String what) throws Fault {
    if (!token.is(what)) {
      throw misplaced(token);
    }
  }

  private static int fieldIn(List<Field> fields, char letter) {
    for (int k = 0; k < fields.size(); k++) {
      if (fields.get(k).letter() == letter) {
        return k;
      }
    }
    return -1;
  }

  private static int expectField(Token token, List<Field> fields) throws Fault {
    if (token.kind() != 'w' || token.text().length() != 1) {
      throw misplaced(token);
    }
    int k = fieldIn(fields, token.text().charAt(0));
    if (k < 0) {
      throw new Fault(3, token.place());
    }
    return k;
  }

  private void readText(List<Integer> bytes) throws Fault {
    List<Token> t = scan(bytes, false);
    List<Field> f = new ArrayList<>();
    List<int[]> m = new ArrayList<>();
    List<Point> p = new ArrayList<>();
    int at = 0;
    int all = 0;
    while (t.get(at).kind() != '$') {
      Token head = t.get(at++);
      if (head.is("field")) {
        if (f.size() == 6) {
          throw new Fault(6, head.place());
        }
        Token l = t.get(at++);
        if (l.kind() != 'w' || l.text().length() != 1) {
          throw misplaced(l);
        }
        if (fieldIn(f, l.text().charAt(0)) >= 0) {
          throw new Fault(5, l.place());
        }
        Token sort = t.get(at++);
        if (!sort.is("pair")) {
          expect(sort, "real");
        }
        boolean odd = t.get(at).is("odd");
        at += odd ? 1 : 0;
        f.add(new Field(l.text().charAt(0), sort.is("pair"), odd));
      } else if (head.is("mix")) {
        if (m.size() == 4) {
          throw new Fault(6, head.place());
        }
        int a = expectField(t.get(at), f);
        if (f.get(a).pair()) {
          throw new Fault(4, t.get(at).place());
        }
        at++;
        int b = expectField(t.get(at), f);
        boolean told = false;
        for (int[] mix : m) {
          told |= (mix[0] == a && mix[1] == b) || (mix[0] == b && mix[1] == a);
        }
        if (f.get(b).pair() || a == b || f.get(a).odd() != f.get(b).odd() || told) {
          throw new Fault(4, t.get(at).place());
        }
        at++;
        m.add(new int[] {a, b});
      } else if (head.is("normal") || head.is("outer") || head.is("vertex")) {
        if (p.size() == 8) {
          throw new Fault(6, head.place());
        }
        Token kind = head;
        if (head.is("normal")) {
          kind = t.get(at++);
          if (!kind.is("vertex")) {
            expect(kind, "outer");
          }
        }
        if (kind.is("vertex") && p.stream().filter(Point::vertex).count() == 5) {
          throw new Fault(6, head.place());
        }
        List<Letter> row = new ArrayList<>();
        do {
          int k = expectField(t.get(at), f);
          if (row.size() == 6 || all == 12) {
            throw new Fault(6, t.get(at).place());
          }
          at++;
          boolean bar = t.get(at).is("'");
          if (bar && !f.get(k).pair()) {
            throw new Fault(4, t.get(at).place());
          }
          at += bar ? 1 : 0;
          row.add(new Letter(k, bar));
          all++;
        } while (!t.get(at).is(";"));
        p.add(new Point(row, kind.is("vertex"), head.is("normal")));
      } else {
        throw misplaced(head);
      }
      expect(t.get(at++), ";");
    }
    fields = f;
    mixes = m;
    points = p;
  }

  private static int expectNumber(Token token, int bound) throws Fault {
    if (token.kind() != 'n') {
      throw misplaced(token);
    }
    int number = Integer.parseInt(token.text());
    if (number >= bound) {
      throw new Fault(3, token.place());
    }
    return number;
  }

  private int[] readPairs(List<Integer> bytes) throws Fault {
    List<Token> t = scan(bytes, true);
    int[] mates = new int[letters.size()];
    Arrays.fill(mates, -1);
    int lines = 0;
    for (int at = 0; t.get(at).kind() != '$'; at += 4) {
      int a = expectNumber(t.get(at), mates.length);
      if (mates[a] >= 0) {
        throw new Fault(5, t.get(at).place());
      }
      if (lines >= mates.length / 2) {
        throw new Fault(6, t.get(at).place());
      }
      expect(t.get(at + 1), "-");
      int b = expectNumber(t.get(at + 2), mates.length);
      if (!may(a, b)) {
        throw new Fault(4, t.get(at + 2).place());
      }
      if (mates[b] >= 0) {
        throw new Fault(5, t.get(at + 2).place());
      }
      expect(t.get(at + 3), ";");
      mates[a] = b;
      mates[b] = a;
      lines++;
    }
    return mates;
  }

  private int sortOf(String word) {
    for (int k = 0; k < fields.size(); k++) {
      if (word.equals("" + fields.get(k).letter())) {
        return k;
      }
    }
    for (int m = 0; m < mixes.size(); m++) {
      if (word.equals(mixWord(m))) {
        return 6 + m;
      }
    }
    return -1;
  }

  private String mixWord(int m) {
    return "" + fields.get(mixes.get(m)[0]).letter() + fields.get(mixes.get(m)[1]).letter();
  }

  private List<Integer> readLines(List<Integer> bytes) throws Fault {
    List<Token> t = scan(bytes, true);
    List<Integer> codes = new ArrayList<>();
    for (int at = 0; t.get(at).kind() != '$'; at += 5) {
      int from = expectNumber(t.get(at), points.size());
      if (codes.size() >= letters.size() / 2) {
        throw new Fault(6, t.get(at).place());
      }
      if (!t.get(at + 1).is(">")) {
        expect(t.get(at + 1), "-");
      }
      int to = expectNumber(t.get(at + 2), points.size());
      Token word = t.get(at + 3);
      if (word.kind() != 'w') {
        throw misplaced(word);
      }
      int sort = sortOf(word.text());
      if (sort < 0) {
        throw new Fault(3, word.place());
      }
      boolean pair = sort < 6 && fields.get(sort).pair();
      if (pair != t.get(at + 1).is(">")) {
        throw new Fault(4, word.place());
      }
      expect(t.get(at + 4), ";");
      codes.add(isReal(sort)
          ? 100 * Math.min(from, to) + 10 * Math.max(from, to) + sort
          : 100 * from + 10 * to + sort);
    }
    return codes;
  }

  // ---- the face

  private int none(int why) {
    status = why;
    return -1;
  }

  private int fine(int value) {
    status = 0;
    return value;
  }

  private boolean noLetter(int i) {
    return i < 0 || i >= letters.size();
  }

  private boolean noPoint(int p) {
    return p < 0 || p >= points.size();
  }

  private boolean noPairing(int k) {
    return k < 0 || k >= pairings.size();
  }

  private boolean noDiagram(int d) {
    return d < 0 || d >= diagrams.size();
  }

  private static boolean out(int what, int most) {
    return what < 0 || what > most;
  }

  public int status() {
    return status;
  }

  public int feed(int a, int b, int c, int d, int e) {
    if (tape.size() + 20 > 400) {
      return -1;
    }
    for (int four : new int[] {a, b, c, d, e}) {
      for (int k = 3; k >= 0; k--) {
        tape.add(four >>> 8 * k & 255);
      }
    }
    return tape.size();
  }

  private List<Integer> take(int n) {
    List<Integer> bytes = new ArrayList<>(tape.subList(0, n));
    tape.clear();
    faultKind = 0;
    faultPlace = -1;
    return bytes;
  }

  private int faulty(Fault fault) {
    faultKind = fault.kind;
    faultPlace = fault.place;
    return none(9);
  }

  public int load(int n) {
    if (n < 0 || n > tape.size()) {
      return none(1);
    }
    try {
      readText(take(n));
    } catch (Fault fault) {
      return faulty(fault);
    }
    anew();
    return fine(letters.size());
  }

  public int pairs(int n) {
    if (n < 0 || n > tape.size()) {
      return none(1);
    }
    try {
      int[] mates = readPairs(take(n));
      for (int k = 0; k < pairings.size(); k++) {
        if (Arrays.equals(pairings.get(k), mates)) {
          return fine(k);
        }
      }
      return none(5);
    } catch (Fault fault) {
      return faulty(fault);
    }
  }

  public int lines(int n) {
    if (n < 0 || n > tape.size()) {
      return none(1);
    }
    try {
      List<Integer> codes = readLines(take(n));
      if (2 * codes.size() == letters.size()) {
        List<Integer> name = nameOf(codes);
        for (int d = 0; d < diagrams.size(); d++) {
          if (diagrams.get(d).name.equals(name)) {
            return fine(d);
          }
        }
      }
      return none(5);
    } catch (Fault fault) {
      return faulty(fault);
    }
  }

  public int fault(int what) {
    return what == 0 ? faultKind : what == 1 ? faultPlace : -1;
  }

  public int many(int what) {
    int all = allPoints();
    switch (what) {
      case 0: return fine(fields.size());
      case 1: return fine(mixes.size());
      case 2: return fine(points.size());
      case 3: return fine((int) points.stream().filter(Point::vertex).count());
      case 4: return fine(letters.size());
      case 5: return fine(pairings.size());
      case 6: return fine(diagrams.size());
      case 7: return fine(pairings.stream().mapToInt(this::signOf).sum());
      case 8: return fine((int) pairings.stream().filter(m -> linked(all, linesOf(codesOf(m)))).count());
      case 9: return fine((int) pairings.stream().filter(m -> partsOf(all, linesOf(codesOf(m))) == 1).count());
      case 10: return fine((int) pairings.stream().filter(m -> crossingsOf(m) == 0).count());
      case 11: return fine((int) diagrams.stream().filter(d -> linked(all, linesOf(d.name))).count());
      case 12: return fine((int) diagrams.stream().filter(d -> partsOf(all, linesOf(d.name)) == 1).count());
      default: return none(1);
    }
  }

  public int letter(int i, int what) {
    if (out(what, 3)) {
      return none(1);
    }
    if (noLetter(i)) {
      return none(2);
    }
    int partners = 0;
    for (int j = 0; j < letters.size(); j++) {
      partners += may(i, j) ? 1 : 0;
    }
    Letter letter = letters.get(i);
    return fine(new int[] {letter.field(), letter.bar() ? 1 : 0, homes.get(i), partners}[what]);
  }

  public int field(int k, int what) {
    if (out(what, 2)) {
      return none(1);
    }
    if (k < 0 || k >= fields.size()) {
      return none(2);
    }
    Field field = fields.get(k);
    return fine(new int[] {field.letter() - 'a' + 1, field.pair() ? 1 : 0, field.odd() ? 1 : 0}[what]);
  }

  public int point(int p, int what) {
    if (out(what, 4)) {
      return none(1);
    }
    if (noPoint(p)) {
      return none(2);
    }
    Point point = points.get(p);
    int like = 0;
    for (int q = 0; q < points.size(); q++) {
      like += alike(p, q) ? 1 : 0;
    }
    return fine(new int[] {point.row().size(), point.vertex() ? 1 : 0, point.normal() ? 1 : 0,
        homes.indexOf(p), like}[what]);
  }

  public int code(int i, int j) {
    if (noLetter(i) || noLetter(j)) {
      return none(2);
    }
    if (i == j) {
      return none(4);
    }
    return may(i, j) ? fine(lineCode(i, j)) : none(5);
  }

  public int drop(int p) {
    if (noPoint(p)) {
      return none(2);
    }
    points.remove(p);
    anew();
    return fine(points.size());
  }

  public int move(int p, int place) {
    if (place < 0 || place >= points.size()) {
      return none(1);
    }
    if (noPoint(p)) {
      return none(2);
    }
    if (p == place) {
      return none(4);
    }
    points.add(place, points.remove(p));
    anew();
    return fine(homes.indexOf(place));
  }

  public int swap(int i) {
    if (noLetter(i) || i == letters.size() - 1) {
      return none(2);
    }
    if (!homes.get(i).equals(homes.get(i + 1))) {
      return none(5);
    }
    if (letters.get(i).equals(letters.get(i + 1))) {
      return none(4);
    }
    int p = homes.get(i);
    Point old = points.get(p);
    List<Letter> row = new ArrayList<>(old.row());
    Collections.swap(row, i - homes.indexOf(p), i + 1 - homes.indexOf(p));
    points.set(p, new Point(row, old.vertex(), old.normal()));
    anew();
    return many(7);
  }

  public int normal(int p, boolean is) {
    if (noPoint(p)) {
      return none(2);
    }
    Point old = points.get(p);
    if (old.normal() == is) {
      return none(4);
    }
    points.set(p, new Point(old.row(), old.vertex(), is));
    anew();
    return fine(pairings.size());
  }

  public int copy(int p) {
    if (noPoint(p)) {
      return none(2);
    }
    Point point = points.get(p);
    boolean full = points.size() == 8 || letters.size() + point.row().size() > 12;
    if (full || (point.vertex() && points.stream().filter(Point::vertex).count() == 5)) {
      return none(3);
    }
    points.add(point);
    anew();
    return fine(points.size() - 1);
  }

  public int worth(int code, int worth) {
    if (worth < -9 || worth > 9) {
      return none(1);
    }
    if (code < 0 || noPoint(code / 100) || noPoint(code / 10 % 10)) {
      return none(2);
    }
    int sort = code % 10;
    if (sort < 6 ? sort >= fields.size() : sort - 6 >= mixes.size()) {
      return none(2);
    }
    if (isReal(sort) && code / 100 > code / 10 % 10) {
      return none(2);
    }
    int old = worths.getOrDefault(code, 1);
    if (old == worth) {
      return none(4);
    }
    worths.put(code, worth);
    return fine(old);
  }

  public int mate(int k, int i) {
    return noPairing(k) || noLetter(i) ? none(2) : fine(pairings.get(k)[i]);
  }

  public int pairing(int k, int what) {
    if (out(what, 4)) {
      return none(1);
    }
    if (noPairing(k)) {
      return none(2);
    }
    int[] mates = pairings.get(k);
    switch (what) {
      case 0: return fine(signOf(mates));
      case 1: return fine(crossingsOf(mates));
      case 2: return fine(holesOf(mates));
      case 4: return fine(roundsOf(mates));
      default:
        for (int d = 0; d < diagrams.size(); d++) {
          if (diagrams.get(d).pairings.contains(k)) {
            return fine(d);
          }
        }
        throw new IllegalStateException("a pairing of no diagram");
    }
  }

  public int ways(int i, int j, int what) {
    if (out(what, 1)) {
      return none(1);
    }
    if (noLetter(i) || noLetter(j)) {
      return none(2);
    }
    if (i == j) {
      return none(4);
    }
    return fine(pairings.stream().filter(m -> m[i] == j)
        .mapToInt(m -> what == 0 ? 1 : signOf(m)).sum());
  }

  public int overlay(int k, int other, int what) {
    if (out(what, 1)) {
      return none(1);
    }
    if (noPairing(k) || noPairing(other)) {
      return none(2);
    }
    int[] a = pairings.get(k);
    int[] b = pairings.get(other);
    int same = 0;
    int[] label = new int[a.length];
    for (int i = 0; i < a.length; i++) {
      label[i] = i;
      same += a[i] == b[i] && i < a[i] ? 1 : 0;
    }
    for (int round = 0; round < a.length; round++) {
      for (int i = 0; i < a.length; i++) {
        label[i] = Math.min(label[i], Math.min(label[a[i]], label[b[i]]));
      }
    }
    return fine(what == 0 ? same : (int) Arrays.stream(label).distinct().count());
  }

  public int by(int what, int number) {
    if (out(what, 1) || number < 0) {
      return none(1);
    }
    return fine((int) pairings.stream()
        .filter(m -> (what == 0 ? crossingsOf(m) : holesOf(m)) == number).count());
  }

  public int signedBy(int what, int number) {
    if (out(what, 1) || number < 0) {
      return none(1);
    }
    return fine(pairings.stream()
        .filter(m -> (what == 0 ? crossingsOf(m) : holesOf(m)) == number)
        .mapToInt(this::signOf).sum());
  }

  public int partial(int k) {
    return k < 0 ? none(1) : fine(partials(0, 0, k));
  }

  private int partials(int from, int used, int left) {
    if (left == 0) {
      return 1;
    }
    int count = 0;
    for (int i = from; i < letters.size(); i++) {
      for (int j = i + 1; j < letters.size(); j++) {
        if ((used >> i & 1) == 0 && (used >> j & 1) == 0 && may(i, j)) {
          count += partials(i + 1, used | 1 << i | 1 << j, left - 1);
        }
      }
    }
    return count;
  }

  public int sub(int set, int what) {
    if (out(what, 3) || set < 0 || set > allPoints()) {
      return none(1);
    }
    int bits = 0;
    for (int i = 0; i < letters.size(); i++) {
      bits |= (set >> homes.get(i) & 1) << i;
    }
    int[] mates = new int[letters.size()];
    Arrays.fill(mates, -1);
    List<int[]> found = new ArrayList<>();
    collect(mates, bits, found);
    switch (what) {
      case 0: return fine(found.size());
      case 1: return fine(found.stream().mapToInt(this::signOf).sum());
      case 2: return fine((int) found.stream().filter(m -> linked(set, linesOf(codesOf(m)))).count());
      default: return fine((int) found.stream().filter(m -> partsOf(set, linesOf(codesOf(m))) == 1).count());
    }
  }

  public long sum() {
    status = 0;
    return pairings.stream().mapToLong(this::worthOf).sum();
  }

  private static int factorial(int n) {
    return n < 2 ? 1 : n * factorial(n - 1);
  }

  private int symmetry(Diagram diagram) {
    int product = changes.size();
    for (Point point : points) {
      Map<Letter, Integer> there = new HashMap<>();
      point.row().forEach(letter -> there.merge(letter, 1, Integer::sum));
      for (int count : there.values()) {
        product *= factorial(count);
      }
    }
    if (product % diagram.pairings.size() != 0) {
      throw new IllegalStateException("a symmetry that is not whole");
    }
    return product / diagram.pairings.size();
  }

  private int fact(Diagram diagram, int what) {
    List<Line> lines = linesOf(diagram.name);
    int all = allPoints();
    switch (what) {
      case 0: return diagram.pairings.size();
      case 1: return diagram.pairings.stream().mapToInt(k -> signOf(pairings.get(k))).sum();
      case 2: return symmetry(diagram);
      case 3: return partsOf(all, lines);
      case 4: return linked(all, lines) ? 1 : 0;
      case 5: return lines.size() + partsOf(all, lines) - points.size();
      case 6: return bridgesOf(all, lines);
      case 7: return (int) lines.stream().filter(l -> l.from() == l.to()).count();
      case 8: return Collections.min(diagram.pairings);
      case 9: return diagram.name.stream().mapToInt(c -> Collections.frequency(diagram.name, c)).max().orElse(0);
      default: return (int) changes.stream().filter(c -> changed(diagram.name, c).equals(diagram.name)).count();
    }
  }

  public int diagram(int d, int what) {
    if (out(what, 10)) {
      return none(1);
    }
    return noDiagram(d) ? none(2) : fine(fact(diagrams.get(d), what));
  }

  public int name(int d, int k) {
    if (k < 0) {
      return none(1);
    }
    if (noDiagram(d)) {
      return none(2);
    }
    List<Integer> name = diagrams.get(d).name;
    return k < name.size() ? fine(name.get(k)) : none(5);
  }

  public int part(int d, int p) {
    if (noDiagram(d) || noPoint(p)) {
      return none(2);
    }
    return fine(partWith(p, allPoints(), linesOf(diagrams.get(d).name)));
  }

  public int far(int d, int p, int q) {
    if (noDiagram(d) || noPoint(p) || noPoint(q)) {
      return none(2);
    }
    int[][] way = new int[8][8];
    for (int a = 0; a < 8; a++) {
      Arrays.fill(way[a], 99);
      way[a][a] = 0;
    }
    for (Line line : linesOf(diagrams.get(d).name)) {
      if (line.from() != line.to()) {
        way[line.from()][line.to()] = 1;
        way[line.to()][line.from()] = 1;
      }
    }
    for (int by = 0; by < 8; by++) {
      for (int a = 0; a < 8; a++) {
        for (int b = 0; b < 8; b++) {
          way[a][b] = Math.min(way[a][b], way[a][by] + way[by][b]);
        }
      }
    }
    return way[p][q] < 99 ? fine(way[p][q]) : none(5);
  }

  public int holds(int d) {
    if (noDiagram(d)) {
      return none(2);
    }
    List<Line> lines = linesOf(diagrams.get(d).name);
    int bits = 0;
    for (int p = 0; p < points.size(); p++) {
      int out = p;
      List<Line> less = lines.stream().filter(l -> l.from() != out && l.to() != out).toList();
      int others = partWith(p, allPoints(), lines) & ~(1 << p);
      bits |= partsOf(others, within(less, others)) > 1 ? 1 << p : 0;
    }
    return fine(bits);
  }

  private static List<Line> within(List<Line> lines, int set) {
    return lines.stream().filter(l -> (set >> l.from() & set >> l.to() & 1) != 0).toList();
  }

  public int ofDiagram(int d, int what, int number) {
    if (out(what, 1) || number < 0) {
      return none(1);
    }
    if (noDiagram(d)) {
      return none(2);
    }
    return fine((int) diagrams.get(d).pairings.stream().map(pairings::get)
        .filter(m -> (what == 0 ? crossingsOf(m) : holesOf(m)) == number).count());
  }

  public long sumOf(int d) {
    if (noDiagram(d)) {
      return none(2);
    }
    status = 0;
    return diagrams.get(d).pairings.stream().mapToLong(k -> worthOf(pairings.get(k))).sum();
  }

  public int diagrams(int what, int number) {
    if (out(what, 4) || number < 0) {
      return none(1);
    }
    int fact = new int[] {3, 5, 6, 7, 2}[what];
    return fine((int) diagrams.stream().filter(d -> fact(d, fact) == number).count());
  }

  public int print(int d) {
    if (noDiagram(d)) {
      return none(2);
    }
    StringBuilder text = new StringBuilder();
    for (int code : diagrams.get(d).name) {
      int sort = code % 10;
      String word = sort < 6 ? "" + fields.get(sort).letter() : mixWord(sort - 6);
      String sign = sort < 6 && fields.get(sort).pair() ? ">" : "-";
      text.append(code / 100).append(sign).append(code / 10 % 10).append(word).append(';');
    }
    out = text.toString();
    return fine(out.length());
  }

  public int printPairs(int k) {
    if (noPairing(k)) {
      return none(2);
    }
    StringBuilder text = new StringBuilder();
    for (int[] two : twos(pairings.get(k))) {
      text.append(two[0]).append('-').append(two[1]).append(';');
    }
    out = text.toString();
    return fine(out.length());
  }

  public int out(int i) {
    if (i < 0) {
      return none(1);
    }
    return i < out.length() ? fine(out.charAt(i)) : none(5);
  }

  public int core(int d, int what) {
    if (out(what, 2)) {
      return none(1);
    }
    if (noDiagram(d)) {
      return none(2);
    }
    List<Line> lines = linesOf(diagrams.get(d).name);
    int left = coreOf(allPoints(), lines);
    return fine(new int[] {Integer.bitCount(left), within(lines, left).size(), left}[what]);
  }
}
