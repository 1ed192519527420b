/** For each sentence of the promises 1 to 39: the cases at its boundaries, on both sides. */
public final class BoundaryCallsTest extends Checks {
  private static final Document DOCUMENT = Document.read();
  private static final int PROMISES = 39;
  /** Numbers that are below or beyond anything that can be counted. */
  private static final int[] BELOW = {-1, -2, LEAST, LEAST + 1};
  private static final int[] BEYOND = {1000000, 1 << 30, MOST - 1, MOST};

  private static final String EIGHT_ROWS = "field a real;field b real;" + "outer a;outer b;".repeat(4);

  private static int promise;

  /** A call with a number in one of its places. */
  private interface Call {
    long with(int number);
  }

  public static void main(String[] args) {
    newObject();
    status();
    feed();
    load();
    pairs();
    lines();
    fault();
    many();
    letter();
    field();
    point();
    code();
    drop();
    move();
    swap();
    normal();
    copy();
    worth();
    mate();
    pairing();
    ways();
    overlay();
    by();
    signedBy();
    partial();
    sub();
    sum();
    diagram();
    name();
    part();
    far();
    holds();
    ofDiagram();
    sumOf();
    diagrams();
    print();
    printPairs();
    out();
    core();
    for (promise = 1; promise <= PROMISES; promise++) {
      under("Promise " + promise);
      due("words without a test", DOCUMENT.unquoted("Promise " + promise + ":", ")`:", " ## "), "");
    }
    finish();
  }

  private static void says(int number, String sentence) {
    promise = number;
    under(number + ": " + sentence);
    due("stands in the document", DOCUMENT.quote("Promise " + number + ":", sentence) ? 1 : 0, 1);
  }

  /** Refused for each number below 0, for the first one too large, and for those far beyond. */
  private static void outside(ContractionCounter x, int first, int status, Call call) {
    for (int number : BELOW) {
      refused("with " + number, x, () -> call.with(number), status);
    }
    beyond(x, first, status, call);
  }

  private static void beyond(ContractionCounter x, int first, int status, Call call) {
    refused("with " + first, x, () -> call.with(first), status);
    for (int number : BEYOND) {
      refused("with " + number, x, () -> call.with(number), status);
    }
  }

  private static void below(ContractionCounter x, int status, Call call) {
    for (int number : BELOW) {
      refused("with " + number, x, () -> call.with(number), status);
    }
  }

  /** Far beyond all that can be counted there is nothing, but it may be asked. */
  private static void noneBeyond(ContractionCounter x, int first, Call call) {
    fine("with " + first, x, () -> call.with(first), 0);
    for (int number : BEYOND) {
      fine("with " + number, x, () -> call.with(number), 0);
    }
  }

  // ---- 1 to 7

  private static void newObject() {
    says(1, "No FIELDS, no POINTS: there is one PAIRING, of no LINES; STATUS 0.");
    ContractionCounter x = new ContractionCounter();
    due("status", x.status(), 0);
    due("fields, mixes, points, vertices, letters", x.many(0) + x.many(1) + x.many(2) + x.many(3) + x.many(4), 0);
    due("one pairing", x.many(5), 1);
    due("of one diagram", x.many(6), 1);
    fine("of no lines", x, () -> x.printPairs(0), 0);
    refused("nor a second", x, () -> x.pairing(1, 0), 2);
    refused("no letter", x, () -> x.mate(0, 0), 2);
    refused("no code", x, () -> x.name(0, 0), 5);
    refused("no field", x, () -> x.field(0, 0), 2);
    refused("no point", x, () -> x.point(0, 0), 2);
    refused("no place", x, () -> x.move(0, 0), 1);
    refused("no set of points but the empty one", x, () -> x.sub(1, 0), 1);
    refused("no worth", x, () -> x.worth(0, 2), 2);
    refused("no bytes", x, () -> x.out(0), 5);
    due("no fault", x.fault(0), -1);
    refused("nothing on the tape", x, () -> x.load(1), 1);
  }

  private static void status() {
    says(2, "STATUS of the latest call that has one.");
    ContractionCounter x = new ContractionCounter();
    due("ahead of any", x.status(), 0);
    x.many(13);
    due("a refused one", x.status(), 1);
    x.feed(0, 0, 0, 0, 0);
    x.fault(0);
    due("these have none", x.status(), 1);
    x.sum();
    due("a fine one", x.status(), 0);
    x.sumOf(1);
    due("of a long one", x.status(), 2);
    x.load(20);
    due("a fault", x.status(), 9);
  }

  private static void feed() {
    says(3, "Twenty bytes come behind those on the tape, the highest of each int first: how many it has;");
    ContractionCounter x = new ContractionCounter();
    due("twenty", x.feed('f' << 24 | 'i' << 16 | 'e' << 8 | 'l', 'd' << 24 | ' ' << 16 | 'p' << 8 | ' ',
        'r' << 24 | 'e' << 16 | 'a' << 8 | 'l', ';' << 24 | 'o' << 16 | 'u' << 8 | 't',
        'e' << 24 | 'r' << 16 | ' ' << 8 | 'p'), 20);
    due("forty", x.feed(' ' << 24 | 'p' << 16 | ';' << 8, 0, 0, 0, 0), 40);
    due("read", x.load(23), 2);
    due("again from the first on", x.feed(0x20202020, 0x20202020, 0x20202020, 0x20202020, 0x202020ff), 20);
    due("the lowest byte is the last, and is 255", x.load(20), -1);
    due("it is no token", x.fault(0), 1);
    due("its place", x.fault(1), 19);
    says(3, "NONE if there would be more than 400.");
    ContractionCounter y = new ContractionCounter();
    for (int k = 1; k <= 20; k++) {
      due("up to 400", y.feed(0x20202020, 0x20202020, 0x20202020, 0x20202020, 0x20202020), 20 * k);
    }
    due("one too many", y.feed(0, 0, 0, 0, 0), -1);
    due("one too many, again", y.feed(0, 0, 0, 0, 0), -1);
    due("nothing came onto it", y.load(401), -1);
    due("nothing came onto it", y.status(), 1);
    due("all 400 are as they were", y.load(400), 0);
    due("there is room again", y.feed(0, 0, 0, 0, 0), 20);
  }

  private static void load() {
    says(4, "The first n bytes of the tape (which is empty then, here and below) are a TEXT: how many LETTERS");
    ContractionCounter x = new ContractionCounter();
    fine("of no bytes", x, () -> x.load(0), 0);
    due("on the tape", tell(x, PHI), 60);
    due("the first n", x.load(21), 1);
    refused("empty then", x, () -> x.load(1), 1);
    tell(x, PHI);
    due("no letters", x.load(13), 0);
    due("no points", x.many(2), 0);
    tell(x, PHI);
    due("none of the bytes", x.load(0), 0);
    due("empty then", x.feed(0, 0, 0, 0, 0), 20);
    due("all bytes, at a fault", x.load(20), -1);
    due("empty then, too", x.feed(0, 0, 0, 0, 0), 20);
    ContractionCounter y = new ContractionCounter();
    due("twelve letters", load(y, TWELVE), 12);
    says(4, "(1: n below 0, above what the tape has; 9).");
    ContractionCounter z = with(PHI);
    outside(z, 1, 1, z::load);
    tell(z, PHI);
    outside(z, 61, 1, z::load);
    fine("just what it has, to the last letter", z, () -> z.load(44), 6);
    tell(z, PHI);
    due("a byte that is no token", z.load(45), -1);
    due("a fault", z.status(), 9);
  }

  private static void pairs() {
    says(5, "Likewise PAIRS: which PAIRING it is");
    ContractionCounter x = with(PHI);
    due("the first", pairs(x, "0-1;2-3;4-5;"), 0);
    due("the last", pairs(x, "0-5;1-4;2-3;"), 14);
    tell(x, "0-5;1-4;2-3;0-0;");
    fine("the first n bytes", x, () -> x.pairs(12), 14);
    due("empty then", x.feed(0, 0, 0, 0, 0), 20);
    ContractionCounter y = with("field e pair;outer e e' e e' e e';");
    for (int k = 0; k < 6; k++) {
      y.printPairs(k);
      due("each of those that are lawful", pairs(y, printed(y)), k);
    }
    ContractionCounter none = new ContractionCounter();
    fine("of no letters", none, () -> none.pairs(0), 0);
    says(5, "(1; 9; 5: LETTERS are left).");
    outside(x, 21, 1, x::pairs);
    due("the tape is as it was", x.feed(0, 0, 0, 0, 0), 40);
    due("a fault", x.pairs(40), -1);
    due("a fault", x.status(), 9);
    due("all letters are left", x.pairs(0), -1);
    due("all letters are left", x.status(), 5);
    due("two are left", pairs(x, "0-5;1-4;"), -1);
    due("two are left", x.status(), 5);
    due("no fault", x.fault(0), 0);
    due("empty then", x.feed(0, 0, 0, 0, 0), 20);
    ContractionCounter three = with(THREE);
    due("one is left, always", pairs(three, "0-2;"), -1);
    due("one is left, always", three.status(), 5);
  }

  private static void lines() {
    says(6, "Likewise LINES: which DIAGRAM has them (POINTS by its own labels, or VERTICES that are ALIKE changed)");
    ContractionCounter x = with(QED);
    due("the first", lines(x, "0>1e;1>2e;1-2p;2>3e;"), 0);
    due("the first, changed", lines(x, "0>2e;2>1e;1-2p;1>3e;"), 0);
    due("the last", lines(x, "0>3e;1>2e;1-2p;2>1e;"), 3);
    tell(x, "0>3e;1>2e;1-2p;2>1e;0>0e;");
    fine("the first n bytes", x, () -> x.lines(20), 3);
    due("empty then", x.feed(0, 0, 0, 0, 0), 20);
    ContractionCounter five = with("field p real;" + "vertex p p;".repeat(5));
    due("five changed: a ring of five", lines(five, "0-3p;3-1p;1-4p;4-2p;2-0p;"), lines(five, "0-1p;1-2p;2-3p;3-4p;4-0p;"));
    due("which is the last", lines(five, "0-3p;3-1p;1-4p;4-2p;2-0p;"), five.many(6) - 1);
    ContractionCounter none = new ContractionCounter();
    fine("of no letters", none, () -> none.lines(0), 0);
    says(6, "(1; 9; 5: none has).");
    outside(x, 21, 1, x::lines);
    due("the tape is as it was", x.feed(0, 0, 0, 0, 0), 40);
    due("a fault", x.lines(40), -1);
    due("a fault", x.status(), 9);
    due("no lines", x.lines(0), -1);
    due("no lines", x.status(), 5);
    due("one too few", lines(x, "0>1e;1>2e;1-2p;"), -1);
    due("one too few", x.status(), 5);
    due("outer ones changed", lines(x, "3>1e;1>2e;1-2p;2>0e;"), -1);
    due("outer ones changed", x.status(), 5);
    due("no fault", x.fault(0), 0);
    due("empty then", x.feed(0, 0, 0, 0, 0), 20);
    ContractionCounter normal = with("field p real;normal vertex p p;vertex p p;");
    due("a ring at a normal one", lines(normal, "0-0p;1-1p;"), -1);
    due("a ring at a normal one", normal.status(), 5);
    ContractionCounter three = with(THREE);
    due("no diagrams at all", lines(three, "0-0p;"), -1);
    due("no diagrams at all", three.status(), 5);
  }

  private static void fault() {
    says(7, "Of the latest load(), pairs(), lines() with STATUS 0, 5 or 9, what 0: the FAULT (0 without one), 1: its "
        + "place (NONE without).");
    ContractionCounter x = with(PHI);
    due("STATUS 0", x.fault(0) * 10 + x.fault(1), -1);
    load(x, "outer z;");
    due("STATUS 9 of load", x.fault(0) * 100 + x.fault(1), 306);
    x.load(-1);
    x.pairs(1);
    x.lines(LEAST);
    due("STATUS 1 does not count", x.fault(0) * 100 + x.fault(1), 306);
    x.print(9);
    x.many(5);
    due("nor do other calls", x.fault(0) * 100 + x.fault(1), 306);
    x.pairs(0);
    due("STATUS 5 of pairs", x.status() * 100 + x.fault(0) * 10 + x.fault(1), 499);
    lines(x, "0-1q;");
    due("STATUS 9 of lines", x.fault(0) * 100 + x.fault(1), 303);
    lines(x, "0-1p;");
    due("STATUS 5 of lines", x.status() * 100 + x.fault(0) * 10 + x.fault(1), 499);
    pairs(x, "#");
    due("at place 0", x.fault(0) * 100 + x.fault(1), 100);
    pairs(x, "0-1;2-3;4-5;");
    due("STATUS 0 of pairs", x.fault(0) * 10 + x.fault(1), -1);
    says(7, "NONE for others, and ahead of any.");
    pairs(x, "#");
    for (int number : BELOW) {
      due("others", x.fault(number), -1);
    }
    due("others", x.fault(2), -1);
    due("others", x.fault(MOST), -1);
    ContractionCounter y = new ContractionCounter();
    due("ahead of any", y.fault(0), -1);
    due("ahead of any", y.fault(1), -1);
    y.load(21);
    y.many(0);
    due("ahead of any but with STATUS 1", y.fault(0), -1);
  }

  // ---- 8 to 12: what there is

  private static void many() {
    says(8, "FIELDS (what 0), MIXES (1), POINTS (2), VERTICES (3), LETTERS (4), PAIRINGS (5), DIAGRAMS (6), SIGNS of all "
        + "PAIRINGS together (7), PAIRINGS of LINKED DIAGRAMS (8), of CONNECTED ones (9), without any CROSSING (10), "
        + "LINKED DIAGRAMS (11), CONNECTED ones (12)");
    dueMany("", 0, 0, 0, 0, 0, 1, 1, 1, 1, 0, 1, 1, 0);
    dueMany("field p real;", 1, 0, 0, 0, 0, 1, 1, 1, 1, 0, 1, 1, 0);
    dueMany(THREE, 1, 0, 1, 0, 3, 0, 0, 0, 0, 0, 0, 0, 0);
    dueMany("field p real;vertex p p;", 1, 0, 1, 1, 2, 1, 1, 1, 0, 1, 1, 0, 1);
    dueMany("field p real;outer p p;outer p p;", 1, 0, 2, 0, 4, 3, 2, 3, 3, 2, 2, 2, 1);
    dueMany(TWELVE, 1, 0, 2, 2, 12, 10395, 4, 10395, 0, 10170, 132, 0, 3);
    dueMany("field e pair odd;outer e' e;", 1, 0, 1, 0, 2, 1, 1, -1, 1, 1, 1, 1, 1);
    dueMany(TWELVE.replace("real", "real odd"), 1, 0, 2, 2, 12, 10395, 4, 1, 0, 10170, 132, 0, 3);
    dueMany(SIX_FIELDS + "mix a b;mix a c;mix a d;mix a e;" + "vertex a;vertex b;vertex c;outer d;",
        6, 4, 4, 3, 4, 0, 0, 0, 0, 0, 0, 0, 0);
    says(8, "(1); STATUS tells NONE from -1.");
    ContractionCounter x = with("field e pair odd;outer e' e;");
    fine("-1 of signs", x, () -> x.many(7), -1);
    outside(x, 13, 1, x::many);
  }

  private static void dueMany(String theory, int... want) {
    ContractionCounter x = with(theory);
    for (int what = 0; what < want.length; what++) {
      int asked = what;
      fine("many " + what + " of " + theory, x, () -> x.many(asked), want[what]);
    }
  }

  private static void letter() {
    says(9, "Of a LETTER, what 0: its FIELD, 1: 1 if it is a BAR, else 0, 2: its POINT, 3: how many LETTERS it may be "
        + "PAIRED with");
    ContractionCounter x = with(SIX_FIELDS.replace("f real", "f pair") + "outer a;".repeat(7) + "outer f' f f f' f;");
    due("the first", "" + x.letter(0, 0) + x.letter(0, 1) + x.letter(0, 2) + x.letter(0, 3), "0006");
    due("a bar", "" + x.letter(7, 0) + x.letter(7, 1) + x.letter(7, 2) + x.letter(7, 3), "5173");
    due("the last", "" + x.letter(11, 0) + x.letter(11, 1) + x.letter(11, 2) + x.letter(11, 3), "5072");
    due("with all others", with(TWELVE).letter(11, 3), 11);
    due("with none", with("field p real;outer p;").letter(0, 3), 0);
    says(9, "(1; 2).");
    outside(x, 4, 1, number -> x.letter(0, number));
    outside(x, 4, 1, number -> x.letter(12, number));
    outside(x, 12, 2, number -> x.letter(number, 0));
    outside(x, 12, 2, number -> x.letter(number, 3));
  }

  private static void field() {
    says(10, "Of a FIELD (0 and on), what 0: its letter (a: 1), 1: 1 if it is a PAIR, else 0, 2: 1 if it is ODD, else 0");
    ContractionCounter x = with("field z real;field y pair;field c real odd;field a pair odd;field b real;field d real;");
    due("the first, the last letter", "" + x.field(0, 0) + " " + x.field(0, 1) + x.field(0, 2), "26 00");
    due("the first letter", "" + x.field(3, 0) + " " + x.field(3, 1) + x.field(3, 2), "1 11");
    due("the last", "" + x.field(5, 0) + " " + x.field(5, 1) + x.field(5, 2), "4 00");
    says(10, "(1; 2: no such FIELD).");
    outside(x, 3, 1, number -> x.field(0, number));
    outside(x, 3, 1, number -> x.field(6, number));
    outside(x, 6, 2, number -> x.field(number, 0));
    ContractionCounter none = new ContractionCounter();
    outside(none, 0, 2, number -> none.field(number, 0));
  }

  private static void point() {
    says(11, "Of a POINT, what 0: how many LETTERS, 1: 1 if it is a VERTEX, else 0, 2: 1 if it is NORMAL, else 0, 3: its "
        + "first LETTER, 4: VERTICES ALIKE to it (it too; 0 of an OUTER one)");
    ContractionCounter x = with("field p real;outer p;outer p;outer p;vertex p;vertex p;vertex p;vertex p;"
        + "normal vertex p p;");
    due("the first", facts(x, 0), "1 0 0 0 0 ");
    due("alike", facts(x, 6), "1 1 0 6 4 ");
    due("the last, alike to itself alone", facts(x, 7), "2 1 1 7 1 ");
    due("outer ones, though their rows are alike", x.point(1, 4), 0);
    says(11, "(1; 2).");
    outside(x, 5, 1, number -> x.point(0, number));
    outside(x, 5, 1, number -> x.point(8, number));
    outside(x, 8, 2, number -> x.point(number, 4));
    ContractionCounter none = new ContractionCounter();
    outside(none, 0, 2, number -> none.point(number, 0));
  }

  private static String facts(ContractionCounter x, int p) {
    StringBuilder facts = new StringBuilder();
    for (int what = 0; what < 5; what++) {
      facts.append(x.point(p, what)).append(' ');
    }
    return facts.toString();
  }

  private static void code() {
    says(12, "The CODE of the LINE of two LETTERS");
    ContractionCounter x = with(TWELVE);
    fine("0", x, () -> x.code(0, 5), 0);
    fine("the last ones", x, () -> x.code(11, 10), 110);
    says(12, "(2; 4: one LETTER; 5: they may not be PAIRED).");
    outside(x, 12, 2, number -> x.code(number, 0));
    outside(x, 12, 2, number -> x.code(11, number));
    outside(x, 12, 2, number -> x.code(number, number));
    refused("one letter", x, () -> x.code(0, 0), 4);
    refused("one letter", x, () -> x.code(11, 11), 4);
    ContractionCounter y = with(QED);
    refused("two letters of a pair", y, () -> y.code(0, 2), 5);
    refused("of two fields", y, () -> y.code(0, 3), 5);
    refused("one letter that may be paired with none", y, () -> y.code(3, 3), 4);
  }

  // ---- 13 to 18: what is changed

  private static void drop() {
    says(13, "A POINT is no more; those behind it come up by one number (WORTHS are 1 again by this, move(), swap(), "
        + "normal(), copy()): how many are left");
    ContractionCounter x = with("field a real;field b real;outer a b;vertex b;normal outer a a;vertex b;");
    x.worth(111, 5);
    fine("the first", x, () -> x.drop(0), 3);
    due("those behind it", rows(x), "0b 1a 1a 2b ");
    due("normal goes along", x.point(1, 2), 1);
    refused("worths are 1", x, () -> x.worth(111, 1), 4);
    fine("the last", x, () -> x.drop(2), 2);
    due("none is behind it", rows(x), "0b 1a 1a ");
    x.drop(0);
    fine("the only one", x, () -> x.drop(0), 0);
    due("one pairing is left", x.many(5), 1);
    due("fields stay", x.many(0), 2);
    worthsGo("move", y -> y.move(0, 1));
    worthsGo("swap", y -> y.swap(0));
    worthsGo("normal", y -> y.normal(1, true));
    worthsGo("copy", y -> y.copy(1));
    worthsGo("drop", y -> y.drop(1));
    String qed = "field e pair odd;field p real;";
    asNew(QED, y -> y.drop(0), qed + "vertex e' e p;vertex e' e p;outer e';");
    asNew(QED, y -> y.drop(1), qed + "outer e;vertex e' e p;outer e';");
    asNew(QED, y -> y.drop(3), qed + "outer e;vertex e' e p;vertex e' e p;");
    asNew(PHI, y -> y.drop(1), "field p real;outer p;outer p;");
    says(13, "(2).");
    outside(x, 0, 2, x::drop);
    ContractionCounter eight = with("field a real;" + "outer a;".repeat(8));
    outside(eight, 8, 2, eight::drop);
    fine("the first of eight", eight, () -> eight.drop(0), 7);
    ContractionCounter again = with(EIGHT_ROWS);
    fine("the last of eight", again, () -> again.drop(7), 7);
    due("rows", rows(again), "0a 1b 2a 3b 4a 5b 6a ");
  }

  private interface Change {
    int of(ContractionCounter x);
  }

  private static void worthsGo(String what, Change change) {
    ContractionCounter x = with("field a real;field b real;outer a b;outer b a;");
    x.worth(0, 5);
    x.worth(11, -3);
    due(what, change.of(x) >= 0 ? 0 : x.status(), 0);
    refused("worths behind " + what, x, () -> x.worth(0, 1), 4);
    due("fields behind " + what, x.many(0), 2);
    refused("worths behind " + what, x, () -> x.worth(1, 1), 4);
  }

  /** All that was known of the points as they were is forgotten. */
  private static void asNew(String theory, Change change, String then) {
    ContractionCounter x = with(theory);
    snapshot(x);
    due("a change of " + theory, change.of(x) >= 0 ? 0 : x.status(), 0);
    due(theory + " is as " + then, snapshot(x), snapshot(with(then)));
  }

  private static void move() {
    says(14, "A POINT comes to another place among the POINTS (as they are without it): how many LETTERS lie ahead of it "
        + "then");
    ContractionCounter x = with("field a real;field b real;field c real;field d real;outer a;outer b b;outer c c c;outer d;");
    fine("to the last place", x, () -> x.move(0, 3), 6);
    due("rows", rows(x), "0b 0b 1c 1c 1c 2d 3a ");
    fine("to the first place", x, () -> x.move(3, 0), 0);
    due("rows", rows(x), "0a 1b 1b 2c 2c 2c 3d ");
    fine("by one", x, () -> x.move(1, 2), 4);
    due("rows", rows(x), "0a 1c 1c 1c 2b 2b 3d ");
    fine("back by one", x, () -> x.move(2, 1), 1);
    due("rows", rows(x), "0a 1b 1b 2c 2c 2c 3d ");
    String qed = "field e pair odd;field p real;";
    asNew(QED, y -> y.move(0, 3), qed + "vertex e' e p;vertex e' e p;outer e';outer e;");
    asNew(QED, y -> y.move(3, 0), qed + "outer e';outer e;vertex e' e p;vertex e' e p;");
    asNew(QED, y -> y.move(2, 3), qed + "outer e;vertex e' e p;outer e';vertex e' e p;");
    asNew(PHI, y -> y.move(1, 0), "field p real;vertex p p p p;outer p;outer p;");
    says(14, "(1: place below 0, or not below how many POINTS there are; 2; 4).");
    outside(x, 4, 1, number -> x.move(0, number));
    outside(x, 4, 1, number -> x.move(4, number));
    outside(x, 4, 2, number -> x.move(number, 0));
    outside(x, 4, 2, number -> x.move(number, 3));
    for (int p = 0; p < 4; p++) {
      int at = p;
      refused("there already", x, () -> x.move(at, at), 4);
    }
    ContractionCounter eight = with(EIGHT_ROWS);
    fine("the first of eight behind all", eight, () -> eight.move(0, 7), 7);
    due("rows", rows(eight), "0b 1a 2b 3a 4b 5a 6b 7a ");
    fine("the last of eight ahead of all", eight, () -> eight.move(7, 0), 0);
    due("rows", rows(eight), "0a 1b 2a 3b 4a 5b 6a 7b ");
    outside(eight, 8, 1, number -> eight.move(0, number));
    ContractionCounter one = with("field a real;outer a a;");
    refused("one alone is there already", one, () -> one.move(0, 0), 4);
    refused("one alone has no other place", one, () -> one.move(0, 1), 1);
    ContractionCounter none = new ContractionCounter();
    outside(none, 0, 1, number -> none.move(0, number));
  }

  private static void swap() {
    says(15, "LETTERS i, and the next one, of one POINT, change places: SIGNS of all PAIRINGS together then");
    ContractionCounter x = with("field e pair odd;field p real;vertex p e;outer e' p e e' p p;");
    fine("the first two", x, () -> x.swap(0), x.many(7));
    due("rows", rows(x), "0e 0p 1e' 1p 1e 1e' 1p 1p ");
    fine("in the second point", x, () -> x.swap(2), x.many(7));
    due("rows", rows(x), "0e 0p 1p 1e' 1e 1e' 1p 1p ");
    ContractionCounter y = with("field e pair odd;outer e e';");
    fine("a letter and its bar: -1 is no NONE", y, () -> y.swap(0), -1);
    due("rows", rows(y), "0e' 0e ");
    fine("back", y, () -> y.swap(0), 1);
    ContractionCounter last = with("field p real;field q real;outer p p p p p p;vertex p p p q p q;");
    fine("the last two of twelve", last, () -> last.swap(10), 945);
    due("rows", rows(last), "0p 0p 0p 0p 0p 0p 1p 1p 1p 1q 1q 1p ");
    ContractionCounter three = with("field p real;field q real;outer p q p;");
    fine("no pairings", three, () -> three.swap(0), 0);
    String qed = "field e pair odd;field p real;";
    asNew(QED, z -> z.swap(1), qed + "outer e;vertex e e' p;vertex e' e p;outer e';");
    asNew(QED, z -> z.swap(5), qed + "outer e;vertex e' e p;vertex e' p e;outer e';");
    asNew(MIXED, z -> z.swap(1), "field a real;field b real;mix b a;outer a;vertex b a;outer b;");
    says(15, "(2: no such ones; 4: they are like ones of one POINT; 5: they are of two POINTS); STATUS tells NONE from -1.");
    outside(x, 8, 2, x::swap);
    refused("the last has no next one", x, () -> x.swap(7), 2);
    refused("like ones", x, () -> x.swap(6), 4);
    refused("of two points", x, () -> x.swap(1), 5);
    ContractionCounter like = with("field p real;outer p;outer p p;");
    refused("like ones of two points", like, () -> like.swap(0), 5);
    refused("like ones of one point", like, () -> like.swap(1), 4);
    ContractionCounter one = with("field p real;outer p;");
    refused("one letter", one, () -> one.swap(0), 2);
    ContractionCounter none = new ContractionCounter();
    outside(none, 0, 2, none::swap);
  }

  private static void normal() {
    says(16, "A POINT is NORMAL (true), or not: how many PAIRINGS there are then");
    ContractionCounter x = with(TWELVE);
    fine("the first", x, () -> x.normal(0, true), 720);
    due("it is", x.point(0, 2), 1);
    fine("not any more", x, () -> x.normal(0, false), 10395);
    fine("the last", x, () -> x.normal(1, true), 720);
    ContractionCounter y = with("field p real;outer p p;");
    fine("none is left", y, () -> y.normal(0, true), 0);
    asNew(PHI, z -> z.normal(1, true), "field p real;outer p;normal vertex p p p p;outer p;");
    asNew(QED, z -> z.normal(2, true),
        "field e pair odd;field p real;outer e;vertex e' e p;normal vertex e' e p;outer e';");
    asNew("field p real;normal outer p p;outer p p;", z -> z.normal(0, false), "field p real;outer p p;outer p p;");
    says(16, "(2; 4).");
    outside(x, 2, 2, number -> x.normal(number, true));
    outside(x, 2, 2, number -> x.normal(number, false));
    refused("it is already", x, () -> x.normal(1, true), 4);
    refused("it is not already", x, () -> x.normal(0, false), 4);
  }

  private static void copy() {
    says(17, "A POINT more, behind all, like one that there is: which it is");
    ContractionCounter x = with("field e pair;field p real;outer p;normal vertex e' p e;");
    fine("a normal vertex", x, () -> x.copy(1), 2);
    due("rows", rows(x), "0p 1e' 1p 1e 2e' 2p 2e ");
    due("like it", facts(x, 2), "3 1 1 4 2 ");
    fine("an outer one", x, () -> x.copy(0), 3);
    due("like it", facts(x, 3), "1 0 0 7 0 ");
    asNew(PHI, y -> y.copy(1), "field p real;outer p;vertex p p p p;outer p;vertex p p p p;");
    asNew(QED, y -> y.copy(0), "field e pair odd;field p real;outer e;vertex e' e p;vertex e' e p;outer e';outer e;");
    asNew(MIXED, y -> y.copy(1), "field a real;field b real;mix b a;outer a;vertex a b;outer b;vertex a b;");
    says(17, "(2; 3).");
    outside(x, 4, 2, x::copy);
    x.copy(0);
    fine("up to twelve letters", x, () -> x.copy(1), 5);
    refused("a thirteenth", x, () -> x.copy(0), 3);
    refused("no such one, and no room either", x, () -> x.copy(6), 2);
    ContractionCounter seven = with("field p real;" + "outer p;".repeat(7));
    fine("the eighth point", seven, () -> seven.copy(0), 7);
    refused("a ninth", seven, () -> seven.copy(0), 3);
    ContractionCounter four = with("field p real;" + "vertex p;".repeat(4) + "outer p;");
    fine("the fifth vertex", four, () -> four.copy(0), 5);
    refused("a sixth", four, () -> four.copy(0), 3);
    fine("an outer one yet", four, () -> four.copy(4), 6);
    ContractionCounter six = with("field p real;outer p p p p p p;vertex p p p p p;");
    refused("six letters where one is free", six, () -> six.copy(0), 3);
    ContractionCounter half = with("field p real;outer p p p p p p;");
    fine("just twelve", half, () -> half.copy(0), 1);
  }

  private static void worth() {
    says(18, "WORTH of a CODE is another one: what it was");
    String fields = "field a real;field b pair;field c real;field d real;mix c a;mix a d;outer a b c;outer b' d;";
    ContractionCounter x = with(fields);
    fine("1 at first", x, () -> x.worth(0, -9), 1);
    fine("the least", x, () -> x.worth(0, 9), -9);
    fine("the most", x, () -> x.worth(0, -1), 9);
    fine("-1 is no NONE", x, () -> x.worth(0, 1), -1);
    says(18, "(1: WORTH; 2: FROM, TO no POINTS, SORT neither a FIELD nor a MIX; of a REAL one FROM above TO; 4); STATUS "
        + "tells NONE from -1.");
    for (int worth : new int[] {10, 11, 100, MOST, -10, -11, LEAST}) {
      refused("worth " + worth, x, () -> x.worth(0, worth), 1);
      refused("worth " + worth + " of no code", x, () -> x.worth(-1, worth), 1);
    }
    outside(x, 800, 2, number -> x.worth(number, 2));
    for (int none : new int[] {20, 90, 200, 120, 700, 1000, 1010, 4, 5, 8, 9, 14, 118, 100, 102, 103, 99, -100}) {
      refused("code " + none, x, () -> x.worth(none, 2), 2);
    }
    for (int code : new int[] {0, 10, 110, 3, 13, 113, 1, 11, 101, 111, 6, 16, 106, 116, 7, 107, 117}) {
      fine("code " + code, x, () -> x.worth(code, 2), 1);
    }
    refused("2 already", x, () -> x.worth(101, 2), 4);
    refused("1 already", x, () -> x.worth(2, 1), 4);
    ContractionCounter eight = with("field a real;field b real;field c real;field d real;mix a b;mix a c;mix a d;mix b c;"
        + "outer a;".repeat(8));
    fine("the greatest code", eight, () -> eight.worth(779, 3), 1);
    fine("of a mix, falling", eight, () -> eight.worth(709, 3), 1);
    refused("beyond it", eight, () -> eight.worth(780, 3), 2);
    refused("beyond it", eight, () -> eight.worth(789, 3), 2);
    ContractionCounter none = new ContractionCounter();
    outside(none, 0, 2, number -> none.worth(number, 2));
  }

  // ---- 19 to 27: PAIRINGS

  private static void mate() {
    says(19, "The LETTER with which a LETTER is in a PAIRING");
    ContractionCounter x = with(ODD);
    fine("the first of the first", x, () -> x.mate(0, 0), 1);
    fine("the last of the last", x, () -> x.mate(2, 3), 0);
    ContractionCounter y = with(TWELVE);
    fine("the last of 10395", y, () -> y.mate(10394, 11), 0);
    says(19, "(2).");
    outside(x, 3, 2, number -> x.mate(number, 0));
    outside(x, 4, 2, number -> x.mate(0, number));
    outside(x, 4, 2, number -> x.mate(number, number));
    refused("10395", y, () -> y.mate(10395, 0), 2);
    refused("the thirteenth letter", y, () -> y.mate(0, 12), 2);
    ContractionCounter three = with(THREE);
    refused("no pairing at all", three, () -> three.mate(0, 0), 2);
    ContractionCounter none = new ContractionCounter();
    outside(none, 0, 2, number -> none.mate(0, number));
  }

  private static void pairing() {
    says(20, "Of a PAIRING, what 0: SIGN, 1: how many couples of LINES CROSS, 2: HOLES, 3: its DIAGRAM, 4: ROUNDS");
    ContractionCounter none = new ContractionCounter();
    due("of no lines", five(none, 0), "1 0 0 0 0 ");
    ContractionCounter x = with(ODD);
    due("the first", five(x, 0), "1 0 0 0 3 ");
    due("that crosses", five(x, 1), "-1 1 1 0 1 ");
    due("the last", five(x, 2), "1 0 0 0 3 ");
    ContractionCounter y = with(TWELVE);
    due("the last of 10395", five(y, 10394), "1 0 0 3 7 ");
    says(20, "(1; 2); STATUS tells NONE from -1.");
    fine("-1 of a sign", x, () -> x.pairing(1, 0), -1);
    outside(x, 5, 1, number -> x.pairing(0, number));
    outside(x, 5, 1, number -> x.pairing(3, number));
    for (int what = 0; what < 5; what++) {
      int asked = what;
      outside(x, 3, 2, number -> x.pairing(number, asked));
    }
    refused("10395", y, () -> y.pairing(10395, 2), 2);
    refused("a second one of no lines", none, () -> none.pairing(1, 4), 2);
    ContractionCounter three = with(THREE);
    refused("no pairing at all", three, () -> three.pairing(0, 0), 2);
  }

  private static String five(ContractionCounter x, int k) {
    StringBuilder facts = new StringBuilder();
    for (int what = 0; what < 5; what++) {
      facts.append(x.pairing(k, what)).append(' ');
    }
    return facts.toString();
  }

  private static void ways() {
    says(21, "PAIRINGS in which two LETTERS are together, what 0: how many, 1: their SIGNS together");
    ContractionCounter x = with(TWELVE);
    fine("the first and the last", x, () -> x.ways(0, 11, 0), 945);
    fine("the last and the first", x, () -> x.ways(11, 0, 1), 945);
    ContractionCounter y = with(QED);
    fine("that may not be", y, () -> y.ways(0, 2, 0), 0);
    fine("in all", y, () -> y.ways(3, 6, 0), 6);
    ContractionCounter three = with(THREE);
    fine("no pairings", three, () -> three.ways(0, 2, 0), 0);
    says(21, "(1; 2; 4: one LETTER); STATUS tells NONE from -1.");
    ContractionCounter odd = with(ODD);
    fine("-1 of signs", odd, () -> odd.ways(3, 1, 1), -1);
    outside(odd, 2, 1, number -> odd.ways(0, 1, number));
    outside(odd, 2, 1, number -> odd.ways(4, 4, number));
    outside(odd, 4, 2, number -> odd.ways(number, 0, 0));
    outside(odd, 4, 2, number -> odd.ways(0, number, 1));
    outside(odd, 4, 2, number -> odd.ways(number, number, 1));
    refused("one letter", odd, () -> odd.ways(0, 0, 0), 4);
    refused("one letter", odd, () -> odd.ways(3, 3, 1), 4);
  }

  private static void overlay() {
    says(22, "Two PAIRINGS laid upon one another, what 0: LINES that both have, 1: rings that they make (from a LETTER by "
        + "the one, on by the other one, and so on)");
    ContractionCounter none = new ContractionCounter();
    fine("of no lines", none, () -> none.overlay(0, 0, 0), 0);
    fine("of no lines", none, () -> none.overlay(0, 0, 1), 0);
    ContractionCounter x = with(TWELVE);
    fine("one upon itself", x, () -> x.overlay(10394, 10394, 0), 6);
    fine("one upon itself", x, () -> x.overlay(10394, 10394, 1), 6);
    int round = pairs(x, "0-11;1-2;3-4;5-6;7-8;9-10;");
    fine("no line of both", x, () -> x.overlay(0, round, 0), 0);
    fine("one ring of all", x, () -> x.overlay(0, round, 1), 1);
    fine("one ring of all, the other way", x, () -> x.overlay(round, 0, 1), 1);
    fine("four lines and a ring", x, () -> x.overlay(0, 1, 0), 4);
    fine("four lines and a ring", x, () -> x.overlay(0, 1, 1), 5);
    says(22, "(1; 2).");
    ContractionCounter y = with(ODD);
    outside(y, 2, 1, number -> y.overlay(0, 0, number));
    outside(y, 2, 1, number -> y.overlay(3, 3, number));
    outside(y, 3, 2, number -> y.overlay(number, 0, 0));
    outside(y, 3, 2, number -> y.overlay(2, number, 1));
  }

  private static void by() {
    says(23, "How many PAIRINGS have so many CROSSINGS (what 0), HOLES (1)");
    ContractionCounter none = new ContractionCounter();
    fine("no letters: no crossings", none, () -> none.by(0, 0), 1);
    fine("no letters: no holes", none, () -> none.by(1, 0), 1);
    noneBeyond(none, 1, number -> none.by(0, number));
    noneBeyond(none, 1, number -> none.by(1, number));
    ContractionCounter x = with(TWELVE);
    fine("the most crossings", x, () -> x.by(0, 15), 1);
    fine("the most holes", x, () -> x.by(1, 3), 1485);
    noneBeyond(x, 16, number -> x.by(0, number));
    noneBeyond(x, 4, number -> x.by(1, number));
    ContractionCounter odd = with(ODD);
    fine("whose signs are turned", odd, () -> odd.by(0, 1), 1);
    fine("whose signs are turned", odd, () -> odd.by(1, 1), 1);
    ContractionCounter three = with(THREE);
    fine("no pairings", three, () -> three.by(1, 0), 0);
    says(23, "(1: number below 0, too).");
    outside(x, 2, 1, number -> x.by(number, 0));
    below(x, 1, number -> x.by(0, number));
    below(x, 1, number -> x.by(1, number));
  }

  private static void signedBy() {
    says(24, "SIGNS of PAIRINGS with so many CROSSINGS (what 0), HOLES (1), together");
    ContractionCounter none = new ContractionCounter();
    fine("no letters", none, () -> none.signedBy(0, 0), 1);
    fine("no letters", none, () -> none.signedBy(1, 0), 1);
    ContractionCounter x = with(TWELVE.replace("real", "real odd"));
    fine("the most crossings", x, () -> x.signedBy(0, 15), -1);
    fine("none", x, () -> x.signedBy(0, 0), 132);
    noneBeyond(x, 16, number -> x.signedBy(0, number));
    noneBeyond(x, 4, number -> x.signedBy(1, number));
    says(24, "(1); STATUS tells NONE from -1.");
    ContractionCounter odd = with(ODD);
    fine("-1 of crossings", odd, () -> odd.signedBy(0, 1), -1);
    fine("-1 of holes", odd, () -> odd.signedBy(1, 1), -1);
    outside(odd, 2, 1, number -> odd.signedBy(number, 0));
    below(odd, 1, number -> odd.signedBy(0, number));
    below(odd, 1, number -> odd.signedBy(1, number));
  }

  private static void partial() {
    says(25, "In how many ways k twos of LETTERS may be PAIRED, all others left alone");
    ContractionCounter none = new ContractionCounter();
    fine("no letters", none, () -> none.partial(0), 1);
    noneBeyond(none, 1, none::partial);
    ContractionCounter x = with(TWELVE);
    int[] want = {1, 66, 1485, 13860, 51975, 62370, 10395};
    for (int k = 0; k < want.length; k++) {
      int twos = k;
      fine("of twelve, " + k, x, () -> x.partial(twos), want[k]);
    }
    noneBeyond(x, 7, x::partial);
    ContractionCounter three = with(THREE);
    fine("of three, one", three, () -> three.partial(1), 3);
    noneBeyond(three, 2, three::partial);
    ContractionCounter e = with("field e pair;normal outer e e';outer e;");
    fine("none at all", e, () -> e.partial(0), 1);
    fine("just one may be", e, () -> e.partial(1), 1);
    fine("no two", e, () -> e.partial(2), 0);
    says(25, "(1: k below 0).");
    below(x, 1, x::partial);
    below(none, 1, none::partial);
  }

  private static void sub() {
    says(26, "Of LETTERS of a set of POINTS (bits) alone, as they stand (LINES among these): what 0: PAIRINGS, 1: their "
        + "SIGNS together, 2: those that are LINKED, 3: CONNECTED (of no POINTS: 1, 1, 1, 0)");
    for (String theory : new String[] {"", PHI, THREE, TWELVE}) {
      ContractionCounter x = with(theory);
      due("of no points", four(x, 0), "1 1 1 0 ");
      int all = (1 << x.many(2)) - 1;
      due("of all points", four(x, all), x.many(5) + " " + x.many(7) + " " + x.many(8) + " " + x.many(9) + " ");
    }
    ContractionCounter y = with("field m real odd;outer m m;outer m;vertex m m;outer m;vertex m m;");
    due("a vertex alone", four(y, 4), "1 1 0 1 ");
    due("two vertices", four(y, 20), "3 1 0 2 ");
    due("an outer one alone", four(y, 1), "1 1 1 1 ");
    due("one letter", four(y, 2), "0 0 0 0 ");
    due("two outer ones, a vertex between", four(y, 14), "3 1 2 2 ");
    ContractionCounter eight = with("field p real;" + "outer p;".repeat(8));
    due("the last two", four(eight, 192), "1 1 1 1 ");
    says(26, "(1: the set below 0, beyond POINTS); STATUS tells NONE from -1.");
    ContractionCounter odd = with("field e pair odd;outer e' e;outer e e';");
    fine("-1 of signs", odd, () -> odd.sub(1, 1), -1);
    outside(odd, 4, 1, number -> odd.sub(number, 0));
    outside(odd, 4, 1, number -> odd.sub(number, 3));
    outside(odd, 4, 1, number -> odd.sub(1, number));
    outside(eight, 256, 1, number -> eight.sub(number, 2));
    ContractionCounter none = new ContractionCounter();
    outside(none, 1, 1, number -> none.sub(number, 1));
  }

  private static String four(ContractionCounter x, int set) {
    StringBuilder facts = new StringBuilder();
    for (int what = 0; what < 4; what++) {
      facts.append(x.sub(set, what)).append(' ');
    }
    return facts.toString();
  }

  private static void sum() {
    says(27, "WORTHS of all PAIRINGS together.");
    ContractionCounter none = new ContractionCounter();
    fine("of no lines", none, none::sum, 1);
    ContractionCounter three = with(THREE);
    fine("no pairings", three, three::sum, 0);
    ContractionCounter x = with(TWELVE);
    for (int code : new int[] {0, 10, 110}) {
      x.worth(code, -9);
    }
    fine("the most: beyond an int", x, x::sum, 10395L * 531441L);
    x.worth(0, 0);
    fine("those without a line of worth 0", x, x::sum, 720L * 531441L);
    ContractionCounter odd = with("field m real odd;outer m;outer m;");
    odd.worth(10, -1);
    fine("-1", odd, odd::sum, -1);
  }

  // ---- 28 to 39: DIAGRAMS

  private static void diagram() {
    says(28, "Of a DIAGRAM, what 0: COUNT, 1: SIGNED, 2: SYMMETRY, 3: PARTS, 4: 1 if it is LINKED, else 0, 5: LOOPS, 6: "
        + "BRIDGES, 7: RINGS, 8: its first PAIRING, 9: the most LINES with one CODE in its NAME, 10: how many changes of "
        + "places of VERTICES that are ALIKE leave its NAME as it is");
    due("of no lines", eleven(new ContractionCounter(), 0), "1 1 1 0 1 0 0 0 0 0 1 ");
    ContractionCounter x = with(TWELVE);
    due("the first", eleven(x, 0), "225 225 4608 2 0 6 0 6 0 3 2 ");
    due("the last", eleven(x, 3), "720 720 1440 1 0 5 0 0 5197 6 2 ");
    ContractionCounter five = with("field p real;" + "vertex p p;".repeat(5));
    due("five alike, all changes", eleven(five, 0), "1 1 3840 5 0 5 0 5 0 1 120 ");
    ContractionCounter alone = with("field p real;outer p p;outer p p;");
    due("no vertices: one change", alone.diagram(0, 10), 1);
    says(28, "(1; 2); STATUS tells NONE from -1.");
    ContractionCounter odd = with("field e pair odd;outer e' e;");
    fine("-1 of signs", odd, () -> odd.diagram(0, 1), -1);
    outside(odd, 11, 1, number -> odd.diagram(0, number));
    outside(odd, 11, 1, number -> odd.diagram(1, number));
    for (int what = 0; what < 11; what++) {
      int asked = what;
      outside(odd, 1, 2, number -> odd.diagram(number, asked));
    }
    ContractionCounter three = with(THREE);
    outside(three, 0, 2, number -> three.diagram(number, 0));
  }

  private static String eleven(ContractionCounter x, int d) {
    StringBuilder facts = new StringBuilder();
    for (int what = 0; what < 11; what++) {
      facts.append(x.diagram(d, what)).append(' ');
    }
    return facts.toString();
  }

  private static void name() {
    says(29, "The k-th CODE of its NAME");
    ContractionCounter x = with(TWELVE);
    fine("the first", x, () -> x.name(0, 0), 0);
    fine("the last", x, () -> x.name(0, 5), 110);
    fine("the last of the last", x, () -> x.name(3, 5), 10);
    says(29, "(1: k below 0; 2; 5).");
    below(x, 1, number -> x.name(0, number));
    below(x, 1, number -> x.name(4, number));
    outside(x, 4, 2, number -> x.name(number, 0));
    outside(x, 4, 2, number -> x.name(number, 6));
    beyond(x, 6, 5, number -> x.name(3, number));
    ContractionCounter none = new ContractionCounter();
    beyond(none, 0, 5, number -> none.name(0, number));
    ContractionCounter three = with(THREE);
    refused("no diagram at all", three, () -> three.name(0, 0), 2);
  }

  private static void part() {
    says(30, "POINTS (bits, by the labels of its NAME) that hang together with a POINT");
    ContractionCounter x = with("field p real;" + "outer p;".repeat(8));
    int d = lines(x, "0-7p;1-6p;2-5p;3-4p;");
    fine("the first and the last", x, () -> x.part(d, 0), 129);
    fine("the last and the first", x, () -> x.part(d, 7), 129);
    ContractionCounter y = with("field p real;vertex p;vertex p;vertex p;outer p p p;outer p p;");
    int e = lines(y, "0-4p;1-4p;2-3p;3-3p;");
    fine("by the labels of its name", y, () -> y.part(e, 0), 9);
    fine("by the labels of its name", y, () -> y.part(e, 2), 22);
    ContractionCounter alone = with("field p real;outer p p;");
    fine("itself alone", alone, () -> alone.part(0, 0), 1);
    says(30, "(2).");
    outside(x, x.many(6), 2, number -> x.part(number, 0));
    outside(x, 8, 2, number -> x.part(0, number));
    ContractionCounter none = new ContractionCounter();
    outside(none, 0, 2, number -> none.part(0, number));
  }

  private static void far() {
    says(31, "The fewest LINES from a POINT to another one (by the labels of its NAME; 0 to itself)");
    ContractionCounter x = with("field p real;outer p;" + "vertex p p;".repeat(5) + "outer p;");
    int d = lines(x, "0-5p;5-4p;4-3p;3-2p;2-1p;1-6p;");
    fine("six lines, the most", x, () -> x.far(d, 0, 6), 6);
    fine("back", x, () -> x.far(d, 6, 0), 6);
    fine("by the labels of its name", x, () -> x.far(d, 0, 1), 1);
    for (int p = 0; p < 7; p++) {
      int at = p;
      fine("to itself", x, () -> x.far(d, at, at), 0);
    }
    ContractionCounter ring = with("field p real;vertex p p p;vertex p p p;outer p p;");
    int both = lines(ring, "0-1p;0-1p;0-2p;1-2p;");
    fine("the fewest", ring, () -> ring.far(both, 0, 2), 1);
    says(31, "(2; 5: they don't hang together).");
    outside(x, x.many(6), 2, number -> x.far(number, 0, 0));
    outside(x, 7, 2, number -> x.far(0, number, 0));
    outside(x, 7, 2, number -> x.far(0, 0, number));
    outside(x, 7, 2, number -> x.far(0, number, number));
    refused("apart", ring, () -> ring.far(0, 0, 2), 5);
    refused("apart", ring, () -> ring.far(0, 2, 1), 5);
    fine("but to itself", ring, () -> ring.far(0, 2, 2), 0);
  }

  private static void holds() {
    says(32, "POINTS (bits, by the labels of its NAME) without which, and without their LINES, the others of their PART "
        + "would not all hang together");
    dueHolds("no points", new ContractionCounter(), 0, 0);
    dueHolds("one point", with("field p real;outer p p;"), 0, 0);
    dueHolds("two points", with("field p real;outer p;outer p;"), 0, 0);
    dueHolds("two apart", with("field p real;outer p p;outer p p;"), 0, 0);
    ContractionCounter row = with("field p real;outer p;vertex p p;outer p;");
    dueHolds("three in a row: the middle one", row, lines(row, "0-1p;1-2p;"), 2);
    ContractionCounter x = with("field p real;outer p;" + "vertex p p;".repeat(5) + "outer p;");
    dueHolds("all but the ends", x, lines(x, "0-5p;5-4p;4-3p;3-2p;2-1p;1-6p;"), 62);
    dueHolds("a ring of five beside: none", x, lines(x, "0-6p;1-2p;2-3p;3-4p;4-5p;5-1p;"), 0);
    ContractionCounter star = with("field p real;" + "outer p;".repeat(6) + "outer p p p p p p;");
    dueHolds("the last", star, lines(star, "0-6p;1-6p;2-6p;3-6p;4-6p;5-6p;"), 64);
    says(32, "(2).");
    outside(x, x.many(6), 2, x::holds);
  }

  private static void dueHolds(String what, ContractionCounter x, int d, int want) {
    fine(what, x, () -> x.holds(d), want);
  }

  private static void ofDiagram() {
    says(33, "How many PAIRINGS of a DIAGRAM have so many CROSSINGS (what 0), HOLES (1)");
    ContractionCounter none = new ContractionCounter();
    fine("no letters", none, () -> none.ofDiagram(0, 0, 0), 1);
    fine("no letters", none, () -> none.ofDiagram(0, 1, 0), 1);
    noneBeyond(none, 1, number -> none.ofDiagram(0, 1, number));
    ContractionCounter x = with(TWELVE);
    fine("the most crossings", x, () -> x.ofDiagram(3, 0, 15), 1);
    fine("of the first, none crosses", x, () -> x.ofDiagram(0, 0, 0), 25);
    ContractionCounter odd = with(ODD);
    fine("whose sign is turned", odd, () -> odd.ofDiagram(0, 0, 1), 1);
    noneBeyond(x, 16, number -> x.ofDiagram(3, 0, number));
    noneBeyond(x, 4, number -> x.ofDiagram(3, 1, number));
    says(33, "(1: number below 0, too; 2).");
    outside(x, 2, 1, number -> x.ofDiagram(0, number, 0));
    below(x, 1, number -> x.ofDiagram(0, 0, number));
    below(x, 1, number -> x.ofDiagram(4, 1, number));
    outside(x, 4, 2, number -> x.ofDiagram(number, 0, 0));
    outside(x, 4, 2, number -> x.ofDiagram(number, 1, 0));
  }

  private static void sumOf() {
    says(34, "WORTHS of its PAIRINGS together");
    ContractionCounter none = new ContractionCounter();
    fine("of no lines", none, () -> none.sumOf(0), 1);
    ContractionCounter x = with(TWELVE);
    x.worth(10, 9);
    fine("the last", x, () -> x.sumOf(3), 720L * 531441L);
    fine("the first", x, () -> x.sumOf(0), 225);
    ContractionCounter odd = with("field e pair odd;outer e' e;");
    fine("-1", odd, () -> odd.sumOf(0), -1);
    says(34, "(2).");
    outside(x, 4, 2, x::sumOf);
    ContractionCounter three = with(THREE);
    outside(three, 0, 2, three::sumOf);
  }

  private static void diagrams() {
    says(35, "How many DIAGRAMS have, what 0: PARTS, 1: LOOPS, 2: BRIDGES, 3: RINGS, 4: SYMMETRY, so many");
    ContractionCounter none = new ContractionCounter();
    int[] empty = {0, 0, 0, 0, 1};
    for (int what = 0; what < 5; what++) {
      int asked = what;
      fine("of no lines, " + what, none, () -> none.diagrams(asked, empty[asked]), 1);
    }
    fine("one part", none, () -> none.diagrams(0, 1), 0);
    fine("symmetry 0", none, () -> none.diagrams(4, 0), 0);
    ContractionCounter x = with("field p real;" + "outer p p;".repeat(6));
    fine("the most parts", x, () -> x.diagrams(0, 6), 1);
    fine("the most loops", x, () -> x.diagrams(1, 6), 1);
    fine("the most rings", x, () -> x.diagrams(3, 6), 1);
    fine("the greatest symmetry", x, () -> x.diagrams(4, 64), 1);
    ContractionCounter star = with("field p real;" + "outer p;".repeat(6) + "outer p p p p p p;");
    fine("the most bridges", star, () -> star.diagrams(2, 6), 1);
    ContractionCounter twelve = with(TWELVE);
    fine("a great symmetry", twelve, () -> twelve.diagrams(4, 4608), 1);
    for (int what = 0; what < 5; what++) {
      int asked = what;
      noneBeyond(twelve, 7, number -> twelve.diagrams(asked, number));
    }
    says(35, "(1: number below 0, too).");
    outside(x, 5, 1, number -> x.diagrams(number, 0));
    for (int what = 0; what < 5; what++) {
      int asked = what;
      below(x, 1, number -> x.diagrams(asked, number));
    }
  }

  private static void print() {
    says(36, "OUT is the LINES of a DIAGRAM, by its NAME, without blanks: how many bytes");
    ContractionCounter none = new ContractionCounter();
    fine("of no lines", none, () -> none.print(0), 0);
    due("of no lines", printed(none), "");
    ContractionCounter x = with("field a real;field b real;mix b a;outer a a a a a a;outer b b b b b b;");
    int d = lines(x, "1-0ba;".repeat(6));
    fine("the longest", x, () -> x.print(d), 36);
    due("the longest", printed(x), "1-0ba;1-0ba;1-0ba;1-0ba;1-0ba;1-0ba;");
    ContractionCounter y = with("field z pair;" + "outer z;".repeat(4) + "outer z';".repeat(4));
    fine("the last", y, () -> y.print(23), 20);
    due("the last", printed(y), "0>7z;1>6z;2>5z;3>4z;");
    ContractionCounter falling = with("field z pair;outer z';" + "vertex z' z;".repeat(5) + "outer z;");
    falling.print(lines(falling, "1>0z;2>1z;3>2z;4>3z;5>4z;6>5z;"));
    due("to the first point, and falling", printed(falling), "1>0z;2>1z;3>2z;4>3z;5>4z;6>5z;");
    load(y, PHI);
    fine("a shorter one in its place", y, () -> y.print(0), 15);
    due("a shorter one in its place", printed(y), "0-1p;1-1p;1-2p;");
    says(36, "(2).");
    outside(y, 2, 2, y::print);
    ContractionCounter three = with(THREE);
    outside(three, 0, 2, three::print);
  }

  private static void printPairs() {
    says(37, "OUT is the PAIRS of a PAIRING, by their lesser LETTERS, rising, without blanks: how many bytes");
    ContractionCounter none = new ContractionCounter();
    fine("of no lines", none, () -> none.printPairs(0), 0);
    due("of no lines", printed(none), "");
    ContractionCounter x = with(TWELVE);
    fine("the last", x, () -> x.printPairs(10394), 26);
    due("the last", printed(x), "0-11;1-10;2-9;3-8;4-7;5-6;");
    fine("the first", x, () -> x.printPairs(0), 26);
    due("the first: 9 and 10", printed(x), "0-1;2-3;4-5;6-7;8-9;10-11;");
    x.drop(0);
    fine("a shorter one in its place", x, () -> x.printPairs(14), 12);
    due("a shorter one in its place", printed(x), "0-5;1-4;2-3;");
    says(37, "(2).");
    outside(x, 15, 2, x::printPairs);
    ContractionCounter three = with(THREE);
    outside(three, 0, 2, three::printPairs);
  }

  private static void out() {
    says(38, "Byte i of OUT");
    ContractionCounter x = with(PHI);
    x.printPairs(0);
    fine("the first", x, () -> x.out(0), '0');
    fine("the last", x, () -> x.out(11), ';');
    x.print(0);
    fine("the last", x, () -> x.out(14), ';');
    fine("the one ahead of it", x, () -> x.out(13), 'p');
    says(38, "(1: below 0; 5).");
    below(x, 1, x::out);
    beyond(x, 15, 5, x::out);
    x.printPairs(14);
    beyond(x, 12, 5, x::out);
    ContractionCounter none = new ContractionCounter();
    below(none, 1, none::out);
    beyond(none, 0, 5, none::out);
    none.printPairs(0);
    beyond(none, 0, 5, none::out);
  }

  private static void core() {
    says(39, "A DIAGRAM without its PARTS that have no OUTER POINT, what 0: how many POINTS are left, 1: LINES, 2: POINTS "
        + "that are left (bits, by the labels of its NAME)");
    dueCore(new ContractionCounter(), 0, 0, 0, 0);
    dueCore(with("field p real;vertex p p;"), 0, 0, 0, 0);
    dueCore(with("field p real;outer p p;"), 0, 1, 1, 1);
    dueCore(with("field p real;" + "outer p;".repeat(8)), 0, 8, 4, 255);
    ContractionCounter x = with("field p real;vertex p p;vertex p p;vertex p p;outer p;outer p;");
    dueCore(x, lines(x, "3-4p;0-1p;1-2p;2-0p;"), 2, 1, 24);
    dueCore(x, lines(x, "3-0p;0-4p;1-2p;1-2p;"), 3, 2, 28);
    dueCore(x, lines(x, "3-2p;2-1p;1-4p;0-0p;"), 4, 3, 30);
    dueCore(x, lines(x, "3-2p;2-1p;1-0p;0-4p;"), 5, 4, 31);
    says(39, "(1; 2).");
    outside(x, 3, 1, number -> x.core(0, number));
    outside(x, 3, 1, number -> x.core(-1, number));
    outside(x, x.many(6), 2, number -> x.core(number, 0));
    outside(x, x.many(6), 2, number -> x.core(number, 2));
  }

  private static void dueCore(ContractionCounter x, int d, int points, int lines, int set) {
    fine("points", x, () -> x.core(d, 0), points);
    fine("lines", x, () -> x.core(d, 1), lines);
    fine("which", x, () -> x.core(d, 2), set);
  }
}
