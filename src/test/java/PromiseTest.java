/** For each promise of the document: ordinary inputs, the edges it names, and wrong inputs. */
public final class PromiseTest extends Checks {
  public static void main(String[] args) {
    newObject();
    status();
    feed();
    load();
    loadFaults();
    pairs();
    lines();
    fault();
    many();
    letter();
    field();
    point();
    code();
    drop();
    move();
    swap();
    normal();
    copy();
    worth();
    mate();
    pairing();
    ways();
    overlay();
    by();
    signedBy();
    partial();
    sub();
    sum();
    diagram();
    name();
    part();
    far();
    holds();
    ofDiagram();
    sumOf();
    diagrams();
    print();
    printPairs();
    out();
    core();
    finish();
  }

  // ---- 1 to 7

  private static void newObject() {
    ContractionCounter x = new ContractionCounter();
    due("1 status", x.status(), 0);
    int[] many = {0, 0, 0, 0, 0, 1, 1, 1, 1, 0, 1, 1, 0};
    for (int what = 0; what < many.length; what++) {
      due("1 many " + what, x.many(what), many[what]);
    }
    fine("1 no lines", x, () -> x.printPairs(0), 0);
    fine("1 sum", x, x::sum, 1);
    int[] facts = {1, 1, 1, 0, 1, 0, 0, 0, 0, 0, 1};
    for (int what = 0; what < facts.length; what++) {
      due("1 diagram " + what, x.diagram(0, what), facts[what]);
    }
    due("1 tape", x.feed(0, 0, 0, 0, 0), 20);
    due("NONE", ContractionCounter.NONE, -1);
  }

  private static void status() {
    ContractionCounter x = with(PHI);
    x.many(13);
    due("2 behind many", x.status(), 1);
    due("2 again", x.status(), 1);
    x.feed(0, 0, 0, 0, 0);
    x.fault(0);
    x.fault(7);
    due("2 feed and fault have none", x.status(), 1);
    x.drop(9);
    due("2 drop", x.status(), 2);
    x.copy(1);
    x.copy(1);
    due("2 copy", x.status(), 3);
    x.code(0, 0);
    due("2 code", x.status(), 4);
    x.out(400);
    due("2 out", x.status(), 5);
    x.load(1);
    due("2 load", x.status(), 9);
    x.sum();
    due("2 sum", x.status(), 0);
    x.sumOf(-1);
    due("2 sumOf", x.status(), 2);
    x.sumOf(0);
    due("2 sumOf", x.status(), 0);
  }

  private static void feed() {
    ContractionCounter x = new ContractionCounter();
    int[] v = ints(PHI);
    due("3 first", x.feed(v[0], v[1], v[2], v[3], v[4]), 20);
    due("3 second", x.feed(v[5], v[6], v[7], v[8], v[9]), 40);
    due("3 third", x.feed(v[10], 0, 0, 0, 0), 60);
    due("3 bytes, the highest first", x.load(44), 6);
    for (int k = 1; k <= 20; k++) {
      due("3 up to 400", x.feed(0, 0, 0, 0, 0), 20 * k);
    }
    due("3 more than 400", x.feed(0, 0, 0, 0, 0), -1);
    due("3 still 400", x.load(401), -1);
    due("3 status", x.status(), 1);
    due("3 still full", x.feed(1, 1, 1, 1, 1), -1);
    due("3 400 can be read", x.load(400), -1);
    due("3 status", x.status(), 9);
    due("3 no token begins so", x.fault(0), 1);
    due("3 empty again", x.feed(-1, -1, -1, -1, -1), 20);
    x.load(20);
    due("3 bytes above 127", x.fault(0), 1);
    due("3 their place", x.fault(1), 0);
  }

  private static void load() {
    ContractionCounter x = new ContractionCounter();
    fine("4 of nothing", x, () -> x.load(0), 0);
    due("4", load(x, PHI), 6);
    due("4 fields", x.many(0), 1);
    tell(x, PHI);
    refused("4 n below 0", x, () -> x.load(-1), 1);
    refused("4 n least", x, () -> x.load(LEAST), 1);
    refused("4 n above", x, () -> x.load(61), 1);
    due("4 the tape is as it was", x.load(44), 6);
    refused("4 the tape is empty then", x, () -> x.load(1), 1);
    x.worth(10, 5);
    due("4 worth", x.sum(), 12 * 5 + 3);
    due("4 n less than the tape", tell(x, PHI), 60);
    due("4 only the first 21 bytes", x.load(21), 1);
    due("4 the rest is gone", x.feed(0, 0, 0, 0, 0), 20);
    due("4 all anew", x.many(2), 1);
    x.load(0);
    due("4 all anew", x.many(0), 0);
    load(x, PHI);
    due("4 worths are 1", x.sum(), 15);
    x.worth(10, 5);
    due("4 a fault", load(x, "field q real;outer q"), -1);
    due("4 status", x.status(), 9);
    due("4 nothing else is changed", x.many(2), 3);
    due("4 nor the worths", x.sum(), 63);
    due("4 but the tape", x.feed(0, 0, 0, 0, 0), 20);
    x.load(0);
    due("4 blanks", load(x, "\n field\n\np  real odd ;\n normal outer p\np;"), 2);
    due("4 odd", x.field(0, 2), 1);
    due("4 normal", x.point(0, 2), 1);
    due("4 few blanks", load(x, "field e pair;vertex e'e e'e;"), 4);
    due("4 bars", x.letter(2, 1), 1);
    due("4 six fields, four mixes", load(x, "field a real;field b real;field c real;field d real;"
        + "field e real;field f real;mix a b;mix a c;mix f a;mix b c;outer a;"), 1);
    due("4 mixes", x.many(1), 4);
    load(x, MIXED);
    load(x, THREE);
    due("4 no mixes of old", load(x, "field a real;field b real;outer a;outer b;"), 2);
    due("4 no mixes of old", x.many(1) + x.many(5), 0);
    due("4 twelve letters", load(x, "field a real;vertex a a a a a a;vertex a a a a a a;"), 12);
    due("4 eight points, five vertices", load(x, "field a real;outer a;outer a;outer a;vertex a;"
        + "vertex a;vertex a;vertex a;vertex a;"), 8);
  }

  private static void loadFaults() {
    badLoad("field p real#;", 1, 12);
    badLoad("\tfield p real;", 1, 0);
    badLoad("field P real;", 1, 6);
    badLoad("outer 1;", 1, 6);
    badLoad("fie\u00e9", 2, 0);
    badLoad("field \u00e9", 1, 6);
    badLoad("field p real", 2, 12);
    badLoad("field p real  ", 2, 14);
    badLoad("field", 2, 5);
    badLoad("fields p real;", 2, 0);
    badLoad("gield p real;", 2, 0);
    badLoad("fielt p real;", 2, 0);
    badLoad(";", 2, 0);
    badLoad("' field", 2, 0);
    badLoad("real p;", 2, 0);
    badLoad("field pq real;", 2, 6);
    badLoad("field ;", 2, 6);
    badLoad("field p odd;", 2, 8);
    badLoad("field p real odd odd;", 2, 17);
    badLoad("field p real even;", 2, 13);
    badLoad("field p real;outer;", 2, 18);
    badLoad("field p real;outer pp;", 2, 19);
    badLoad("field p real;normal field;", 2, 20);
    badLoad("field p real;normal normal outer p;", 2, 20);
    badLoad("field e pair;outer e'';", 2, 21);
    badLoad("field e pair;outer 'e;", 2, 19);
    badLoad("field a real;field b real;mix a b a;", 2, 34);
    badLoad("outer p;", 3, 6);
    badLoad("field p real;outer p q;", 3, 21);
    badLoad("mix a b;", 3, 4);
    badLoad("field a real;mix a b;", 3, 19);
    badLoad("field p real;outer p';", 4, 20);
    badLoad("field a pair;field b real;mix a b;", 4, 30);
    badLoad("field a pair;field b real;mix b a;", 4, 32);
    badLoad("field a real;mix a a;", 4, 19);
    badLoad("field a real;field b real odd;mix a b;", 4, 36);
    badLoad("field a real;field b real;mix a b;mix a b;", 4, 40);
    badLoad("field a real;field b real;mix a b;mix b a;", 4, 40);
    badLoad("field a real;field a pair;", 5, 19);
    String six = "field a real;field b real;field c real;field d real;field e real;field f real;";
    badLoad(six + "field g real;", 6, 78);
    badLoad(six + "field a wrong", 6, 78);
    badLoad(six + "mix a b;mix a c;mix a d;mix a e;mix a f;", 6, 78 + 32);
    String five = "field a real;" + "vertex a;".repeat(5);
    badLoad(five + "vertex a;", 6, 58);
    badLoad(five + "normal vertex a;", 6, 58);
    badLoad(five + "normal a;", 2, 65);
    badLoad("field a real;" + "outer a;".repeat(8) + "outer a;", 6, 77);
    badLoad("field a real;" + "outer a;".repeat(8) + "normal what", 6, 77);
    badLoad("field a real;outer a a a a a a a;", 6, 31);
    badLoad("field a real;outer a a a a a a b;", 3, 31);
    badLoad("field a real;outer a a a a a a aa;", 2, 31);
    badLoad("field a real;outer a a a a a a;outer a a a a a a;outer a;", 6, 55);
    badLoad("field a real;outer a a a a a a;outer a a a a a;outer a a;", 6, 55);
    badLoad("outer p;#", 3, 6);
  }

  private static void pairs() {
    ContractionCounter x = with(PHI);
    due("5 the first", pairs(x, "0-1;2-3;4-5;"), 0);
    due("5 the last", pairs(x, "0-5;1-4;2-3;"), 14);
    due("5 any order, either way round, blanks", pairs(x, " 2-3 ;4 - 1;\n5-0;"), 14);
    due("5 two digits", pairs(x, "00-01;02-3;04-05;"), 0);
    due("5 letters are left", pairs(x, "0-5;1-4;"), -1);
    due("5 status", x.status(), 5);
    due("5 no fault", x.fault(0), 0);
    due("5 no place", x.fault(1), -1);
    due("5 of nothing", pairs(x, ""), -1);
    due("5 status", x.status(), 5);
    due("5 the tape is empty then", x.feed(0, 0, 0, 0, 0), 20);
    refused("5 n below 0", x, () -> x.pairs(-1), 1);
    refused("5 n above", x, () -> x.pairs(21), 1);
    due("5 the tape is as it was", x.feed(0, 0, 0, 0, 0), 40);
    x.pairs(0);
    for (int k = 0; k < 15; k++) {
      x.printPairs(k);
      due("5 each is known again", pairs(x, printed(x)), k);
    }
    x.load(0);
    due("5 no letters", pairs(x, ""), 0);
    badPairs(PHI, "0-1;2-6;", 3, 6);
    badPairs(PHI, "6-1;", 3, 0);
    badPairs(PHI, "0-1;99-2", 3, 4);
    badPairs(PHI, "100-1;", 1, 0);
    badPairs(PHI, "0-001;", 1, 2);
    badPairs(PHI, "0'1;", 1, 1);
    badPairs(PHI, "0>1;", 2, 1);
    badPairs(PHI, "0-1p;", 2, 3);
    badPairs(PHI, "p", 2, 0);
    badPairs(PHI, "0-1", 2, 3);
    badPairs(PHI, "0 1-", 2, 2);
    badPairs(PHI, "0-;", 2, 2);
    badPairs(PHI, "0-1;1-2;", 5, 4);
    badPairs(PHI, "0-1;2-0;", 5, 6);
    badPairs(PHI, "0-1;2-3;4-5;0-1;", 5, 12);
    badPairs(QED, "0-2;", 4, 2);
    badPairs(QED, "0-1;2-0;", 4, 6);
    badPairs("field p real;normal outer p p;outer p p;", "0-2;1-0;", 4, 6);
    badPairs(THREE, "0-1;2-0;", 6, 4);
    badPairs(THREE, "0-1;1-0;", 5, 4);
    ContractionCounter y = with("field p real;vertex p p p p p p;vertex p p p p p p;");
    due("5 numbers above 9", pairs(y, "0-11;1-10;2-9;3-8;4-7;5-6;"), 10394);
  }

  private static void lines() {
    ContractionCounter x = with(QED);
    due("6 by its own labels", lines(x, "0>1e;1>2e;1-2p;2>3e;"), 0);
    due("6 vertices changed", lines(x, "0>2e;2>1e;1-2p;1>3e;"), 0);
    due("6 any order, real ones either way round", lines(x, "2>3e; 2-1p ;1>2e;0>1e;"), 0);
    due("6 another one", lines(x, "0>3e;1>2e;1-2p;2>1e;"), 3);
    due("6 it has none", lines(x, "1>0e;1>2e;1-2p;2>3e;"), -1);
    due("6 status", x.status(), 5);
    due("6 no fault", x.fault(0), 0);
    due("6 too few", lines(x, "0>1e;1>2e;1-2p;"), -1);
    due("6 status", x.status(), 5);
    due("6 the tape is empty then", x.feed(0, 0, 0, 0, 0), 20);
    refused("6 n below 0", x, () -> x.lines(-1), 1);
    refused("6 n above", x, () -> x.lines(21), 1);
    due("6 the tape is as it was", x.feed(0, 0, 0, 0, 0), 40);
    ContractionCounter y = with(MIXED);
    due("6 a mix", lines(y, "2-0ba;1-1ba;"), 2);
    due("6 a mix is not to be turned", lines(y, "0-2ba;1-1ba;"), -1);
    due("6 status", y.status(), 5);
    ContractionCounter v = with("field a real odd;field b real odd;field c real odd;mix c a;mix b c;"
        + "outer b c;outer a;vertex c;");
    due("6 the second mix", lines(v, "0-2bc; 0-1ca;"), 1);
    due("6 not by the other mix's word", lines(v, "0-2ca; 0-1ca;"), -1);
    v.print(1);
    due("6 as it is printed", printed(v), "0-1ca;0-2bc;");
    ContractionCounter z = with("field p real;outer p p p p;");
    due("6 a short row is not one that begins with code 0", lines(z, "0-0p;"), -1);
    due("6 status", z.status(), 5);
    due("6 both rings", lines(z, "0-0p;00-0p;"), 0);
    ContractionCounter n = with(THREE);
    due("6 no diagrams", lines(n, "0-0p;"), -1);
    due("6 status", n.status(), 5);
    badLines(QED, "4>1e;", 3, 0);
    badLines(QED, "0>4e;", 3, 2);
    badLines(QED, "0>1x;", 3, 3);
    badLines(QED, "0>1eee;", 3, 3);
    badLines(MIXED, "2-0ab;", 3, 3);
    badLines(MIXED, "2-0aa;", 3, 3);
    badLines(MIXED, "2-0baa;", 3, 3);
    badLines(MIXED, "2>0ba;", 4, 3);
    badLines(MIXED, "2>0a;", 4, 3);
    badLines(QED, "0-1e;", 4, 3);
    badLines(QED, "0 1e;", 2, 2);
    badLines(QED, "0>e;", 2, 2);
    badLines(QED, "0>1;", 2, 3);
    badLines(QED, "0>1e", 2, 4);
    badLines(QED, "e", 2, 0);
    badLines(QED, "0>1e'", 1, 4);
    badLines(QED, "0>100e;", 1, 2);
    badLines(QED, "0>1e;0>1e;0>1e;0>1e;0>1e;", 6, 20);
    badLines(QED, "0>1e;0>1e;0>1e;0>1e;4>1e;", 3, 20);
    badLines(THREE, "0-0p;0-0p;", 6, 5);
  }

  private static void fault() {
    ContractionCounter x = new ContractionCounter();
    due("7 ahead of any", x.fault(0), -1);
    due("7 ahead of any", x.fault(1), -1);
    x.load(1);
    due("7 not of STATUS 1", x.fault(0), -1);
    load(x, "field p real;outer q;");
    due("7 kind", x.fault(0), 3);
    due("7 place", x.fault(1), 19);
    due("7 others", x.fault(2), -1);
    due("7 others", x.fault(-1), -1);
    x.load(-1);
    x.pairs(99);
    x.lines(-1);
    due("7 still of the latest", x.fault(0), 3);
    due("7 still of the latest", x.fault(1), 19);
    load(x, PHI);
    due("7 without one", x.fault(0), 0);
    due("7 without one", x.fault(1), -1);
    lines(x, "0-1q;");
    due("7 of lines", x.fault(0), 3);
    due("7 of lines", x.fault(1), 3);
    pairs(x, "0-1;");
    due("7 of STATUS 5", x.fault(0), 0);
    due("7 of STATUS 5", x.fault(1), -1);
    pairs(x, "0-1;0");
    due("7 of pairs", x.fault(0), 5);
    due("7 of pairs", x.fault(1), 4);
    lines(x, "0-1p;");
    due("7 of STATUS 5", x.fault(0), 0);
  }

  // ---- 8 to 12: what there is

  private static void dueMany(String text, int... want) {
    ContractionCounter x = with(text);
    for (int what = 0; what < want.length; what++) {
      int w = what;
      fine("8 many " + what + " of " + text, x, () -> x.many(w), want[what]);
    }
  }

  private static void many() {
    dueMany(PHI, 1, 0, 3, 1, 6, 15, 2, 15, 12, 12, 5, 1, 1);
    dueMany(QED, 2, 0, 4, 2, 8, 6, 4, 0, 4, 4, 2, 2, 2);
    dueMany(MIXED, 2, 1, 3, 1, 4, 3, 3, 3, 2, 2, 2, 2, 2);
    dueMany(ODD, 1, 0, 1, 0, 4, 3, 1, 1, 3, 3, 2, 1, 1);
    dueMany(THREE, 1, 0, 1, 0, 3, 0, 0, 0, 0, 0, 0, 0, 0);
    dueMany("field e pair odd;outer e' e;", 1, 0, 1, 0, 2, 1, 1, -1, 1, 1, 1, 1, 1);
    dueMany("field e pair odd;outer e e';", 1, 0, 1, 0, 2, 1, 1, 1, 1, 1, 1, 1, 1);
    ContractionCounter x = with("field p real;outer p p;vertex p p;vertex p p p;vertex p p p;");
    due("8 of many", counts(x) + x.many(8) + " " + x.many(9) + " " + x.many(11) + " " + x.many(12),
        "945 17 945 3-3 720 720 7 7");
    load(x, PHI);
    due("8 nothing stays of them", counts(x) + x.many(8) + " " + x.many(9) + " " + x.many(11) + " " + x.many(12),
        "15 2 15 1-2 12 12 1 1");
    refused("8 below", x, () -> x.many(-1), 1);
    refused("8 above", x, () -> x.many(13), 1);
    refused("8 far above", x, () -> x.many(MOST), 1);
  }

  private static void letter() {
    ContractionCounter x = with(QED);
    int[][] want = {{0, 0, 0, 3}, {0, 1, 1, 3}, {0, 0, 1, 3}, {1, 0, 1, 1},
        {0, 1, 2, 3}, {0, 0, 2, 3}, {1, 0, 2, 1}, {0, 1, 3, 3}};
    for (int i = 0; i < 8; i++) {
      for (int what = 0; what < 4; what++) {
        int at = i;
        int w = what;
        fine("9 letter " + i + " " + what, x, () -> x.letter(at, w), want[i][what]);
      }
    }
    x.normal(1, true);
    due("9 not with those of a normal point", x.letter(1, 3), 2);
    due("9 mixed", with(MIXED).letter(0, 3), 3);
    refused("9 what", x, () -> x.letter(0, 4), 1);
    refused("9 what below", x, () -> x.letter(0, -1), 1);
    refused("9 what comes first", x, () -> x.letter(99, 4), 1);
    refused("9 no such", x, () -> x.letter(8, 0), 2);
    refused("9 no such", x, () -> x.letter(-1, 0), 2);
    refused("9 no such", x, () -> x.letter(LEAST, 3), 2);
  }

  private static void field() {
    ContractionCounter x = with("field z real;field a pair;field m real odd;field n pair odd;");
    int[][] want = {{26, 0, 0}, {1, 1, 0}, {13, 0, 1}, {14, 1, 1}};
    for (int k = 0; k < 4; k++) {
      for (int what = 0; what < 3; what++) {
        int at = k;
        int w = what;
        fine("10 field " + k + " " + what, x, () -> x.field(at, w), want[k][what]);
      }
    }
    refused("10 what", x, () -> x.field(0, 3), 1);
    refused("10 what", x, () -> x.field(0, -1), 1);
    refused("10 what comes first", x, () -> x.field(4, 3), 1);
    refused("10 no such", x, () -> x.field(4, 0), 2);
    refused("10 no such", x, () -> x.field(-1, 0), 2);
    refused("10 no such", x, () -> x.field(MOST, 2), 2);
  }

  private static void point() {
    ContractionCounter x = with("field p real;field e pair;vertex p e;normal vertex p e;outer p;vertex e p;"
        + "vertex p e;normal outer p e;");
    int[][] want = {{2, 1, 0, 0, 2}, {2, 1, 1, 2, 1}, {1, 0, 0, 4, 0}, {2, 1, 0, 5, 1},
        {2, 1, 0, 7, 2}, {2, 0, 1, 9, 0}};
    for (int p = 0; p < 6; p++) {
      for (int what = 0; what < 5; what++) {
        int at = p;
        int w = what;
        fine("11 point " + p + " " + what, x, () -> x.point(at, w), want[p][what]);
      }
    }
    load(x, "field e pair;vertex e e';vertex e' e;vertex e e';vertex e e e';");
    due("11 rows in their order", x.point(0, 4), 2);
    due("11 rows in their order", x.point(1, 4), 1);
    due("11 a longer row", x.point(3, 4), 1);
    load(x, "field a real;field b real;vertex a b;vertex b b;vertex a a;");
    due("11 another first letter", x.point(0, 4) + x.point(1, 4) + x.point(2, 4), 3);
    refused("11 what", x, () -> x.point(0, 5), 1);
    refused("11 what", x, () -> x.point(0, -1), 1);
    refused("11 what comes first", x, () -> x.point(9, 5), 1);
    refused("11 no such", x, () -> x.point(4, 0), 2);
    refused("11 no such", x, () -> x.point(-1, 0), 2);
  }

  private static void code() {
    ContractionCounter x = with(QED);
    fine("12 a pair", x, () -> x.code(5, 1), 210);
    fine("12 the other way", x, () -> x.code(1, 5), 210);
    fine("12 a pair rising", x, () -> x.code(2, 4), 120);
    fine("12 a ring", x, () -> x.code(1, 2), 110);
    fine("12 real", x, () -> x.code(6, 3), 121);
    fine("12 real", x, () -> x.code(3, 6), 121);
    refused("12 no such", x, () -> x.code(8, 0), 2);
    refused("12 no such", x, () -> x.code(0, -1), 2);
    refused("12 no such comes first", x, () -> x.code(8, 8), 2);
    refused("12 one letter", x, () -> x.code(3, 3), 4);
    refused("12 one letter comes first", x, () -> x.code(0, 0), 4);
    refused("12 may not", x, () -> x.code(0, 2), 5);
    refused("12 may not", x, () -> x.code(0, 3), 5);
    x.normal(1, true);
    refused("12 normal", x, () -> x.code(1, 2), 5);
    ContractionCounter y = with(MIXED);
    fine("12 a mix", y, () -> y.code(0, 3), 206);
    fine("12 a mix", y, () -> y.code(3, 0), 206);
    fine("12 a mix", y, () -> y.code(0, 2), 106);
    fine("12 a mix of one point", y, () -> y.code(1, 2), 116);
    fine("12 the second field", y, () -> y.code(3, 2), 121);
    ContractionCounter z = with("field a real odd;field b real odd;field c real odd;mix c a;mix b c;outer b c;outer a;");
    fine("12 the second mix", z, () -> z.code(0, 1), 7);
    fine("12 the first mix", z, () -> z.code(2, 1), 16);
    refused("12 not mixed", z, () -> z.code(0, 2), 5);
  }

  // ---- 13 to 18: what is changed

  private static void drop() {
    ContractionCounter x = with("field a real;field b real;outer a;vertex b b;normal outer a b;vertex b b;");
    x.print(0);
    x.worth(0, 5);
    fine("13 left", x, () -> x.drop(1), 3);
    due("13 letters", x.many(4), 5);
    due("13 those behind come up", x.point(1, 2), 1);
    due("13 those behind come up", x.letter(3, 2), 2);
    due("13 worths are 1 again", x.worth(0, 2), 1);
    due("13 fields stay", x.many(0), 2);
    refused("13 no such", x, () -> x.drop(3), 2);
    refused("13 no such", x, () -> x.drop(-1), 2);
    due("13 nor the worths", x.worth(0, 3), 2);
    fine("13 the last", x, () -> x.drop(2), 2);
    fine("13 the first", x, () -> x.drop(0), 1);
    fine("13 all", x, () -> x.drop(0), 0);
    due("13 no pairs are left", x.many(5), 1);
    refused("13 none is left", x, () -> x.drop(0), 2);
    ContractionCounter z = with("field a real;field b real;outer a;outer b;outer a;vertex b;vertex a;vertex b;vertex a;"
        + "vertex b;");
    fine("13 of eight", z, () -> z.drop(0), 7);
    due("13 rows", rows(z), "0b 1a 2b 3a 4b 5a 6b ");
    z.copy(0);
    fine("13 the eighth", z, () -> z.drop(7), 7);
    due("13 rows", rows(z), "0b 1a 2b 3a 4b 5a 6b ");
    ContractionCounter y = with(QED);
    due("13 pairings and diagrams", counts(y), "6 4 0 2>3 ");
    y.drop(1);
    due("13 are others then", counts(y), "0 0 0 ");
    y.drop(1);
    due("13 are others then", counts(y), "1 1 1 0>1 ");
  }

  /** Pairings, diagrams, signs together, and how the last line of the first diagram goes. */
  private static String counts(ContractionCounter x) {
    StringBuilder counts = new StringBuilder();
    counts.append(x.many(5)).append(' ').append(x.many(6)).append(' ').append(x.many(7)).append(' ');
    int length = x.many(6) == 0 ? 0 : x.print(0);
    if (length > 0) {
      String text = printed(x);
      int from = text.lastIndexOf(';', length - 2) + 1;
      counts.append(text, from, from + 3).append(' ');
    }
    return counts.toString();
  }

  private static void move() {
    ContractionCounter x = with("field a real;field b real;outer a;vertex b b;normal outer a b;vertex b b b;");
    x.worth(0, 5);
    fine("14 back", x, () -> x.move(0, 2), 4);
    due("14 rows", rows(x), "0b 0b 1a 1b 2a 3b 3b 3b ");
    due("14 normal goes along", x.point(1, 2), 1);
    due("14 worths are 1 again", x.worth(0, 2), 1);
    fine("14 ahead", x, () -> x.move(3, 0), 0);
    due("14 rows", rows(x), "0b 0b 0b 1b 1b 2a 2b 3a ");
    fine("14 last", x, () -> x.move(0, 3), 5);
    due("14 rows", rows(x), "0b 0b 1a 1b 2a 3b 3b 3b ");
    x.worth(0, 4);
    refused("14 place below", x, () -> x.move(0, -1), 1);
    refused("14 place above", x, () -> x.move(0, 4), 1);
    refused("14 place comes first", x, () -> x.move(9, 4), 1);
    refused("14 no such", x, () -> x.move(4, 0), 2);
    refused("14 no such", x, () -> x.move(-1, 0), 2);
    refused("14 so already", x, () -> x.move(2, 2), 4);
    due("14 nor the worths", x.worth(0, 3), 4);
    ContractionCounter z = with("field a real;field b real;outer a;outer b;outer a;vertex b;vertex a;vertex b;vertex a;"
        + "vertex b;");
    fine("14 of eight, to the last place", z, () -> z.move(0, 7), 7);
    due("14 rows", rows(z), "0b 1a 2b 3a 4b 5a 6b 7a ");
    fine("14 of eight, from the last place", z, () -> z.move(7, 0), 0);
    due("14 rows", rows(z), "0a 1b 2a 3b 4a 5b 6a 7b ");
    ContractionCounter y = with("field e pair odd;field p real;outer e;outer p e e';outer e';outer p;");
    due("14 pairings and diagrams", counts(y), "2 2 0 1-3 ");
    y.move(0, 3);
    due("14 are others then", counts(y), "2 2 0 3>1 ");
  }

  private static void swap() {
    ContractionCounter x = with("field e pair odd;field p real;outer e e' p p;outer p p;");
    due("15 signs", x.many(7), 3);
    x.worth(1, 5);
    fine("15 turned", x, () -> x.swap(0), -3);
    due("15 rows", rows(x), "0e' 0e 0p 0p 1p 1p ");
    due("15 worths are 1 again", x.sum(), -3);
    fine("15 an even one", x, () -> x.swap(1), -3);
    due("15 rows", rows(x), "0e' 0p 0e 0p 1p 1p ");
    x.swap(1);
    x.worth(1, 5);
    refused("15 like ones", x, () -> x.swap(2), 4);
    refused("15 of two points, like ones too", x, () -> x.swap(3), 5);
    refused("15 like ones", x, () -> x.swap(4), 4);
    refused("15 the last has no next", x, () -> x.swap(5), 2);
    refused("15 no such", x, () -> x.swap(6), 2);
    refused("15 no such", x, () -> x.swap(-1), 2);
    refused("15 no such", x, () -> x.swap(MOST), 2);
    refused("15 no such", x, () -> x.swap(LEAST), 2);
    ContractionCounter y = with("field a real;field b real;outer a;outer b;outer a b;");
    refused("15 of two points", y, () -> y.swap(0), 5);
    fine("15 in a point behind", y, () -> y.swap(2), 1);
    due("15 rows", rows(y), "0a 1b 2b 2a ");
    ContractionCounter z = with("field e pair odd;outer e' e;");
    x.many(13);
    fine("15 signs of one", z, () -> z.swap(0), 1);
    fine("15 -1 is no NONE", z, () -> z.swap(0), -1);
  }

  private static void normal() {
    ContractionCounter x = with(PHI);
    x.worth(10, 5);
    refused("16 it is not normal already", x, () -> x.normal(1, false), 4);
    due("16 worths stay", x.sum(), 63);
    fine("16 pairings", x, () -> x.normal(1, true), 0);
    due("16 it is", x.point(1, 2), 1);
    due("16 others are not", x.point(0, 2), 0);
    refused("16 it is already", x, () -> x.normal(1, true), 4);
    fine("16 back", x, () -> x.normal(1, false), 15);
    due("16 worths are 1 again", x.sum(), 15);
    refused("16 no such", x, () -> x.normal(3, true), 2);
    refused("16 no such", x, () -> x.normal(-1, false), 2);
    ContractionCounter y = with("field p real;vertex p p;vertex p p;");
    due("16 alike", y.point(0, 4), 2);
    fine("16 one", y, () -> y.normal(0, true), 2);
    due("16 no more alike", y.point(0, 4), 1);
    fine("16 both", y, () -> y.normal(1, true), 2);
    due("16 alike again", y.point(0, 4), 2);
  }

  private static void copy() {
    ContractionCounter x = with("field p real;field e pair;outer p;normal vertex e' p;");
    x.worth(0, 5);
    fine("17 which", x, () -> x.copy(1), 2);
    due("17 rows", rows(x), "0p 1e' 1p 2e' 2p ");
    due("17 vertex", x.point(2, 1), 1);
    due("17 normal", x.point(2, 2), 1);
    due("17 alike", x.point(1, 4), 2);
    due("17 worths are 1 again", x.worth(0, 2), 1);
    fine("17 an outer one", x, () -> x.copy(0), 3);
    due("17 outer", x.point(3, 1), 0);
    refused("17 no such", x, () -> x.copy(4), 2);
    refused("17 no such", x, () -> x.copy(-1), 2);
    x.worth(0, 3);
    x.copy(1);
    x.copy(1);
    fine("17 the fifth vertex, the twelfth letter", x, () -> x.copy(1), 6);
    refused("17 letters", x, () -> x.copy(0), 3);
    ContractionCounter y = with("field p real;vertex p;vertex p;vertex p;vertex p;vertex p;outer p;outer p;");
    y.worth(10, 4);
    refused("17 a sixth vertex", y, () -> y.copy(0), 3);
    due("17 worths stay", y.worth(10, 3), 4);
    fine("17 the eighth point", y, () -> y.copy(5), 7);
    refused("17 a ninth point", y, () -> y.copy(5), 3);
    ContractionCounter z = with("field p real;outer p p p p p p;outer p p p p p;");
    refused("17 seventeen letters", z, () -> z.copy(0), 3);
    ContractionCounter v = with(ODD);
    due("17 pairings and diagrams", counts(v), "3 1 1 0-0 ");
    v.copy(0);
    due("17 are others then", counts(v), "105 3 1 1-1 ");
    ContractionCounter w = with("field p real;outer p p p p p p;");
    fine("17 twelve letters", w, () -> w.copy(0), 1);
  }

  private static void worth() {
    ContractionCounter x = with(MIXED + "field c pair;outer c;outer c';");
    fine("18 it was 1", x, () -> x.worth(10, -9), 1);
    fine("18 it was -9", x, () -> x.worth(10, 9), -9);
    fine("18 it was 9", x, () -> x.worth(10, -1), 9);
    fine("18 -1 is no NONE", x, () -> x.worth(10, 0), -1);
    refused("18 so already", x, () -> x.worth(10, 0), 4);
    refused("18 1 already", x, () -> x.worth(20, 1), 4);
    refused("18 worth", x, () -> x.worth(10, 10), 1);
    refused("18 worth", x, () -> x.worth(10, -10), 1);
    refused("18 worth comes first", x, () -> x.worth(-1, LEAST), 1);
    refused("18 from", x, () -> x.worth(500, 2), 2);
    refused("18 from", x, () -> x.worth(1000, 2), 2);
    refused("18 to", x, () -> x.worth(50, 2), 2);
    refused("18 to", x, () -> x.worth(90, 2), 2);
    refused("18 sort", x, () -> x.worth(13, 2), 2);
    refused("18 sort", x, () -> x.worth(15, 2), 2);
    refused("18 mix", x, () -> x.worth(17, 2), 2);
    refused("18 below 0", x, () -> x.worth(-1, 2), 2);
    refused("18 least", x, () -> x.worth(LEAST, 2), 2);
    refused("18 most", x, () -> x.worth(MOST, 2), 2);
    refused("18 of a real one from above to", x, () -> x.worth(100, 2), 2);
    refused("18 of a real one from above to", x, () -> x.worth(211, 2), 2);
    fine("18 of a pair from above to", x, () -> x.worth(432, 2), 1);
    fine("18 of a mix from above to", x, () -> x.worth(216, 2), 1);
    fine("18 a line that no letters have", x, () -> x.worth(222, 2), 1);
    fine("18 a ring", x, () -> x.worth(110, 2), 1);
    fine("18 it stays", x, () -> x.worth(216, 3), 2);
  }

  // ---- 19 to 27: PAIRINGS

  private static void mate() {
    ContractionCounter x = with(ODD);
    int[][] want = {{1, 0, 3, 2}, {2, 3, 0, 1}, {3, 2, 1, 0}};
    for (int k = 0; k < 3; k++) {
      for (int i = 0; i < 4; i++) {
        int at = k;
        int of = i;
        fine("19 mate " + k + " " + i, x, () -> x.mate(at, of), want[k][i]);
      }
    }
    refused("19 no such pairing", x, () -> x.mate(3, 0), 2);
    refused("19 no such pairing", x, () -> x.mate(-1, 0), 2);
    refused("19 no such letter", x, () -> x.mate(0, 4), 2);
    refused("19 no such letter", x, () -> x.mate(0, -1), 2);
    ContractionCounter y = with("field p real;vertex p p p p p p;vertex p p p p p p;");
    fine("19 the last", y, () -> y.mate(10394, 0), 11);
    fine("19 the last", y, () -> y.mate(10394, 6), 5);
    fine("19 the first", y, () -> y.mate(0, 11), 10);
    refused("19 no more", y, () -> y.mate(10395, 0), 2);
    ContractionCounter z = with("field e pair;field p real;outer e p e' e p e';");
    due("19 order", z.mate(0, 3) * 10 + z.mate(1, 3), 52);
  }

  private static void pairing() {
    ContractionCounter x = with(QED);
    int[][] want = {{1, -1, -1, 1, 1, -1}, {2, 0, 2, 5, 0, 2}, {1, 0, 1, 1, 0, 1},
        {0, 1, 1, 0, 2, 3}, {3, 5, 3, 3, 5, 3}};
    for (int k = 0; k < 6; k++) {
      for (int what = 0; what < 5; what++) {
        int at = k;
        int w = what;
        fine("20 pairing " + k + " " + what, x, () -> x.pairing(at, w), want[what][k]);
      }
    }
    refused("20 what", x, () -> x.pairing(0, 5), 1);
    refused("20 what", x, () -> x.pairing(0, -1), 1);
    refused("20 what comes first", x, () -> x.pairing(6, 5), 1);
    refused("20 no such", x, () -> x.pairing(6, 0), 2);
    refused("20 no such", x, () -> x.pairing(-1, 3), 2);
    ContractionCounter y = with(ODD);
    due("20 odd real ones that cross", y.pairing(1, 0), -1);
    due("20 odd real ones that do not", y.pairing(2, 0), 1);
    ContractionCounter z = with("field m real odd;field p real;outer m p m p;");
    due("20 an odd and an even one", z.pairing(0, 0), 1);
    due("20 they cross", z.pairing(0, 1), 1);
    load(z, "field e pair;outer e' e;");
    due("20 an even bar ahead", z.pairing(0, 0), 1);
    load(z, "field p real;field e pair odd;outer p e' p e;");
    due("20 a bar ahead, that crosses an even one", z.pairing(0, 0), -1);
    ContractionCounter w = with("field a real odd;field b real odd;mix a b;outer b b a a;");
    due("20 mixed, no bars", w.pairing(2, 0), 1);
    due("20 mixed ones that cross", w.pairing(1, 0), -1);
    ContractionCounter v = with("field p real;vertex p p p p p p;vertex p p p p p p;");
    due("20 15 crossings", v.pairing(v.many(5) - 1, 1), 0);
    int most = pairs(v, "0-6;1-7;2-8;3-9;4-10;5-11;");
    due("20 15 crossings", v.pairing(most, 1), 15);
    due("20 three holes", v.pairing(most, 2), 3);
    due("20 one round", v.pairing(most, 4), 1);
  }

  private static void ways() {
    ContractionCounter x = with(QED);
    fine("21 how many", x, () -> x.ways(0, 1, 0), 2);
    fine("21 either way round", x, () -> x.ways(1, 0, 0), 2);
    fine("21 signs", x, () -> x.ways(0, 7, 1), 0);
    fine("21 all", x, () -> x.ways(3, 6, 0), 6);
    fine("21 signs of all", x, () -> x.ways(3, 6, 1), 0);
    fine("21 they may not be", x, () -> x.ways(0, 2, 0), 0);
    refused("21 what", x, () -> x.ways(0, 1, 2), 1);
    refused("21 what", x, () -> x.ways(9, 9, -1), 1);
    refused("21 no such", x, () -> x.ways(8, 0, 0), 2);
    refused("21 no such", x, () -> x.ways(0, -1, 0), 2);
    refused("21 no such comes first", x, () -> x.ways(8, 8, 0), 2);
    refused("21 one letter", x, () -> x.ways(2, 2, 0), 4);
    ContractionCounter y = with(ODD);
    fine("21 -1 is no NONE", y, () -> y.ways(0, 2, 1), -1);
    fine("21 signs", y, () -> y.ways(0, 3, 1), 1);
  }

  private static void overlay() {
    ContractionCounter x = with(PHI);
    fine("22 the same", x, () -> x.overlay(3, 3, 0), 3);
    fine("22 the same", x, () -> x.overlay(3, 3, 1), 3);
    fine("22 01|23|45 on 01|24|35", x, () -> x.overlay(0, 1, 0), 1);
    fine("22 01|23|45 on 01|24|35", x, () -> x.overlay(0, 1, 1), 2);
    fine("22 01|23|45 on 05|14|23", x, () -> x.overlay(0, 14, 0), 1);
    fine("22 01|23|45 on 05|14|23", x, () -> x.overlay(0, 14, 1), 2);
    fine("22 01|23|45 on 05|12|34", x, () -> x.overlay(0, 12, 0), 0);
    fine("22 01|23|45 on 05|12|34", x, () -> x.overlay(0, 12, 1), 1);
    fine("22 the other way", x, () -> x.overlay(12, 0, 1), 1);
    refused("22 what", x, () -> x.overlay(0, 0, 2), 1);
    refused("22 what comes first", x, () -> x.overlay(15, 0, -1), 1);
    refused("22 no such", x, () -> x.overlay(15, 0, 0), 2);
    refused("22 no such", x, () -> x.overlay(0, 15, 0), 2);
    refused("22 no such", x, () -> x.overlay(-1, 0, 1), 2);
  }

  private static void by() {
    ContractionCounter x = with(PHI);
    int[] crossings = {5, 6, 3, 1, 0};
    for (int n = 0; n < crossings.length; n++) {
      int number = n;
      fine("23 crossings " + n, x, () -> x.by(0, number), crossings[n]);
    }
    fine("23 no holes", x, () -> x.by(1, 0), 5);
    fine("23 a hole", x, () -> x.by(1, 1), 10);
    fine("23 two holes", x, () -> x.by(1, 2), 0);
    fine("23 most", x, () -> x.by(0, MOST), 0);
    refused("23 what", x, () -> x.by(2, 0), 1);
    refused("23 what", x, () -> x.by(-1, 0), 1);
    refused("23 number", x, () -> x.by(0, -1), 1);
    ContractionCounter y = with("field p real;vertex p p p p p p;vertex p p p p p p;");
    int[] holes = {132, 2310, 6468, 1485, 0};
    for (int n = 0; n < holes.length; n++) {
      due("23 twelve letters, holes " + n, y.by(1, n), holes[n]);
    }
  }

  private static void signedBy() {
    ContractionCounter x = with("field m real odd;outer m;vertex m m m m;outer m;");
    int[] crossings = {5, -6, 3, -1, 0};
    for (int n = 0; n < crossings.length; n++) {
      int number = n;
      fine("24 crossings " + n, x, () -> x.signedBy(0, number), crossings[n]);
    }
    fine("24 no holes", x, () -> x.signedBy(1, 0), 5);
    fine("24 a hole", x, () -> x.signedBy(1, 1), -4);
    fine("24 two holes", x, () -> x.signedBy(1, 2), 0);
    refused("24 what", x, () -> x.signedBy(2, 0), 1);
    refused("24 what", x, () -> x.signedBy(-1, 0), 1);
    refused("24 number", x, () -> x.signedBy(1, -1), 1);
  }

  private static void partial() {
    ContractionCounter x = with(PHI);
    int[] want = {1, 15, 45, 15, 0, 0, 0, 0};
    for (int k = 0; k < want.length; k++) {
      int twos = k;
      fine("25 partial " + k, x, () -> x.partial(twos), want[k]);
    }
    fine("25 most", x, () -> x.partial(MOST), 0);
    refused("25 below 0", x, () -> x.partial(-1), 1);
    x.normal(1, true);
    due("25 normal, one", x.partial(1), 9);
    due("25 normal, two", x.partial(2), 12);
    ContractionCounter y = with("field p real;vertex p p p p p p;vertex p p p p p p;");
    due("25 twelve letters, five twos", y.partial(5), 62370);
    due("25 twelve letters, six twos", y.partial(6), 10395);
    due("25 three letters", with(THREE).partial(1), 3);
  }

  private static void sub() {
    ContractionCounter x = with(PHI);
    int[][] want = {{1, 1, 1, 0}, {0, 0, 0, 0}, {3, 3, 0, 3}, {0, 0, 0, 0},
        {0, 0, 0, 0}, {1, 1, 1, 1}, {0, 0, 0, 0}, {15, 15, 12, 12}};
    for (int set = 0; set < 8; set++) {
      for (int what = 0; what < 4; what++) {
        int of = set;
        int w = what;
        fine("26 sub " + set + " " + what, x, () -> x.sub(of, w), want[set][what]);
      }
    }
    refused("26 what", x, () -> x.sub(0, 4), 1);
    refused("26 what", x, () -> x.sub(0, -1), 1);
    refused("26 set", x, () -> x.sub(8, 0), 1);
    refused("26 set", x, () -> x.sub(-1, 0), 1);
    refused("26 set", x, () -> x.sub(LEAST, 0), 1);
    ContractionCounter y = with("field m real odd;outer m m;vertex m;outer m m;vertex m;");
    due("26 signs as they stand", y.sub(5, 1), 1);
    fine("26 a sign of the others does not count", y, () -> y.sub(15, 1), 1);
    fine("26 outer and vertex", y, () -> y.sub(10, 0), 1);
    fine("26 two vertices", y, () -> y.sub(10, 2), 0);
    fine("26 two vertices", y, () -> y.sub(10, 3), 1);
    ContractionCounter z = with("field e pair odd;vertex e';outer e e;vertex e';outer e' e;");
    fine("26 -1 is no NONE", z, () -> z.sub(8, 1), -1);
    fine("26 0 of signs", z, () -> z.sub(7, 1), 0);
    fine("26 both linked", z, () -> z.sub(7, 2), 2);
  }

  private static void sum() {
    ContractionCounter x = with(PHI);
    fine("27 ones", x, x::sum, 15);
    x.worth(10, 3);
    x.worth(120, -2);
    x.worth(20, 7);
    fine("27 multiplied", x, x::sum, 12 * 3 * -2 + 3 * 7);
    x.worth(110, 0);
    fine("27 all have a ring", x, x::sum, 0);
    ContractionCounter y = with(ODD);
    y.worth(0, -9);
    fine("27 signs", y, y::sum, 81);
    ContractionCounter z = with("field p real;vertex p p p p p p;vertex p p p p p p;");
    z.worth(0, 9);
    z.worth(10, 9);
    z.worth(110, 9);
    fine("27 beyond an int", z, z::sum, 10395L * 531441L);
    ContractionCounter n = with(THREE);
    fine("27 no pairings", n, n::sum, 0);
    ContractionCounter w = with("field p real;vertex p;vertex p;vertex p;vertex p;");
    w.worth(10, 2);
    fine("27 by codes with its own points", w, w::sum, 4);
    ContractionCounter v = with("field p real;outer p;outer p;");
    v.worth(10, -1);
    v.many(13);
    fine("27 -1", v, v::sum, -1);
  }

  // ---- 28 to 39: DIAGRAMS

  private static void dueDiagram(ContractionCounter x, int d, int... want) {
    for (int what = 0; what < want.length; what++) {
      int w = what;
      fine("28 diagram " + d + " " + what, x, () -> x.diagram(d, w), want[what]);
    }
  }

  private static void diagram() {
    ContractionCounter x = with(PHI);
    dueDiagram(x, 0, 12, 12, 2, 1, 1, 1, 2, 1, 0, 1, 1);
    dueDiagram(x, 1, 3, 3, 8, 2, 0, 2, 1, 2, 12, 2, 1);
    ContractionCounter y = with(QED);
    dueDiagram(y, 0, 2, 2, 1, 1, 1, 1, 2, 0, 0, 1, 1);
    dueDiagram(y, 1, 2, -2, 1, 1, 1, 1, 3, 1, 1, 1, 1);
    dueDiagram(y, 2, 1, 1, 2, 2, 0, 2, 2, 2, 4, 1, 2);
    dueDiagram(y, 3, 1, -1, 2, 2, 0, 2, 1, 0, 5, 1, 2);
    refused("28 what", x, () -> x.diagram(0, 11), 1);
    refused("28 what", x, () -> x.diagram(0, -1), 1);
    refused("28 what comes first", x, () -> x.diagram(2, 11), 1);
    refused("28 no such", x, () -> x.diagram(2, 0), 2);
    refused("28 no such", x, () -> x.diagram(-1, 0), 2);
    ContractionCounter z = with("field p real;vertex p p p;vertex p p p;vertex p p;vertex p p;");
    dueDiagram(z, 0, 9, 9, 64, 3, 0, 4, 1, 4, 0, 1, 4);
    ContractionCounter v = with("field p real;vertex p;vertex p;vertex p;vertex p;outer p p;");
    dueDiagram(v, 0, 3, 3, 16, 3, 0, 1, 2, 1, 0, 1, 8);
    dueDiagram(v, 1, 12, 12, 4, 2, 0, 0, 3, 0, 1, 1, 4);
    load(v, "field p real;vertex p p;vertex p p;");
    dueDiagram(v, 0, 1, 1, 8, 2, 0, 2, 0, 2, 0, 1, 2);
    dueDiagram(v, 1, 2, 2, 4, 1, 0, 1, 0, 0, 1, 2, 2);
    load(v, "field p real;outer p;outer p;");
    dueDiagram(v, 0, 1, 1, 1, 1, 1, 0, 1, 0, 0, 1, 1);
    load(v, "field p real;vertex p p p p;outer p p;");
    due("28 one code, twice at first", v.diagram(lines(v, "0-0p;0-0p;1-1p;"), 9), 2);
    due("28 one code, twice at last", v.diagram(lines(v, "0-0p;0-1p;0-1p;"), 9), 2);
    load(v, "field p real;vertex p p p p p p;");
    due("28 one code, thrice", v.diagram(0, 9), 3);
    load(v, "field p real;vertex p p;vertex p p;vertex p p;");
    dueDiagram(v, lines(v, "0-1p;1-2p;2-0p;"), 8, 8, 6, 1, 0, 1, 0, 0, 4, 1, 6);
  }

  private static void name() {
    ContractionCounter x = with(QED);
    int[][] want = {{10, 120, 121, 230}, {10, 121, 130, 220}, {30, 110, 121, 220}, {30, 120, 121, 210}};
    for (int d = 0; d < 4; d++) {
      for (int k = 0; k < 4; k++) {
        int of = d;
        int at = k;
        fine("29 name " + d + " " + k, x, () -> x.name(of, at), want[d][k]);
      }
    }
    refused("29 k below 0", x, () -> x.name(0, -1), 1);
    refused("29 k comes first", x, () -> x.name(9, -1), 1);
    refused("29 no such", x, () -> x.name(4, 0), 2);
    refused("29 no such comes next", x, () -> x.name(-1, 9), 2);
    refused("29 none", x, () -> x.name(0, 4), 5);
    refused("29 none", x, () -> x.name(0, MOST), 5);
    ContractionCounter y = with(MIXED);
    due("29 a mix", y.name(0, 0), 10);
    due("29 a mix", y.name(0, 1), 121);
    due("29 a mix", y.name(1, 0), 106);
    due("29 a mix", y.name(2, 0), 116);
    load(y, "field a real;field b real;mix a b;outer a b;outer a b;outer a b;outer a b;outer a b;outer a b;");
    due("29 very many", y.many(6), 10395);
    String before = "";
    for (int d = 0; d < 10395; d++) {
      StringBuilder row = new StringBuilder();
      for (int k = 0; k < 6; k++) {
        row.append(y.name(d, k) + 1000);
      }
      due("29 names rise", before.compareTo(row.toString()) < 0 ? 1 : 0, 1);
      before = row.toString();
    }
  }

  private static void part() {
    ContractionCounter x = with(QED);
    int[][] want = {{15, 15, 15, 15}, {15, 15, 15, 15}, {9, 6, 6, 9}, {9, 6, 6, 9}};
    for (int d = 0; d < 4; d++) {
      for (int p = 0; p < 4; p++) {
        int of = d;
        int at = p;
        fine("30 part " + d + " " + p, x, () -> x.part(of, at), want[d][p]);
      }
    }
    refused("30 no such diagram", x, () -> x.part(4, 0), 2);
    refused("30 no such diagram", x, () -> x.part(-1, 0), 2);
    refused("30 no such point", x, () -> x.part(0, 4), 2);
    refused("30 no such point", x, () -> x.part(0, -1), 2);
    ContractionCounter y = with("field p real;vertex p;vertex p;vertex p p;");
    due("30 by the labels of its name", y.name(0, 0), 10);
    due("30 by the labels of its name", y.part(0, 1), 3);
    due("30 a ring alone", y.part(0, 2), 4);
  }

  private static void far() {
    ContractionCounter x = with(QED);
    fine("31 to itself", x, () -> x.far(0, 2, 2), 0);
    fine("31 next", x, () -> x.far(0, 0, 1), 1);
    fine("31 two", x, () -> x.far(0, 0, 2), 2);
    fine("31 against the arrows", x, () -> x.far(0, 3, 0), 3);
    fine("31 fewest", x, () -> x.far(1, 0, 3), 2);
    refused("31 no such diagram", x, () -> x.far(4, 0, 0), 2);
    refused("31 no such diagram", x, () -> x.far(-1, 0, 0), 2);
    refused("31 no such point", x, () -> x.far(0, 4, 0), 2);
    refused("31 no such point", x, () -> x.far(0, 0, -1), 2);
    refused("31 apart", x, () -> x.far(2, 0, 1), 5);
    fine("31 not apart", x, () -> x.far(2, 0, 3), 1);
    ContractionCounter y = with("field p real;outer p;vertex p p;vertex p p;vertex p p;vertex p p;vertex p p;outer p;");
    int found = lines(y, "0-1p;1-2p;2-3p;3-4p;4-5p;5-6p;");
    due("31 six", y.far(found, 0, 6), 6);
  }

  private static void holds() {
    ContractionCounter x = with(QED);
    fine("32 both vertices", x, () -> x.holds(0), 6);
    fine("32 the one with the outer ones", x, () -> x.holds(1), 2);
    fine("32 none", x, () -> x.holds(2), 0);
    fine("32 none", x, () -> x.holds(3), 0);
    refused("32 no such", x, () -> x.holds(4), 2);
    refused("32 no such", x, () -> x.holds(-1), 2);
    ContractionCounter y = with(PHI);
    fine("32 with a ring", y, () -> y.holds(0), 2);
    fine("32 a ring alone", y, () -> y.holds(1), 0);
    ContractionCounter z = with("field p real;vertex p p p;outer p;outer p;outer p;");
    due("32 the first", z.holds(lines(z, "0-1p;0-2p;0-3p;")), 1);
    z.move(0, 3);
    due("32 the last", z.holds(lines(z, "0-3p;1-3p;2-3p;")), 8);
    load(z, "field p real;vertex p p;vertex p p;vertex p p;");
    due("32 rings", z.holds(0), 0);
    due("32 a triangle", z.holds(lines(z, "0-1p;1-2p;2-0p;")), 0);
  }

  private static void ofDiagram() {
    ContractionCounter x = with(PHI);
    int[][] crossings = {{3, 5, 3, 1, 0}, {2, 1, 0, 0, 0}};
    for (int d = 0; d < 2; d++) {
      for (int n = 0; n < 5; n++) {
        int of = d;
        int number = n;
        fine("33 crossings " + d + " " + n, x, () -> x.ofDiagram(of, 0, number), crossings[d][n]);
      }
    }
    fine("33 no holes", x, () -> x.ofDiagram(1, 1, 0), 2);
    fine("33 holes", x, () -> x.ofDiagram(1, 1, 1), 1);
    fine("33 no holes", x, () -> x.ofDiagram(0, 1, 0), 3);
    fine("33 holes", x, () -> x.ofDiagram(0, 1, 1), 9);
    refused("33 what", x, () -> x.ofDiagram(0, 2, 0), 1);
    refused("33 what", x, () -> x.ofDiagram(0, -1, 0), 1);
    refused("33 number", x, () -> x.ofDiagram(0, 0, -1), 1);
    refused("33 number comes first", x, () -> x.ofDiagram(2, 0, -1), 1);
    refused("33 no such", x, () -> x.ofDiagram(2, 0, 0), 2);
    refused("33 no such", x, () -> x.ofDiagram(-1, 1, 0), 2);
  }

  private static void sumOf() {
    ContractionCounter x = with(PHI);
    x.worth(10, 3);
    x.worth(20, -7);
    fine("34 the first", x, () -> x.sumOf(0), 36);
    fine("34 the other", x, () -> x.sumOf(1), -21);
    refused("34 no such", x, () -> x.sumOf(2), 2);
    refused("34 no such", x, () -> x.sumOf(-1), 2);
    ContractionCounter y = with(QED);
    y.worth(10, 5);
    due("34 by its own points, not its name", y.sumOf(0), 6);
    fine("34 -1", y, () -> y.sumOf(3), -1);
    ContractionCounter z = with("field p real;vertex p p p p p p;outer p p p p p p;");
    z.worth(10, 9);
    due("34 six lines", z.sumOf(lines(z, "0-1p;0-1p;0-1p;0-1p;0-1p;0-1p;")), 720L * 531441L);
  }

  private static void diagrams() {
    ContractionCounter x = with(QED);
    int[][] want = {{0, 2, 2, 0}, {0, 2, 2, 0}, {0, 1, 2, 1}, {2, 1, 1, 0}, {0, 2, 2, 0}};
    for (int what = 0; what < 5; what++) {
      for (int n = 0; n < 4; n++) {
        int w = what;
        int number = n;
        fine("35 diagrams " + what + " " + n, x, () -> x.diagrams(w, number), want[what][n]);
      }
    }
    ContractionCounter y = with(PHI);
    fine("35 symmetry", y, () -> y.diagrams(4, 8), 1);
    refused("35 what", x, () -> x.diagrams(5, 0), 1);
    refused("35 what", x, () -> x.diagrams(-1, 0), 1);
    refused("35 number", x, () -> x.diagrams(0, -1), 1);
    fine("35 most", x, () -> x.diagrams(4, MOST), 0);
  }

  private static void print() {
    ContractionCounter x = with(QED);
    String[] want = {"0>1e;1>2e;1-2p;2>3e;", "0>1e;1-2p;1>3e;2>2e;", "0>3e;1>1e;1-2p;2>2e;",
        "0>3e;1>2e;1-2p;2>1e;"};
    for (int d = 0; d < 4; d++) {
      int of = d;
      fine("36 print " + d, x, () -> x.print(of), 20);
      due("36 print " + d, printed(x), want[d]);
      due("36 read again", lines(x, want[d]), d);
    }
    refused("36 no such", x, () -> x.print(4), 2);
    refused("36 no such", x, () -> x.print(-1), 2);
    ContractionCounter y = with(MIXED);
    fine("36 a mix", y, () -> y.print(1), 12);
    due("36 a mix", printed(y), "1-0ba;2-1ba;");
    y.load(0);
    fine("36 of no lines", y, () -> y.print(0), 0);
    due("36 of no lines", printed(y), "");
  }

  private static void printPairs() {
    ContractionCounter x = with(PHI);
    fine("37 the last", x, () -> x.printPairs(14), 12);
    due("37 the last", printed(x), "0-5;1-4;2-3;");
    refused("37 no such", x, () -> x.printPairs(15), 2);
    refused("37 no such", x, () -> x.printPairs(-1), 2);
    ContractionCounter y = with("field p real;vertex p p p p p p;vertex p p p p p p;");
    fine("37 two digits", y, () -> y.printPairs(10394), 26);
    due("37 two digits", printed(y), "0-11;1-10;2-9;3-8;4-7;5-6;");
    fine("37 the first", y, () -> y.printPairs(0), 26);
    due("37 the first", printed(y), "0-1;2-3;4-5;6-7;8-9;10-11;");
  }

  private static void out() {
    ContractionCounter x = with(PHI);
    refused("38 nothing as yet", x, () -> x.out(0), 5);
    x.printPairs(0);
    fine("38 first", x, () -> x.out(0), '0');
    fine("38 second", x, () -> x.out(1), '-');
    fine("38 last", x, () -> x.out(11), ';');
    refused("38 none", x, () -> x.out(12), 5);
    refused("38 none", x, () -> x.out(MOST), 5);
    refused("38 below 0", x, () -> x.out(-1), 1);
    refused("38 below 0", x, () -> x.out(LEAST), 1);
    x.print(9);
    due("38 stays", printed(x), "0-1;2-3;4-5;");
    x.drop(1);
    x.printPairs(0);
    due("38 a shorter one", printed(x), "0-1;");
  }

  private static void core() {
    ContractionCounter x = with(QED);
    int[][] want = {{4, 4, 15}, {4, 4, 15}, {2, 1, 9}, {2, 1, 9}};
    for (int d = 0; d < 4; d++) {
      for (int what = 0; what < 3; what++) {
        int of = d;
        int w = what;
        fine("39 core " + d + " " + what, x, () -> x.core(of, w), want[d][what]);
      }
    }
    refused("39 what", x, () -> x.core(0, 3), 1);
    refused("39 what", x, () -> x.core(0, -1), 1);
    refused("39 what comes first", x, () -> x.core(4, 3), 1);
    refused("39 no such", x, () -> x.core(4, 0), 2);
    refused("39 no such", x, () -> x.core(-1, 0), 2);
    ContractionCounter y = with("field p real;vertex p p;vertex p p;");
    fine("39 nothing is left", y, () -> y.core(0, 0), 0);
    fine("39 nothing is left", y, () -> y.core(0, 1), 0);
    fine("39 nothing is left", y, () -> y.core(0, 2), 0);
  }
}
