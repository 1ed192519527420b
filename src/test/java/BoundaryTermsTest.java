import java.util.Arrays;

/** For each sentence of the document's "Terms": the cases at its boundaries, on both sides. */
public final class BoundaryTermsTest extends Checks {
  private static final Document DOCUMENT = Document.read();
  private static final String EIGHT_POINTS = "field a real;" + "outer a;".repeat(8);
  /** Two diagrams: 10 120 200 of the second pairing, 20 100 210 of the first one. */
  private static final String TURNED = "field e pair;" + "normal outer e' e;".repeat(3);
  private static final String FIVE_VERTICES = "field a real;" + "vertex a;".repeat(5);

  public static void main(String[] args) {
    calls();
    fields();
    whichMayBePaired();
    points();
    pairings();
    crossings();
    holes();
    codes();
    diagrams();
    symmetry();
    shapes();
    worths();
    tokens();
    grammar();
    faultOrder();
    loadFaults();
    linkTexts();
    pairsFaults();
    linesFaults();
    statuses();
    refusals();
    under("Terms");
    due("words without a test", DOCUMENT.unquoted("Terms", "## Terms", "Ahead of the calls"), "");
    finish();
  }

  private static void says(String sentence) {
    under(sentence);
    due("stands in the document", DOCUMENT.quote("Terms", sentence) ? 1 : 0, 1);
  }

  private static void calls() {
    under("An object is used for at most 512 calls after it has been made");
    ContractionCounter x = new ContractionCounter();
    int[] v = ints(PHI);
    for (int round = 0; round < 128; round++) {
      // Four calls a round: all that a call keeps must still be there in the last one.
      x.feed(v[0], v[1], v[2], v[3], v[4]);
      due("round " + round, x.load(20), -1);
      due("round " + round, x.fault(0), 2);
      due("round " + round, x.many(5), 1);
    }
  }

  // ---- ==== 1: fields, points, pairings

  private static void fields() {
    says("FIELDS, at most 6,");
    due("six", with(SIX_FIELDS).many(0), 6);
    badLoad(SIX_FIELDS + "field g real;", 6, 78);
    says("each a small letter,");
    ContractionCounter x = with("field z real;field a pair odd;outer z;");
    due("the first small letter", x.field(1, 0), 1);
    due("the last small letter", x.field(0, 0), 26);
    badLoad("field ` real;", 1, 6);
    badLoad("field { real;", 1, 6);
    badLoad("field A real;", 1, 6);
    badLoad("field Z real;", 1, 6);
    badLoad("field \u00e1 real;", 1, 6);
    says("numbered from 0 on as they were told:");
    ContractionCounter six = with(SIX_FIELDS + "outer f a;");
    fine("the last", six, () -> six.field(5, 0), 6);
    fine("a letter of the last", six, () -> six.letter(0, 0), 5);
    fine("a letter of the first", six, () -> six.letter(1, 0), 0);
    refused("none is behind the last", six, () -> six.field(6, 0), 2);
    refused("none is ahead of the first", six, () -> six.field(-1, 0), 2);
    says("REAL or a PAIR (then there is the letter and its BAR), EVEN or ODD.");
    due("real", x.field(0, 1), 0);
    due("pair", x.field(1, 1), 1);
    due("even", x.field(0, 2), 0);
    due("odd", x.field(1, 2), 1);
    due("the letter and its bar", load(x, "field e pair;outer e e';"), 2);
    due("the letter", x.letter(0, 1), 0);
    due("its bar", x.letter(1, 1), 1);
    due("both of one field", x.letter(1, 0), 0);
    badLoad("field p real;outer p';", 4, 20);
  }

  private static void whichMayBePaired() {
    says("LETTERS may be PAIRED, if they are two of one REAL FIELD,");
    ContractionCounter x = with("field a real;field b real;outer a a b;");
    fine("two of one", x, () -> x.code(0, 1), 0);
    refused("one alone", x, () -> x.code(0, 0), 4);
    refused("of two fields", x, () -> x.code(1, 2), 5);
    due("not with itself", x.letter(0, 3), 1);
    due("with none", x.letter(2, 3), 0);
    says("or one of a PAIR and its BAR,");
    ContractionCounter y = with("field e pair;field f pair;outer e e e' e' f';");
    fine("the letter and its bar", y, () -> y.code(0, 2), 0);
    fine("the bar and its letter", y, () -> y.code(3, 1), 0);
    refused("two letters", y, () -> y.code(0, 1), 5);
    refused("two bars", y, () -> y.code(2, 3), 5);
    refused("a bar of another one", y, () -> y.code(0, 4), 5);
    says("or of two REAL FIELDS that are MIXED");
    ContractionCounter z = with("field a real;field b real;field c real;mix a b;mix c b;outer a b c;");
    fine("as it was told", z, () -> z.code(0, 1), 6);
    fine("the other way round", z, () -> z.code(1, 2), 7);
    refused("each with the same one, but not with one another", z, () -> z.code(0, 2), 5);
    due("with both", z.letter(1, 3), 2);
    says("(both EVEN, or both ODD; at most 4 MIXES).");
    due("both odd", with("field a real odd;field b real odd;mix a b;outer a b;").many(5), 1);
    badLoad("field a real odd;field b real;mix a b;", 4, 36);
    badLoad("field a real;field b real odd;mix a b;", 4, 36);
    String four = SIX_FIELDS + "mix a b;mix a c;mix a d;mix e f;";
    due("four", with(four).many(1), 4);
    badLoad(four + "mix a f;", 6, four.length());
  }

  private static void points() {
    says("POINTS, at most 8, numbered from 0 on,");
    ContractionCounter x = with(EIGHT_POINTS);
    due("eight", x.many(2), 8);
    fine("the last", x, () -> x.point(7, 3), 7);
    refused("none is behind the last", x, () -> x.point(8, 0), 2);
    refused("none is ahead of the first", x, () -> x.point(-1, 0), 2);
    badLoad(EIGHT_POINTS + "outer a;", 6, EIGHT_POINTS.length());
    badLoad(EIGHT_POINTS + "vertex a;", 6, EIGHT_POINTS.length());
    refused("no copy more", x, () -> x.copy(0), 3);
    says("each a row of 1 to 6 LETTERS,");
    badLoad("field a real;outer;", 2, 18);
    badLoad("field a real;vertex ;", 2, 20);
    due("one", with("field a real;outer a;").point(0, 0), 1);
    due("six", with("field a real;outer a a a a a a;").point(0, 0), 6);
    badLoad("field a real;outer a a a a a a a;", 6, 31);
    says("OUTER or a VERTEX (at most 5),");
    ContractionCounter y = with(FIVE_VERTICES + "outer a;");
    due("five", y.many(3), 5);
    badLoad(FIVE_VERTICES + "vertex a;", 6, FIVE_VERTICES.length());
    refused("no copy of one more", y, () -> y.copy(0), 3);
    fine("but of an outer one", y, () -> y.copy(5), 6);
    due("one that is no vertex", y.point(6, 1), 0);
    due("outer ones are not counted", with(EIGHT_POINTS).many(3), 0);
    says("NORMAL (no two of its LETTERS may be PAIRED) or not.");
    ContractionCounter z = with("field a real;normal outer a a;normal vertex a a;outer a a;");
    refused("two of it", z, () -> z.code(0, 1), 5);
    fine("of two normal ones", z, () -> z.code(1, 2), 10);
    fine("two of one that is not", z, () -> z.code(4, 5), 220);
    due("with those of others alone", z.letter(0, 3), 4);
    says("All LETTERS of all POINTS, one behind the other, at most 12, have numbers from 0 on.");
    ContractionCounter w = with("field a real;outer a a a a a a;vertex a a a a a;outer a;");
    due("twelve", w.many(4), 12);
    fine("the last", w, () -> w.letter(11, 2), 2);
    fine("the one ahead of it", w, () -> w.letter(10, 2), 1);
    refused("none is behind the last", w, () -> w.letter(12, 2), 2);
    refused("none is ahead of the first", w, () -> w.letter(-1, 2), 2);
    refused("no copy more", w, () -> w.copy(2), 3);
    badLoad("field a real;outer a a a a a a;outer a a a a a a;outer a;", 6, 55);
    alike();
  }

  private static void alike() {
    says("VERTICES are ALIKE, if their rows of LETTERS are, and both are NORMAL or neither.");
    ContractionCounter x = with("field e pair;field p real;vertex e p;vertex e p;vertex p e;vertex e' p;outer e p;");
    int[] want = {2, 2, 1, 1, 0};
    for (int p = 0; p < want.length; p++) {
      due("point " + p, x.point(p, 4), want[p]);
    }
    load(x, "field p real;vertex p;vertex p p;normal vertex p;normal vertex p;");
    int[] normal = {1, 1, 2, 2};
    for (int p = 0; p < normal.length; p++) {
      due("normal ones, a longer one, " + p, x.point(p, 4), normal[p]);
    }
    due("all five", with(FIVE_VERTICES).point(4, 4), 5);
  }

  private static void pairings() {
    says("A PAIRING: all LETTERS in twos that may be PAIRED: its LINES.");
    due("no letters", new ContractionCounter().many(5), 1);
    due("one letter", with("field p real;outer p;").many(5), 0);
    due("two", with("field p real;outer p p;").many(5), 1);
    due("three", with(THREE).many(5), 0);
    due("two that may not be", with("field e pair;outer e e;").many(5), 0);
    due("one of four with none", with("field a real;field b real;outer a a a b;").many(5), 0);
    says("PAIRINGS are numbered from 0 on in this order: by the LETTER with which the LETTER 0 is, the least first, "
        + "then by that with which the least of all others is, and so on");
    ContractionCounter x = with("field p real;outer p p p p p p;");
    String[] order = {"0-1;2-3;4-5;", "0-1;2-4;3-5;", "0-1;2-5;3-4;", "0-2;1-3;4-5;", "0-2;1-4;3-5;",
        "0-2;1-5;3-4;", "0-3;1-2;4-5;", "0-3;1-4;2-5;", "0-3;1-5;2-4;", "0-4;1-2;3-5;", "0-4;1-3;2-5;",
        "0-4;1-5;2-3;", "0-5;1-2;3-4;", "0-5;1-3;2-4;", "0-5;1-4;2-3;"};
    for (int k = 0; k < order.length; k++) {
      x.printPairs(k);
      due("pairing " + k, printed(x), order[k]);
    }
    refused("none is behind the last", x, () -> x.printPairs(15), 2);
    says("(there are never more than 10,395).");
    ContractionCounter y = with(TWELVE);
    due("of twelve like ones", y.many(5), 10395);
    fine("the last", y, () -> y.mate(10394, 0), 11);
    refused("none is behind it", y, () -> y.mate(10395, 0), 2);
    due("of twelve mixed ones", with("field a real;field b real;mix a b;outer a b a b a b;vertex b a b a b a;").many(5),
        10395);
  }

  private static void crossings() {
    says("Two LINES CROSS, if just one LETTER of the one lies between both of the other.");
    ContractionCounter x = with("field p real;outer p p p p;");
    due("no letter between", x.pairing(0, 1), 0);
    due("one", x.pairing(1, 1), 1);
    due("both", x.pairing(2, 1), 0);
    ContractionCounter y = with(TWELVE);
    due("all fifteen couples", y.pairing(pairs(y, "0-6;1-7;2-8;3-9;4-10;5-11;"), 1), 15);
    due("just one has so many", y.by(0, 15), 1);
    due("none has more", y.by(0, 16), 0);
    due("none crosses", y.many(10), 132);
    due("one line alone", with("field p real;outer p p;").pairing(0, 1), 0);
    says("The SIGN of a PAIRING: 1, turned for each two LINES of ODD LETTERS that CROSS,");
    due("no lines", new ContractionCounter().pairing(0, 0), 1);
    ContractionCounter odd = with(ODD);
    fine("apart", odd, () -> odd.pairing(0, 0), 1);
    fine("cross", odd, () -> odd.pairing(1, 0), -1);
    fine("one inside the other", odd, () -> odd.pairing(2, 0), 1);
    due("even ones", x.pairing(1, 0), 1);
    due("odd and even", with("field m real odd;field p real;outer m p m p;").pairing(0, 0), 1);
    due("two odd fields", with("field m real odd;field n real odd;outer m n m n;").pairing(0, 0), -1);
    due("three that cross are turned thrice",
        with("field a real odd;field b real odd;field c real odd;outer a b c a b c;").pairing(0, 0), -1);
    due("four that cross are turned six times", with("field a real odd;field b real odd;field c real odd;"
        + "field d real odd;outer a b c d;outer a b c d;").pairing(0, 0), 1);
    says("and for each LINE of an ODD PAIR whose BAR is ahead of its other one.");
    due("behind", with("field e pair odd;outer e e';").pairing(0, 0), 1);
    due("ahead", with("field e pair odd;outer e' e;").pairing(0, 0), -1);
    due("ahead, in another point", with("field e pair odd;outer e';vertex e;").pairing(0, 0), -1);
    due("of an even pair", with("field e pair;outer e' e;").pairing(0, 0), 1);
    due("twice", with("field e pair odd;field f pair odd;outer e' e f' f;").pairing(0, 0), 1);
    due("turned by both", with("field e pair odd;field m real odd;outer e' m e m;").pairing(0, 0), 1);
  }

  private static void holes() {
    says("HOLES of a PAIRING: all n LETTERS stand on a circle, by numbers; from a LETTER one goes to that with which it "
        + "is, and to the next one behind (behind the last the first): ROUNDS are how many rings that makes;");
    ContractionCounter two = with("field p real;outer p;outer p;");
    due("two letters: behind the last the first", two.pairing(0, 4), 2);
    ContractionCounter four = with("field p real;outer p p p p;");
    due("01|23", four.pairing(0, 4), 3);
    due("02|13", four.pairing(1, 4), 1);
    due("03|12", four.pairing(2, 4), 3);
    due("no letters", new ContractionCounter().pairing(0, 4), 0);
    ContractionCounter y = with(TWELVE);
    due("twelve letters, the most", y.pairing(0, 4), 7);
    int most = pairs(y, "0-6;1-7;2-8;3-9;4-10;5-11;");
    due("twelve letters, the fewest", y.pairing(most, 4), 1);
    says("HOLES are half of (half of n, and 1, less ROUNDS) (no LETTERS: 0).");
    due("no letters", new ContractionCounter().pairing(0, 2), 0);
    due("no letters, counted", new ContractionCounter().by(1, 0), 1);
    due("two letters", two.pairing(0, 2), 0);
    due("01|23", four.pairing(0, 2), 0);
    due("02|13", four.pairing(1, 2), 1);
    due("twelve letters, the fewest", y.pairing(0, 2), 0);
    due("twelve letters, the most", y.pairing(most, 2), 3);
    due("none has more", y.by(1, 4), 0);
  }

  // ---- ==== 2: lines, diagrams

  private static void codes() {
    says("A LINE leads FROM a POINT TO a POINT, and has a SORT: of a REAL FIELD: its number, from the lesser POINT;");
    ContractionCounter x = with(SIX_FIELDS + "outer a a f;outer a f;");
    fine("the first field, the first point", x, () -> x.code(0, 1), 0);
    fine("the last field", x, () -> x.code(2, 4), 15);
    fine("the other way", x, () -> x.code(4, 2), 15);
    says("of a PAIR: its number, from the POINT of the letter to that of its BAR;");
    ContractionCounter y = with("field e pair;outer e';outer e;outer e e';");
    fine("falling", y, () -> y.code(0, 1), 100);
    fine("falling, the other way", y, () -> y.code(1, 0), 100);
    fine("rising", y, () -> y.code(1, 3), 120);
    fine("in one point", y, () -> y.code(2, 3), 220);
    says("of a MIX: 6 and the number of the MIX, from the POINT of the first FIELD's LETTER (as the MIX was told) to "
        + "that of the other one.");
    String mixes = "field a real;field b real;field c real;field d real;mix a b;mix a c;mix a d;mix d c;";
    ContractionCounter z = with(mixes + "outer b c;outer a d;");
    fine("the first, falling", z, () -> z.code(0, 2), 106);
    fine("the other way", z, () -> z.code(2, 0), 106);
    fine("the last, its second field ahead", z, () -> z.code(1, 3), 109);
    fine("in one point", z, () -> z.code(2, 3), 118);
    says("Its CODE: 100 times FROM, and 10 times TO, and SORT, together.");
    ContractionCounter w = with(mixes + "outer a;".repeat(7) + "outer c d;");
    fine("the greatest", w, () -> w.code(7, 8), 779);
    fine("from the last point but one", w, () -> w.code(6, 7), 677);
    fine("the least", x, () -> x.code(1, 0), 0);
  }

  private static void diagrams() {
    says("PAIRINGS are of one DIAGRAM, if VERTICES that are ALIKE can change places (all at once) so that the CODES of "
        + "the one (REAL ones from the lesser POINT again) become those of the other one.");
    String chain = "outer p;%s p p;%s p p;outer p;";
    ContractionCounter x = with("field p real;" + chain.replace("%s", "vertex"));
    due("a chain either way", x.diagram(lines(x, "0-1p;1-2p;2-3p;"), 0), 8);
    due("the same one", lines(x, "0-2p;2-1p;1-3p;"), lines(x, "0-1p;1-2p;2-3p;"));
    ContractionCounter outer = with("field p real;" + chain.replace("%s", "outer"));
    due("outer ones do not change", outer.diagram(lines(outer, "0-1p;1-2p;2-3p;"), 0), 4);
    ContractionCounter one = with("field p real;outer p;normal vertex p p;vertex p p;outer p;");
    due("nor those that are not alike", one.diagram(lines(one, "0-1p;1-2p;2-3p;"), 0), 4);
    due("pairings of like codes", with(TWELVE).many(6), 4);
    ContractionCounter five = with("field p real;" + "vertex p p;".repeat(5));
    due("five at once: rings are cut as 5 can be", five.many(6), 7);
    says("The NAME of a DIAGRAM: its CODES, rising, by that change of places by which they are the least row (compared "
        + "from the first on).");
    ContractionCounter y = with("field p real;vertex p;vertex p;vertex p;outer p p p;outer p p;");
    int d = lines(y, "0-4p;1-4p;2-3p;3-3p;");
    due("the least row", "" + y.name(d, 0) + " " + y.name(d, 1) + " " + y.name(d, 2) + " " + y.name(d, 3),
        "30 140 240 330");
    refused("none is behind the last", y, () -> y.name(d, 4), 5);
    ContractionCounter e = with("field e pair;vertex e;vertex e;outer e';outer e';");
    due("a row that is the least already", e.name(0, 0) * 1000 + e.name(0, 1), 20130);
    ContractionCounter ring = with("field e pair;" + "vertex e' e;".repeat(3));
    int turned = lines(ring, "0>2e;2>1e;1>0e;");
    due("the first pairing's row is not the least", ring.mate(ring.diagram(turned, 8), 0), 3);
    due("the least row", ring.name(turned, 0) + " " + ring.name(turned, 1) + " " + ring.name(turned, 2), "10 120 200");
    says("DIAGRAMS are numbered from 0 on by NAMES, the least first.");
    ContractionCounter second = with(TURNED);
    due("the first pairing is of the second one", second.pairing(0, 3), 1);
    due("the second pairing is of the first one", second.diagram(0, 8), 1);
    due("a second code decides", with(QED).name(0, 1), 120);
    due("a second code decides", with(QED).name(1, 1), 121);
    ContractionCounter last = with(QED);
    fine("the last", last, () -> last.name(3, 0), 30);
    refused("none is behind the last", last, () -> last.name(4, 0), 2);
    refused("none is ahead of the first", last, () -> last.name(-1, 0), 2);
    namesRise("field p real;" + "outer p p;".repeat(6));
    namesRise("field e pair;" + "outer e e';".repeat(6));
    namesRise("field a real;field b real;mix b a;" + "vertex a b;".repeat(4) + "outer a b;");
    says("COUNT: its PAIRINGS; SIGNED: their SIGNS together.");
    ContractionCounter odd = with("field m real odd;vertex m m m m;outer m m;");
    int both = lines(odd, "0-0m;0-1m;0-1m;");
    due("all of them", odd.diagram(both, 0), 12);
    due("their signs", odd.diagram(both, 1), 0);
    due("of no lines", new ContractionCounter().diagram(0, 0), 1);
    due("of no lines, the sign", new ContractionCounter().diagram(0, 1), 1);
  }

  /** Of very many diagrams, each one's name is less than the next one's, and its count is that of its pairings. */
  private static void namesRise(String theory) {
    ContractionCounter x = with(theory);
    int size = x.many(6);
    long[] names = new long[size];
    int[] counts = new int[size];
    for (int k = 0; k < x.many(5); k++) {
      counts[x.pairing(k, 3)]++;
    }
    for (int d = 0; d < size; d++) {
      for (int k = 0; k < x.many(4) / 2; k++) {
        names[d] = 1000 * names[d] + x.name(d, k);
      }
      due("name " + d + " is greater than the one ahead of it", d == 0 || names[d - 1] < names[d] ? 1 : 0, 1);
      due("count " + d, x.diagram(d, 0), counts[d]);
      due("first of " + d + " is one of its own", x.pairing(x.diagram(d, 8), 3), d);
    }
  }

  private static void symmetry() {
    says("SYMMETRY: the product of, for each class of VERTICES that are ALIKE, all orders of these, and for each POINT "
        + "and each LETTER (a BAR is another one than its letter) all orders of those that are there, by COUNT "
        + "(always whole).");
    String[] theories = {"", PHI, QED, MIXED, ODD, TWELVE, "field p real;" + "vertex p p;".repeat(5),
        "field e pair;outer e e' e' e;vertex e e';normal vertex e' e;normal vertex e' e;",
        "field a real;field b real;mix a b;vertex a b a;vertex a b a;outer b b;outer a a;"};
    long[] orders = {1, 24, 2, 1, 24, 2 * 720 * 720, 120 * 32, 4 * 2, 2 * 2 * 2 * 2 * 2};
    for (int t = 0; t < theories.length; t++) {
      ContractionCounter x = with(theories[t]);
      for (int d = 0; d < x.many(6); d++) {
        due("whole, " + theories[t] + " " + d, (long) x.diagram(d, 2) * x.diagram(d, 0), orders[t]);
      }
    }
    due("no letters", new ContractionCounter().diagram(0, 2), 1);
    due("the greatest", with("field p real;vertex p p p p p p;vertex p p p p p p;").diagram(0, 2), 2 * 720 * 720 / 225);
  }

  private static void shapes() {
    says("PARTS: POINTS that hang together by LINES.");
    due("no points", new ContractionCounter().diagram(0, 3), 0);
    due("one point", with("field p real;outer p p;").diagram(0, 3), 1);
    due("six points, each alone", with("field p real;" + "outer p p;".repeat(6)).diagram(0, 3), 6);
    due("eight points in twos", with("field p real;" + "outer p;".repeat(8)).diagram(0, 3), 4);
    says("It is LINKED, if each PART has an OUTER POINT, CONNECTED, if it is one PART.");
    ContractionCounter none = new ContractionCounter();
    due("no parts: linked", none.diagram(0, 4), 1);
    due("no parts: not connected", none.many(12), 0);
    ContractionCounter lone = with("field p real;vertex p p;");
    due("a vertex alone: not linked", lone.diagram(0, 4), 0);
    due("a vertex alone: connected", lone.many(12), 1);
    ContractionCounter two = with("field p real;outer p p;outer p p;");
    due("two outer ones apart: linked", two.diagram(0, 4), 1);
    due("two outer ones apart: just one is connected", two.many(12), 1);
    due("one part of two without an outer one", with("field p real;outer p p;vertex p p;").diagram(0, 4), 0);
    says("LOOPS: LINES and PARTS less POINTS.");
    due("no points", none.diagram(0, 5), 0);
    due("a tree has none", with("field p real;outer p;outer p;").diagram(0, 5), 0);
    due("six, in two parts", with(TWELVE).diagram(0, 5), 6);
    ContractionCounter wide = with(TWELVE);
    due("five, in one part", wide.diagram(wide.many(6) - 1, 5), 5);
    says("BRIDGES: LINES without which there were more PARTS.");
    due("no lines", none.diagram(0, 6), 0);
    due("one line", with("field p real;outer p;outer p;").diagram(0, 6), 1);
    due("a ring is none", lone.diagram(0, 6), 0);
    due("two lines of two points are none", two.diagram(1, 6), 0);
    ContractionCounter arrows = with("field e pair;outer e e';outer e e';");
    due("nor if they lead both ways", arrows.diagram(lines(arrows, "0>1e;1>0e;"), 6), 0);
    bridgesOfRows();
    ContractionCounter star = with("field p real;outer p p p p p p;" + "outer p;".repeat(6));
    due("six, all lines", star.diagram(lines(star, "0-1p;0-2p;0-3p;0-4p;0-5p;0-6p;"), 6), 6);
    says("RINGS: LINES from a POINT to itself.");
    due("no lines", none.diagram(0, 7), 0);
    due("all six lines", with(TWELVE).diagram(0, 7), 6);
    due("none", two.diagram(1, 7), 0);
    ContractionCounter mixed = with("field a real;field b real;mix a b;field e pair;outer a b e e';");
    due("of a mix and of a pair", mixed.diagram(0, 7), 2);
  }

  private static void bridgesOfRows() {
    ContractionCounter three = with("field p real;" + "outer p p;".repeat(3));
    due("a ring of three points has none", three.diagram(lines(three, "0-1p;1-2p;2-0p;"), 6), 0);
    ContractionCounter five = with("field p real;" + "vertex p p;".repeat(5));
    due("nor a ring of five", five.diagram(lines(five, "0-3p;3-1p;1-4p;4-2p;2-0p;"), 6), 0);
    ContractionCounter tail = with("field p real;outer p p p;outer p p;outer p p;outer p;");
    due("one, at a ring of three", tail.diagram(lines(tail, "0-1p;1-2p;2-0p;0-3p;"), 6), 1);
    ContractionCounter between = with("field p real;" + "vertex p p p;".repeat(4));
    due("two, with two lines of two points between", between.diagram(lines(between, "0-0p;0-1p;1-2p;1-2p;2-3p;3-3p;"), 6), 2);
    ContractionCounter kinds = with("field a real;field b real;outer a b;outer a b;");
    due("nor two lines of two fields", kinds.diagram(lines(kinds, "0-1a;0-1b;"), 6), 0);
  }

  private static void worths() {
    says("WORTH of a CODE: -9 to 9 (1 at first);");
    ContractionCounter x = with("field p real;outer p p p p;");
    refused("10", x, () -> x.worth(0, 10), 1);
    refused("-10", x, () -> x.worth(0, -10), 1);
    refused("1 at first", x, () -> x.worth(0, 1), 4);
    fine("9", x, () -> x.worth(0, 9), 1);
    due("9 counts", x.sum(), 3 * 81);
    fine("-9", x, () -> x.worth(0, -9), 9);
    fine("0", x, () -> x.worth(0, 0), -9);
    due("0 counts", x.sum(), 0);
    says("of a PAIRING: SIGN times WORTHS of its LINES (by CODES with its own POINTS).");
    due("no lines", new ContractionCounter().sum(), 1);
    ContractionCounter y = with("field p real;vertex p p;vertex p p;");
    y.worth(110, 5);
    due("a ring at the second point, once", y.sumOf(0), 5);
    ContractionCounter z = with("field m real odd;vertex m;vertex m;vertex m;vertex m;");
    z.worth(10, 2);
    z.worth(20, 3);
    z.worth(130, 5);
    z.worth(30, 7);
    due("01|23, 02|13 turned, 03|12", z.sum(), 2 - 15 + 7);
    due("of one diagram, though each has codes of its own", z.sumOf(0), 2 - 15 + 7);
  }

  // ---- ==== 3: texts

  private static void tokens() {
    says("A TEXT of at most 400 bytes.");
    String full = "field p real;" + " ".repeat(377) + "outer p p;";
    ContractionCounter x = new ContractionCounter();
    due("400 on the tape", tell(x, full), 400);
    due("401 are not there", x.load(401), -1);
    due("400 are read", x.load(400), 2);
    due("400 of pairs", pairs(x, " ".repeat(396) + "0-1;"), 0);
    due("400 of lines", lines(x, "0-0p" + "\n".repeat(395) + ";"), 0);
    badLoad("field p real;" + " ".repeat(378) + "outer p p", 2, 400);
    says("TOKENS, as long as they go,");
    badLoad("fieldp real;", 2, 0);
    badLoad("field preal;", 2, 6);
    badLoad("field p realodd;", 2, 8);
    badLoad("field p real;normalouter p;", 2, 13);
    badPairs(PHI, "0-12;", 3, 2);
    due("as short as they can be", load(x, "field e pair;outer e'e e'e;"), 4);
    says("between them blanks (10, 32):");
    due("both, and many", load(x, "\n\n field \n p\nreal  ; outer\np p ; \n"), 2);
    for (int other : new int[] {0, 9, 11, 12, 13, 31, 33, 127, 128, 160, 255}) {
      badLoad("field" + (char) other + "p real;", 1, 5);
      badPairs(PHI, "0" + (char) other + "-1;", 1, 1);
    }
    says("WORDS (small letters), the SIGNS ' ;");
    for (String other : "- > 0 9 , : \" ` { A Z [ ] .".split(" ")) {
      badLoad("field p real;outer p" + other + ";", 1, 20);
    }
  }

  private static void grammar() {
    ContractionCounter x = new ContractionCounter();
    says("A TEXT: {LINE}.");
    fine("none", x, () -> x.load(0), 0);
    due("blanks alone", load(x, " \n "), 0);
    due("one", load(x, "field p real;"), 0);
    badLoad(";", 2, 0);
    badLoad("field p real;;", 2, 13);
    badLoad("field p real", 2, 12);
    says("LINE: field L real [odd] ; or field L pair [odd] ;");
    due("all four", load(x, "field a real;field b real odd;field c pair;field d pair odd;"), 0);
    due("all four", "" + x.field(1, 2) + x.field(2, 1) + x.field(3, 1) + x.field(3, 2), "1111");
    badLoad("field p;", 2, 7);
    badLoad("field real;", 2, 6);
    badLoad("field p odd;", 2, 8);
    badLoad("field p odd real;", 2, 8);
    badLoad("field p real pair;", 2, 13);
    badLoad("field p even;", 2, 8);
    says("or mix L L ;");
    due("two", load(x, "field a real;field b real;mix a b;"), 0);
    badLoad("field a real;mix ;", 2, 17);
    badLoad("field a real;mix a;", 2, 18);
    badLoad("field a real;field b real;mix a b a;", 2, 34);
    badLoad("field a real;field b real;mix a' b;", 2, 31);
    says("or [normal] outer LETTER {LETTER} ; or [normal] vertex LETTER {LETTER} ;");
    due("all four", load(x, "field p real;outer p;normal outer p p;vertex p p p;normal vertex p;"), 7);
    due("all four", "" + x.point(0, 1) + x.point(0, 2) + x.point(1, 1) + x.point(1, 2)
        + x.point(2, 1) + x.point(2, 2) + x.point(3, 1) + x.point(3, 2), "00011011");
    badLoad("field p real;normal p;", 2, 20);
    badLoad("field p real;normal;", 2, 19);
    badLoad("normal field p real;", 2, 7);
    badLoad("field p real;outer normal p;", 2, 19);
    says("L: a WORD of one small letter.");
    badLoad("field pp real;", 2, 6);
    badLoad("field p real;outer pp;", 2, 19);
    badLoad("field a real;field b real;mix ab;", 2, 30);
    says("LETTER: L ['] (with ': a BAR).");
    due("a blank between", load(x, "field e pair;outer e ' e;"), 2);
    due("a bar", x.letter(0, 1), 1);
    due("none", x.letter(1, 1), 0);
    badLoad("field e pair;outer ';", 2, 19);
    badLoad("field e pair;outer e'';", 2, 21);
    says("({ } any number of times, [ ] once or not.)");
    badLoad("field p real odd odd;", 2, 17);
    badLoad("field p real;normal normal outer p;", 2, 20);
    due("lines in any order", load(x, "field p real;outer p;field q real;outer q p;mix q p;vertex q;"), 4);
    due("a mix behind its letters counts for these", x.many(5), 3);
  }

  private static void faultOrder() {
    says("FAULTS, the first along the text");
    badLoad("outer p;#", 3, 6);
    badLoad("# outer p;", 1, 0);
    badLoad("field p real;outer p';field p real;", 4, 20);
    badLoad("field p real;field p real;outer p';", 5, 19);
    badLoad(SIX_FIELDS + "field #", 6, 78);
    badLoad(SIX_FIELDS + "field a real;", 6, 78);
    badLoad(EIGHT_POINTS + "outer ;", 6, 77);
    badLoad(FIVE_VERTICES + "vertex z;", 6, 58);
    badPairs(PHI, "0-9;x", 3, 2);
    badPairs(PHI, "x;0-9;", 2, 0);
    badLines(QED, "0>1e;0>9e;#", 3, 7);
    says("(of one TOKEN the least kind):");
    // Of a 7th, a 13th letter: 2 and 3 come ahead of 6.
    badLoad("field a real;outer a a a a a a #;", 1, 31);
    badLoad("field a real;outer a a a a a a aa;", 2, 31);
    badLoad("field a real;outer a a a a a a z;", 3, 31);
    badLoad("field a real;outer a a a a a a;outer a a a a a a;outer z;", 3, 55);
    badLoad("field a real;outer a a a a a a;outer a a a a a a;outer aa;", 2, 55);
    badLoad("field a real;outer a a a a a a;outer a a a a a a;outer ;", 2, 55);
    // Of pairs: 3 ahead of 6, 4 ahead of 5, 5 ahead of 6.
    badPairs(THREE, "0-1;3-2;", 3, 4);
    badPairs(THREE, "0-1;1-2;", 5, 4);
    badPairs(THREE, "0-1;2-0;", 6, 4);
    badPairs(PHI, "0-0;", 4, 2);
    badPairs(QED, "0-1;2-0;", 4, 6);
    // Of lines: 3 ahead of 4, and ahead of 6.
    badLines(QED, "0-1x;", 3, 3);
    badLines(QED, "0>1e;0>1e;0>1e;0>1e;4>1e;", 3, 20);
  }

  private static void loadFaults() {
    says("1 no TOKEN begins so.");
    badLoad("#", 1, 0);
    badLoad("field p real;  7", 1, 15);
    badLoad("field p real-", 1, 12);
    says("2 it can't stand there (the end: the text's length; a WORD of more letters than one).");
    badLoad("field", 2, 5);
    badLoad("field p", 2, 7);
    badLoad("field p real", 2, 12);
    badLoad("field p real odd", 2, 16);
    badLoad("field p real odd \n ", 2, 19);
    badLoad("field p real;mix", 2, 16);
    badLoad("field p real;mix p", 2, 18);
    badLoad("field p real;normal", 2, 19);
    badLoad("field p real;outer", 2, 18);
    badLoad("field p real;outer p", 2, 20);
    badLoad("field p pair;outer p'", 2, 21);
    badLoad("field p real;outer field", 2, 19);
    ContractionCounter x = new ContractionCounter();
    tell(x, PHI);
    due("the end of n bytes, not of the tape", x.load(43), -1);
    due("its kind", x.fault(0), 2);
    due("its place", x.fault(1), 43);
    tell(x, "field p real;outer p;");
    due("a word that n cuts", x.load(10), -1);
    due("its kind and place", x.fault(0) * 100 + x.fault(1), 208);
    load(x, "field p real;outer p p;");
    tell(x, "0-12;");
    due("a number that n cuts", x.pairs(3), -1);
    due("its kind and place", x.fault(0) * 100 + x.fault(1), 203);
    tell(x, "0-0pq;");
    due("a word that n cuts", x.lines(4), -1);
    due("its kind and place", x.fault(0) * 100 + x.fault(1), 204);
    says("3 an L that is no FIELD as yet (at it).");
    badLoad("outer p;field p real;", 3, 6);
    badLoad("mix p q;field p real;field q real;", 3, 4);
    badLoad("field p real;mix p q;field q real;", 3, 19);
    badLoad("field p real;outer p p q;", 3, 23);
    says("4 ' behind a REAL one (at it);");
    badLoad("field p real;outer p';", 4, 20);
    badLoad("field p real;outer p  ';", 4, 22);
    badLoad("field e pair;field p real;outer e' p';", 4, 36);
    says("of mix: an L that is a PAIR, the second one being the first, or ODD otherwise (at it);");
    badLoad("field e pair;field p real;mix e p;", 4, 30);
    badLoad("field e pair;field p real;mix p e;", 4, 32);
    badLoad("field e pair;mix e e;", 4, 17);
    badLoad("field p real;mix p p;", 4, 19);
    badLoad("field p real;field q real odd;mix p q;", 4, 36);
    badLoad("field p real;field q real odd;mix q p;", 4, 36);
    says("a MIX that was told so, either way round (at the second L).");
    badLoad("field p real;field q real;mix p q;mix p q;", 4, 40);
    badLoad("field p real;field q real;mix p q;mix q p;", 4, 40);
    says("5 a FIELD that was told (at L).");
    badLoad("field p real;field p real;", 5, 19);
    badLoad("field p real;field q real;field p pair odd;", 5, 32);
    tooMany();
    anew();
  }

  private static void tooMany() {
    says("6 one too many: FIELDS, MIXES, POINTS, VERTICES (at the LINE's first WORD; VERTICES, POINTS also of a LINE "
        + "with normal: at normal),");
    badLoad(SIX_FIELDS + "  field g real;", 6, 80);
    String mixes = SIX_FIELDS + "mix a b;mix a c;mix a d;mix e f;";
    badLoad(mixes + "mix a b;", 6, 110);
    badLoad(mixes + "mix b d;", 6, 110);
    badLoad(EIGHT_POINTS + "outer a;", 6, 77);
    badLoad(EIGHT_POINTS + "normal outer a;", 6, 77);
    badLoad(EIGHT_POINTS + "normal vertex a;", 6, 77);
    badLoad(FIVE_VERTICES + "vertex a;", 6, 58);
    badLoad(FIVE_VERTICES + "normal  vertex a;", 6, 58);
    ContractionCounter x = new ContractionCounter();
    due("outer ones are no vertices", load(x, FIVE_VERTICES + "normal outer a;outer a;outer a;"), 8);
    says("a 7th LETTER of a POINT, a 13th of all (at its L).");
    due("six", load(x, "field e pair;outer e' e' e' e' e' e';"), 6);
    badLoad("field e pair;outer e' e' e' e' e' e' e';", 6, 37);
    due("twelve", load(x, "field a real;outer a a a a a a;outer a a a a a a;"), 12);
    badLoad("field a real;outer a a a a a a;outer a a a a a;outer a a;", 6, 55);
    badLoad("field a real;outer a a a a a a;outer a a a a a a a;", 6, 49);
  }

  private static void anew() {
    says("load() makes all anew; WORTHS are 1.");
    ContractionCounter x = with(MIXED);
    x.worth(10, 7);
    x.worth(116, 7);
    due("the same again", load(x, MIXED), 4);
    due("worths", x.sum(), 3);
    refused("worths", x, () -> x.worth(10, 1), 4);
    due("another one", load(x, "field b real;field a real;outer a;outer b;"), 2);
    due("no mix of old", x.many(1) * 10 + x.many(5), 0);
    due("fields by their new numbers", x.field(0, 0), 2);
    due("nothing", load(x, ""), 0);
    due("no fields", x.many(0), 0);
    due("no points", x.many(2), 0);
    due("one pairing", x.many(5), 1);
    nothingStays();
  }

  /** Whatever was there, and was asked of it: what comes behind it is as in a new object. */
  private static void nothingStays() {
    String[] theories = {"", PHI, QED, MIXED, ODD, THREE, TURNED, TWELVE, SIX_FIELDS, EIGHT_POINTS, FIVE_VERTICES,
        TWELVE.replace("vertex", "outer"), "field p real;outer p p;", "field p real;outer p p;outer p p;",
        "field p real;outer p;outer p;", "field a pair odd;field p real;normal vertex a a' p;vertex p a' a;"};
    for (String first : theories) {
      ContractionCounter x = with(first);
      snapshot(x);
      for (String next : theories) {
        load(x, next);
        due(next + " behind others", snapshot(x), snapshot(with(next)));
        load(x, first);
        due(first + " behind " + next, snapshot(x), snapshot(with(first)));
      }
    }
  }

  private static void linkTexts() {
    says("PAIRS, LINES: texts likewise, of WORDS, NUMBERS (1 or 2 digits), the SIGNS - > ;");
    badPairs(PHI, "0'1;", 1, 1);
    badLines(PHI, "0-1p';", 1, 4);
    badPairs(PHI, "0-1:", 1, 3);
    badPairs(PHI, "0/", 1, 1);
    badPairs(PHI, "p-1;", 2, 0);
    badPairs(PHI, "0>1;", 2, 1);
    badLines(PHI, "0-1{;", 1, 3);
    says("PAIRS: {NUMBER - NUMBER ;} (numbers of LETTERS, one or two digits);");
    ContractionCounter x = with(TWELVE);
    due("one or two digits", pairs(x, "00-11;01-10;2-09;3-8;04-07;5-6;"), 10394);
    due("none, of letters", pairs(x, ""), -1);
    due("none, of letters", x.status(), 5);
    ContractionCounter none = new ContractionCounter();
    fine("none, of no letters", none, () -> none.pairs(0), 0);
    badPairs(PHI, ";", 2, 0);
    badPairs(PHI, "0;", 2, 1);
    badPairs(PHI, "0-;", 2, 2);
    badPairs(PHI, "0-1,", 1, 3);
    badPairs(PHI, "0-1", 2, 3);
    badPairs(PHI, "0-1;;", 2, 4);
    says("LINES of a DIAGRAM: {NUMBER SIGN NUMBER WORD ;}: FROM, TO (numbers of POINTS), SIGN - of a REAL, a MIXED one, "
        + "> of a PAIR, WORD the FIELD's letter, of a MIX both, as it was told.");
    ContractionCounter y = with("field a real;field b real;field e pair;mix b a;outer a a b e' e a;");
    due("one of each", lines(y, "0-0a;0-0ba;00>00e;"), 0);
    fine("none, of no letters", none, () -> none.lines(0), 0);
    badLines(PHI, ";", 2, 0);
    badLines(PHI, "0p;", 2, 1);
    badLines(PHI, "0-p;", 2, 2);
    badLines(PHI, "0-1;", 2, 3);
    badLines(PHI, "0-1p", 2, 4);
    badLines(PHI, "0-1p p;", 2, 5);
    says("Both may tell them in any order, PAIRS and REAL LINES either way round.");
    ContractionCounter four = with("field a real;field b real;field c real;field d real;mix a b;mix a c;mix a d;mix d c;"
        + "outer a d;outer c a;");
    due("8 117, of one point each", lines(four, "0-0ad;1-1ac;"), 0);
    due("10 19, the last mix", lines(four, "0-1dc;0-1a;"), 1);
    due("17 108, one falling", lines(four, "0-1ac;1-0ad;"), 2);
    due("17 108, the other one falling", lines(four, "1-0ac;0-1ad;"), -1);
    due("so that none has it", four.status(), 5);
    ContractionCounter z = with(QED);
    due("pairs", pairs(z, "7-5;6-3;4-2;1-0;"), 0);
    due("lines", lines(z, "2>3e;2-1p;1>2e;0>1e;"), 0);
    due("a pair's line leads one way", lines(z, "3>2e;2-1p;1>2e;0>1e;"), -1);
    due("so that none has it", z.status(), 5);
    ContractionCounter w = with(MIXED);
    due("a mix one way", lines(w, "2-1ba;1-0ba;"), 1);
    due("a mix the other way", lines(w, "1-2ba;1-0ba;"), -1);
    due("so that none has it", w.status(), 5);
  }

  private static void pairsFaults() {
    says("FAULTS: 1, 2 likewise (a NUMBER of three digits and more: 1);");
    badPairs(PHI, "000-1;", 1, 0);
    badPairs(PHI, "0-001;", 1, 2);
    badPairs(PHI, "0-1;" + "1".repeat(396), 1, 4);
    badLoad("p".repeat(400), 2, 0);
    badPairs(PHI, "0 100", 1, 2);
    badLines(PHI, "0-100p;", 1, 2);
    badLines(PHI, "0-1 100;", 1, 4);
    badPairs(PHI, "0", 2, 1);
    badPairs(PHI, "0-", 2, 2);
    badPairs(PHI, "0-1", 2, 3);
    badPairs(PHI, "0-1 \n", 2, 5);
    badLines(PHI, "0", 2, 1);
    badLines(PHI, "0-", 2, 2);
    badLines(PHI, "0 > ", 2, 4);
    badLines(PHI, "0-1", 2, 3);
    badLines(PHI, "0-1p", 2, 4);
    badLines(PHI, "0-1p;2", 2, 6);
    says("3 a NUMBER that is no LETTER, POINT, a WORD, of however many letters, that is no FIELD's, no MIX's (at it);");
    ContractionCounter x = with(PHI);
    due("the last letter", pairs(x, "5-0;4-1;3-2;"), 14);
    badPairs(PHI, "6-0;", 3, 0);
    badPairs(PHI, "0-06;", 3, 2);
    badPairs(PHI, "99-0;", 3, 0);
    badPairs(TWELVE, "12-0;", 3, 0);
    badPairs("", "0-1;", 3, 0);
    due("the last point", lines(x, "2-0p;1-1p;1-1p;"), 1);
    badLines(PHI, "3-0p;", 3, 0);
    badLines(PHI, "0-3p;", 3, 2);
    badLines(EIGHT_POINTS, "0-8a;", 3, 2);
    badLines("", "0-0p;", 3, 0);
    badLines(PHI, "0-1q;", 3, 3);
    badLines(PHI, "0-1pp;", 3, 3);
    badLines(MIXED, "2-0ab;", 3, 3);
    badLines(MIXED, "2-0bb;", 3, 3);
    badLines(MIXED, "2-0bab;", 3, 3);
    badLines(MIXED, "2-0" + "ba".repeat(190) + ";", 3, 3);
    badLines("field a real;field b real;outer a b;", "0-0ab;", 3, 3);
    says("4 two LETTERS that may not be PAIRED (at the second),");
    badPairs(QED, "0-2;", 4, 2);
    badPairs(QED, "1-04;", 4, 2);
    badPairs(QED, "0-3;", 4, 2);
    badPairs("field p real;normal outer p p;outer p p;", "1-0;", 4, 2);
    badPairs(PHI, "5 - 5;", 4, 4);
  }

  private static void linesFaults() {
    says("- of a PAIR, > of another one (at the WORD);");
    badLines(QED, "0-1e;", 4, 3);
    badLines(QED, "1>2p;", 4, 3);
    badLines(MIXED, "2>0ba;", 4, 3);
    badLines(MIXED, "2>0  a;", 4, 5);
    says("5 a LETTER told twice (at it);");
    badPairs(PHI, "0-1;0-2;", 5, 4);
    badPairs(PHI, "0-1;1-2;", 5, 4);
    badPairs(PHI, "0-1;2-00;", 5, 6);
    badPairs(PHI, "0-1;2-1;", 5, 6);
    badPairs(PHI, "0-1;2-3;4-5;5-4;", 5, 12);
    says("6 one more than half of the LETTERS (at its first NUMBER).");
    badPairs(THREE, "0-1; 2-1;", 6, 5);
    badPairs("field p real;outer p;", "0-0;", 6, 0);
    ContractionCounter x = with(QED);
    due("just half", lines(x, "0>1e;1>2e;1-2p;2>3e;"), 0);
    badLines(QED, "0>1e;1>2e;1-2p;2>3e; 0>1e;", 6, 21);
    badLines(QED, "0>1e;1>2e;1-2p;2>3e;0#", 6, 20);
    badLines(THREE, "0-0p;0-0p;", 6, 5);
    badLines(TWELVE, "0-0p;".repeat(7), 6, 30);
    badLines("field p real;outer p;", "0-0p;", 6, 0);
  }

  // ---- ==== 4: STATUS

  private static void statuses() {
    says("STATUS of a call is the first of these that holds:");
    ContractionCounter x = with(FIVE_VERTICES + "outer a;outer a;outer a;");
    refused("1 ahead of 2", x, () -> x.letter(99, 9), 1);
    refused("1 ahead of 2", x, () -> x.worth(-1, 10), 1);
    refused("1 ahead of 4", x, () -> x.ways(0, 0, 2), 1);
    refused("1 ahead of 5", x, () -> x.name(99, -1), 1);
    refused("2 ahead of 3", x, () -> x.copy(8), 2);
    refused("2 ahead of 4", x, () -> x.code(8, 8), 2);
    refused("2 ahead of 4", x, () -> x.move(8, 7), 2);
    refused("2 ahead of 5", x, () -> x.name(-1, 99), 2);
    refused("4 ahead of 5", x, () -> x.code(0, 0), 4);
    says("1 a number that can't be (below 0, too, of one that counts).");
    refused("a what", x, () -> x.many(13), 1);
    refused("one that counts", x, () -> x.partial(-1), 1);
    refused("one that counts", x, () -> x.by(0, -1), 1);
    refused("one that counts", x, () -> x.out(-1), 1);
    refused("one that counts", x, () -> x.load(-1), 1);
    says("2 no such LETTER, POINT, DIAGRAM, PAIRING, CODE.");
    refused("a letter", x, () -> x.letter(8, 0), 2);
    refused("a letter below 0", x, () -> x.letter(-1, 0), 2);
    refused("a point", x, () -> x.point(8, 0), 2);
    refused("a point below 0", x, () -> x.point(-1, 0), 2);
    int diagrams = x.many(6);
    refused("a diagram", x, () -> x.holds(diagrams), 2);
    refused("a diagram below 0", x, () -> x.holds(-1), 2);
    refused("a pairing", x, () -> x.pairing(105, 0), 2);
    refused("a pairing below 0", x, () -> x.pairing(-1, 0), 2);
    refused("a code", x, () -> x.worth(780, 2), 2);
    refused("a code below 0", x, () -> x.worth(-10, 2), 2);
    says("3 one too many.");
    refused("a ninth point", x, () -> x.copy(7), 3);
    says("4 it is so already.");
    refused("a place", x, () -> x.move(7, 7), 4);
    refused("not normal", x, () -> x.normal(0, false), 4);
    refused("a worth", x, () -> x.worth(0, 1), 4);
    says("5 there is none.");
    refused("a code of a name", x, () -> x.name(0, 4), 5);
    refused("a byte", x, () -> x.out(0), 5);
    says("9 a FAULT.");
    due("a text", load(x, "#"), -1);
    due("its status", x.status(), 9);
    says("0 else.");
    fine("all is well", x, () -> x.many(5), 105);
    says("The constants: `NONE = -1`: None.");
    due("NONE", ContractionCounter.NONE, -1);
  }

  private static void refusals() {
    says("With another STATUS than 0 a call gives NONE, and changes nothing else");
    ContractionCounter x = with(QED);
    x.worth(10, 2);
    x.worth(121, 3);
    x.worth(210, -5);
    x.print(1);
    due("on the tape", tell(x, "0-1;2-4;3-6;5-7;"), 20);
    Object[][] calls = {{"load", -1, 1}, {"load", 21, 1}, {"pairs", -1, 1}, {"pairs", 21, 1}, {"lines", -1, 1},
        {"lines", 21, 1}, {"drop", 4, 2}, {"drop", -1, 2}, {"swap", 7, 2}, {"swap", 0, 5}, {"copy", 4, 2},
        {"print", 4, 2}, {"printPairs", 6, 2}};
    for (Object[] call : calls) {
      refused(Arrays.toString(call), x, () -> oneNumber(x, (String) call[0], (int) call[1]), (int) call[2]);
    }
    refused("move", x, () -> x.move(0, 4), 1);
    refused("move", x, () -> x.move(4, 0), 2);
    refused("move", x, () -> x.move(1, 1), 4);
    refused("normal", x, () -> x.normal(4, true), 2);
    refused("normal", x, () -> x.normal(1, false), 4);
    refused("worth", x, () -> x.worth(10, 10), 1);
    refused("worth", x, () -> x.worth(48, 2), 2);
    refused("worth", x, () -> x.worth(10, 2), 4);
    due("the tape is still there", x.pairs(16), 0);
    ContractionCounter like = with("field p real;outer p p;");
    like.worth(0, 4);
    refused("swap of like ones", like, () -> like.swap(0), 4);
    due("the worth is still there", like.sum(), 4);
    ContractionCounter full = with(TWELVE);
    full.worth(10, 0);
    refused("copy of one too many", full, () -> full.copy(0), 3);
    says("(load(), pairs(), lines() with 9: but the tape and what fault() tells).");
    badLoad("field q real;field r real;outer q q;outer r r r", 2, 47);
    badLoad("field q real;outer q;mix q z;", 3, 27);
    badPairs(QED, "0-1;2-9;", 3, 6);
    badLines(QED, "0>1e;1>2e;1-2p;2>3x;", 3, 18);
    says("status(), feed(), fault() have none.");
    ContractionCounter y = with(PHI);
    y.drop(9);
    y.fault(9);
    due("fault", y.status(), 2);
    for (int k = 0; k < 21; k++) {
      y.feed(0, 0, 0, 0, 0);
      due("feed", y.status(), 2);
    }
    due("status", y.status(), 2);
  }

  private static int oneNumber(ContractionCounter x, String name, int number) {
    return switch (name) {
      case "load" -> x.load(number);
      case "pairs" -> x.pairs(number);
      case "lines" -> x.lines(number);
      case "drop" -> x.drop(number);
      case "swap" -> x.swap(number);
      case "copy" -> x.copy(number);
      case "print" -> x.print(number);
      default -> x.printPairs(number);
    };
  }
}
