import java.util.Arrays;

/**
 * A counter of contractions: pairs the letters of points in all lawful ways,
 * and sorts the ways into diagrams. ../shared/DOC.md says what each call does.
 */
public final class ContractionCounter {
    public static final int NONE = -1;

    private static final int MAX_BYTES = 400;
    private static final int MAX_FIELDS = 6;
    private static final int MAX_MIXES = 4;
    private static final int MAX_POINTS = 8;
    private static final int MAX_VERTICES = 5;
    private static final int MAX_ROW = 6;
    private static final int MAX_LETTERS = 12;
    private static final int MAX_LINES = 6;
    private static final int MAX_PAIRINGS = 10395;
    private static final int MAX_CHANGES = 120;
    private static final int MAX_WORTH = 9;
    private static final int CODES = 800;
    private static final int CODE_BITS = 10;
    private static final int CODE_MASK = 1023;
    private static final int FIRST_ROOM = 16;

    private static final int FINE = 0;
    private static final int WRONG_NUMBER = 1;
    private static final int NO_SUCH = 2;
    private static final int TOO_MANY = 3;
    private static final int ALREADY = 4;
    private static final int NOTHING = 5;
    private static final int FAULTY = 9;

    private final Tokens tokens;
    private final TheoryReader theoryReader;
    private final LinkReader linkReader;
    private final WayTable wayTable;
    private final PairingTable pairingTable;
    private final PairingTable subTable;
    private final DiagramTable diagramTable;
    private final Graph graph;
    private final Printer printer;
    private Theory theory;
    private Theory spare;
    private int latest;

    public ContractionCounter() {
        tokens = new Tokens();
        theoryReader = new TheoryReader();
        linkReader = new LinkReader();
        wayTable = new WayTable();
        pairingTable = new PairingTable();
        subTable = new PairingTable();
        diagramTable = new DiagramTable();
        graph = new Graph();
        printer = new Printer();
        theory = new Theory();
        spare = new Theory();
        latest = FINE;
    }

    public int status() {
        return latest;
    }

    public int feed(int a, int b, int c, int d, int e) {
        if (tokens.tapeLength > MAX_BYTES - 20) {
            return NONE;
        }
        tokens.append(a);
        tokens.append(b);
        tokens.append(c);
        tokens.append(d);
        tokens.append(e);
        return tokens.tapeLength;
    }

    public int load(int n) {
        if (!isOnTape(n)) {
            return refuse(WRONG_NUMBER);
        }
        tokens.begin(n, false);
        if (!theoryReader.readTheory(tokens, spare)) {
            return refuse(FAULTY);
        }
        Theory old = theory;
        theory = spare;
        spare = old;
        forgetAll();
        return answer(theory.letterCount);
    }

    public int pairs(int n) {
        if (!isOnTape(n)) {
            return refuse(WRONG_NUMBER);
        }
        tokens.begin(n, true);
        if (!linkReader.readPairs(tokens, theory)) {
            return refuse(FAULTY);
        }
        if (linkReader.told != theory.allLetters()) {
            return refuse(NOTHING);
        }
        int found = knownPairings().find(linkReader.mates);
        return found < 0 ? refuse(NOTHING) : answer(found);
    }

    public int lines(int n) {
        if (!isOnTape(n)) {
            return refuse(WRONG_NUMBER);
        }
        tokens.begin(n, true);
        if (!linkReader.readLines(tokens, theory)) {
            return refuse(FAULTY);
        }
        if (linkReader.count != theory.letterCount / 2) {
            return refuse(NOTHING);
        }
        int found = knownDiagrams().find(linkReader.sortedKey());
        return found < 0 ? refuse(NOTHING) : answer(found);
    }

    public int fault(int what) {
        if (what == 0) {
            return tokens.faultKind;
        }
        return what == 1 ? tokens.faultPlace : NONE;
    }

    // ---- what there is

    public int many(int what) {
        switch (what) {
            case 0:
                return answer(theory.fieldCount);
            case 1:
                return answer(theory.mixCount);
            case 2:
                return answer(theory.pointCount);
            case 3:
                return answer(theory.vertexCount());
            case 4:
                return answer(theory.letterCount);
            case 5:
                return answer(pairingCount());
            case 6:
                return answer(knownDiagrams().size);
            case 7:
                return answer(knownPairings().signs());
            case 8:
                return answer(knownDiagrams().linkedPairings());
            case 9:
                return answer(knownDiagrams().connectedPairings());
            case 10:
                return answer(knownPairings().tally(false, 0, false));
            case 11:
                return answer(knownDiagrams().linkedDiagrams());
            case 12:
                return answer(knownDiagrams().countWith(0, 1));
            default:
                return refuse(WRONG_NUMBER);
        }
    }

    public int letter(int i, int what) {
        if (what < 0 || what > 3) {
            return refuse(WRONG_NUMBER);
        }
        if (!theory.hasLetter(i)) {
            return refuse(NO_SUCH);
        }
        return answer(theory.letterFact(i, what));
    }

    public int field(int k, int what) {
        if (what < 0 || what > 2) {
            return refuse(WRONG_NUMBER);
        }
        if (k < 0 || k >= theory.fieldCount) {
            return refuse(NO_SUCH);
        }
        return answer(theory.fieldFact(k, what));
    }

    public int point(int p, int what) {
        if (what < 0 || what > 4) {
            return refuse(WRONG_NUMBER);
        }
        if (!theory.hasPoint(p)) {
            return refuse(NO_SUCH);
        }
        return answer(theory.pointFact(p, what));
    }

    public int code(int i, int j) {
        if (!theory.hasLetter(i) || !theory.hasLetter(j)) {
            return refuse(NO_SUCH);
        }
        if (i == j) {
            return refuse(ALREADY);
        }
        return theory.mayPair(i, j) ? answer(theory.codeOf(i, j)) : refuse(NOTHING);
    }

    // ---- what is changed

    public int drop(int p) {
        if (!theory.hasPoint(p)) {
            return refuse(NO_SUCH);
        }
        theory.removePoint(p);
        forgetAll();
        return answer(theory.pointCount);
    }

    public int move(int p, int place) {
        if (place < 0 || place >= theory.pointCount) {
            return refuse(WRONG_NUMBER);
        }
        if (!theory.hasPoint(p)) {
            return refuse(NO_SUCH);
        }
        if (p == place) {
            return refuse(ALREADY);
        }
        theory.shiftPoint(p, place);
        forgetAll();
        return answer(theory.firstLetter(place));
    }

    public int swap(int i) {
        if (!theory.hasLetter(i) || !theory.hasLetter(i + 1)) {
            return refuse(NO_SUCH);
        }
        boolean together = theory.home[i] == theory.home[i + 1];
        if (together && theory.kind[i] == theory.kind[i + 1]) {
            return refuse(ALREADY);
        }
        if (!together) {
            return refuse(NOTHING);
        }
        theory.exchangeLetters(i);
        forgetAll();
        return answer(knownPairings().signs());
    }

    public int normal(int p, boolean is) {
        if (!theory.hasPoint(p)) {
            return refuse(NO_SUCH);
        }
        if (theory.points[p].normal == is) {
            return refuse(ALREADY);
        }
        theory.setNormal(p, is);
        forgetAll();
        return answer(pairingCount());
    }

    public int copy(int p) {
        if (!theory.hasPoint(p)) {
            return refuse(NO_SUCH);
        }
        if (!theory.hasRoomForCopy(p)) {
            return refuse(TOO_MANY);
        }
        theory.copyPoint(p);
        forgetAll();
        return answer(theory.pointCount - 1);
    }

    public int worth(int code, int worth) {
        if (worth < -MAX_WORTH || worth > MAX_WORTH) {
            return refuse(WRONG_NUMBER);
        }
        if (!theory.hasCode(code)) {
            return refuse(NO_SUCH);
        }
        int old = theory.worths[code];
        if (old == worth) {
            return refuse(ALREADY);
        }
        theory.worths[code] = worth;
        return answer(old);
    }

    // ---- PAIRINGS

    public int mate(int k, int i) {
        if (!hasPairing(k) || !theory.hasLetter(i)) {
            return refuse(NO_SUCH);
        }
        return answer(knownPairings().mateOf(k, i));
    }

    public int pairing(int k, int what) {
        if (what < 0 || what > 4) {
            return refuse(WRONG_NUMBER);
        }
        if (!hasPairing(k)) {
            return refuse(NO_SUCH);
        }
        switch (what) {
            case 0:
                return answer(knownPairings().sign(k));
            case 1:
                return answer(knownPairings().crossings(k));
            case 2:
                return answer(knownRounds().holesOf(k));
            case 3:
                return answer(knownDiagrams().diagramOf(k));
            default:
                return answer(knownRounds().rounds(k));
        }
    }

    public int ways(int i, int j, int what) {
        if (what < 0 || what > 1) {
            return refuse(WRONG_NUMBER);
        }
        if (!theory.hasLetter(i) || !theory.hasLetter(j)) {
            return refuse(NO_SUCH);
        }
        if (i == j) {
            return refuse(ALREADY);
        }
        return answer(knownPairings().together(i, j, what == 1));
    }

    public int overlay(int k, int other, int what) {
        if (what < 0 || what > 1) {
            return refuse(WRONG_NUMBER);
        }
        if (!hasPairing(k) || !hasPairing(other)) {
            return refuse(NO_SUCH);
        }
        PairingTable table = knownPairings();
        return answer(what == 0 ? table.commonLines(k, other) : table.commonRings(k, other));
    }

    public int by(int what, int number) {
        if (what < 0 || what > 1 || number < 0) {
            return refuse(WRONG_NUMBER);
        }
        return answer(knownRounds().tally(what == 1, number, false));
    }

    public int signedBy(int what, int number) {
        if (what < 0 || what > 1 || number < 0) {
            return refuse(WRONG_NUMBER);
        }
        return answer(knownRounds().tally(what == 1, number, true));
    }

    public int partial(int k) {
        if (k < 0) {
            return refuse(WRONG_NUMBER);
        }
        return answer(k > MAX_LINES ? 0 : knownWays().withLines(k));
    }

    public int sub(int set, int what) {
        if (what < 0 || what > 3 || set < 0 || set > theory.allPoints()) {
            return refuse(WRONG_NUMBER);
        }
        if (what == 0) {
            return answer(knownWays().of(theory.lettersOf(set)));
        }
        if (what == 1) {
            return answer(pairingsOf(set).signs());
        }
        boolean onOuter = what == 2;
        if (set == theory.allPoints()) {
            DiagramTable table = knownDiagrams();
            return answer(onOuter ? table.linkedPairings() : table.connectedPairings());
        }
        return answer(countHanging(pairingsOf(set), set, onOuter));
    }

    public long sum() {
        latest = FINE;
        PairingTable table = knownPairings();
        long total = 0;
        for (int k = 0; k < table.size; k++) {
            total += worthOf(table, k);
        }
        return total;
    }

    // ---- DIAGRAMS

    public int diagram(int d, int what) {
        if (what < 0 || what > 10) {
            return refuse(WRONG_NUMBER);
        }
        if (!hasDiagram(d)) {
            return refuse(NO_SUCH);
        }
        return answer(knownDiagrams().fact(d, what));
    }

    public int name(int d, int k) {
        if (k < 0) {
            return refuse(WRONG_NUMBER);
        }
        if (!hasDiagram(d)) {
            return refuse(NO_SUCH);
        }
        if (k >= theory.letterCount / 2) {
            return refuse(NOTHING);
        }
        return answer(knownDiagrams().codeAt(d, k));
    }

    public int part(int d, int p) {
        if (!hasDiagram(d) || !theory.hasPoint(p)) {
            return refuse(NO_SUCH);
        }
        return answer(graphOf(d).reach(1 << p, theory.allPoints()));
    }

    public int far(int d, int p, int q) {
        if (!hasDiagram(d) || !theory.hasPoint(p) || !theory.hasPoint(q)) {
            return refuse(NO_SUCH);
        }
        int distance = graphOf(d).distance(p, q);
        return distance < 0 ? refuse(NOTHING) : answer(distance);
    }

    public int holds(int d) {
        if (!hasDiagram(d)) {
            return refuse(NO_SUCH);
        }
        return answer(graphOf(d).cutPoints());
    }

    public int ofDiagram(int d, int what, int number) {
        if (what < 0 || what > 1 || number < 0) {
            return refuse(WRONG_NUMBER);
        }
        if (!hasDiagram(d)) {
            return refuse(NO_SUCH);
        }
        PairingTable table = knownRounds();
        int count = 0;
        for (int k = 0; k < table.size; k++) {
            int has = what == 0 ? table.crossings(k) : table.holesOf(k);
            if (has == number && diagramTable.diagramOf(k) == d) {
                count++;
            }
        }
        return answer(count);
    }

    public long sumOf(int d) {
        if (!hasDiagram(d)) {
            return refuse(NO_SUCH);
        }
        latest = FINE;
        PairingTable table = knownPairings();
        long total = 0;
        for (int k = 0; k < table.size; k++) {
            if (diagramTable.diagramOf(k) == d) {
                total += worthOf(table, k);
            }
        }
        return total;
    }

    public int diagrams(int what, int number) {
        if (what < 0 || what > 4 || number < 0) {
            return refuse(WRONG_NUMBER);
        }
        return answer(knownDiagrams().countWith(what, number));
    }

    public int print(int d) {
        if (!hasDiagram(d)) {
            return refuse(NO_SUCH);
        }
        printer.clear();
        DiagramTable table = knownDiagrams();
        for (int k = 0; k < theory.letterCount / 2; k++) {
            printer.putLine(table.codeAt(d, k), theory);
        }
        return answer(printer.length);
    }

    public int printPairs(int k) {
        if (!hasPairing(k)) {
            return refuse(NO_SUCH);
        }
        printer.clear();
        for (int i = 0; i < theory.letterCount; i++) {
            int other = knownPairings().mateOf(k, i);
            if (i < other) {
                printer.putPair(i, other);
            }
        }
        return answer(printer.length);
    }

    public int out(int i) {
        if (i < 0) {
            return refuse(WRONG_NUMBER);
        }
        return i >= printer.length ? refuse(NOTHING) : answer(printer.bytes[i]);
    }

    public int core(int d, int what) {
        if (what < 0 || what > 2) {
            return refuse(WRONG_NUMBER);
        }
        if (!hasDiagram(d)) {
            return refuse(NO_SUCH);
        }
        Graph shape = graphOf(d);
        int left = shape.reach(theory.outerPoints(), theory.allPoints());
        if (what == 0) {
            return answer(Integer.bitCount(left));
        }
        return answer(what == 1 ? shape.linesWithin(left) : left);
    }

    // ---- what the calls share

    private int answer(int value) {
        latest = FINE;
        return value;
    }

    private int refuse(int why) {
        latest = why;
        return NONE;
    }

    private boolean isOnTape(int n) {
        return n >= 0 && n <= tokens.tapeLength;
    }

    private void forgetAll() {
        wayTable.ready = false;
        pairingTable.ready = false;
        pairingTable.roundsReady = false;
        diagramTable.ready = false;
    }

    private WayTable knownWays() {
        if (!wayTable.ready) {
            wayTable.fill(theory);
        }
        return wayTable;
    }

    private int pairingCount() {
        return knownWays().of(theory.allLetters());
    }

    private PairingTable knownPairings() {
        if (!pairingTable.ready) {
            pairingTable.fill(theory, knownWays(), theory.allLetters());
        }
        return pairingTable;
    }

    // Rounds are traced apart, for swap() needs none and may come often.
    private PairingTable knownRounds() {
        PairingTable table = knownPairings();
        if (!table.roundsReady) {
            table.traceRounds();
        }
        return table;
    }

    private DiagramTable knownDiagrams() {
        if (!diagramTable.ready) {
            diagramTable.build(theory, knownPairings());
        }
        return diagramTable;
    }

    private boolean hasPairing(int k) {
        return k >= 0 && k < pairingCount();
    }

    private boolean hasDiagram(int d) {
        return d >= 0 && d < knownDiagrams().size;
    }

    private Graph graphOf(int d) {
        graph.readName(knownDiagrams().nameOf(d), theory.letterCount / 2, theory.allPoints());
        return graph;
    }

    private PairingTable pairingsOf(int set) {
        if (set == theory.allPoints()) {
            return knownPairings();
        }
        subTable.fill(theory, knownWays(), theory.lettersOf(set));
        return subTable;
    }

    private int countHanging(PairingTable table, int set, boolean onOuter) {
        int outer = theory.outerPoints() & set;
        int count = 0;
        for (int k = 0; k < table.size; k++) {
            drawPairing(table, k, set);
            if (onOuter ? graph.reach(outer, set) == set : graph.partCount() == 1) {
                count++;
            }
        }
        return count;
    }

    private void drawPairing(PairingTable table, int k, int set) {
        graph.clear(set);
        for (int i = 0; i < theory.letterCount; i++) {
            if ((table.covered >> i & 1) != 0) {
                int other = table.mateOf(k, i);
                if (i < other) {
                    graph.addLine(theory.codeOf(i, other));
                }
            }
        }
    }

    private long worthOf(PairingTable table, int k) {
        long product = table.sign(k);
        for (int i = 0; i < theory.letterCount; i++) {
            int other = table.mateOf(k, i);
            if (i < other) {
                product *= theory.worths[theory.codeOf(i, other)];
            }
        }
        return product;
    }

    /** The number of the lowest bit of a set that has one. */
    private static int leastOf(int set) {
        return Integer.bitCount((set & -set) - 1);
    }

    private static int roomFor(int rows) {
        int room = FIRST_ROOM;
        for (int step = 0; step < 8 && room < rows; step++) {
            room *= 4;
        }
        return Math.min(room, MAX_PAIRINGS);
    }

    /** A row of letters; each is a kind: twice its field, and one more for a bar. */
    private static final class Point {
        private final int[] row = new int[MAX_ROW];
        private int size;
        private boolean vertex;
        private boolean normal;

        void begin(boolean isVertex, boolean isNormal) {
            size = 0;
            vertex = isVertex;
            normal = isNormal;
        }

        void addKind(int kind) {
            if (size < MAX_ROW) {
                row[size] = kind;
                size++;
            }
        }

        void become(Point other) {
            begin(other.vertex, other.normal);
            for (int i = 0; i < other.size; i++) {
                addKind(other.row[i]);
            }
        }

        boolean isAlike(Point other) {
            if (!vertex || !other.vertex || normal != other.normal || size != other.size) {
                return false;
            }
            for (int i = 0; i < size; i++) {
                if (row[i] != other.row[i]) {
                    return false;
                }
            }
            return true;
        }

        int orders() {
            int product = 1;
            for (int i = 0; i < size; i++) {
                int same = 1;
                for (int j = 0; j < i; j++) {
                    if (row[j] == row[i]) {
                        same++;
                    }
                }
                product *= same;
            }
            return product;
        }
    }

    /** Fields, mixes and points, and what follows from them for single letters. */
    private static final class Theory {
        private final int[] symbol = new int[MAX_FIELDS];
        private final boolean[] isPair = new boolean[MAX_FIELDS];
        private final boolean[] isOdd = new boolean[MAX_FIELDS];
        private final int[] mixFirst = new int[MAX_MIXES];
        private final int[] mixSecond = new int[MAX_MIXES];
        private final Point[] points = new Point[MAX_POINTS];
        private final int[] kind = new int[MAX_LETTERS];
        private final int[] home = new int[MAX_LETTERS];
        private final int[] partners = new int[MAX_LETTERS];
        private final int[] codes = new int[MAX_LETTERS * MAX_LETTERS];
        private final int[] worths = new int[CODES];
        private int fieldCount;
        private int mixCount;
        private int pointCount;
        private int letterCount;
        private int oddLetters;

        Theory() {
            for (int p = 0; p < MAX_POINTS; p++) {
                points[p] = new Point();
            }
        }

        void clear() {
            fieldCount = 0;
            mixCount = 0;
            pointCount = 0;
            renumber();
        }

        /** To be called behind each change of points: what is known of letters, and worths, go with it. */
        void renumber() {
            Arrays.fill(worths, 1);
            letterCount = 0;
            oddLetters = 0;
            for (int p = 0; p < pointCount; p++) {
                for (int i = 0; i < points[p].size && letterCount < MAX_LETTERS; i++) {
                    kind[letterCount] = points[p].row[i];
                    home[letterCount] = p;
                    if (isOdd[kind[letterCount] / 2]) {
                        oddLetters |= 1 << letterCount;
                    }
                    letterCount++;
                }
            }
            for (int i = 0; i < letterCount; i++) {
                partners[i] = 0;
                for (int j = 0; j < letterCount; j++) {
                    linkLetters(i, j);
                }
            }
        }

        private void linkLetters(int i, int j) {
            if (i == j || (home[i] == home[j] && points[home[i]].normal)) {
                return;
            }
            int own = kind[i] / 2;
            int other = kind[j] / 2;
            int mix = mixOf(own, other);
            if (mix >= 0) {
                setCode(i, j, mixFirst[mix] == own, MAX_FIELDS + mix);
            } else if (own == other && (!isPair[own] || kind[i] != kind[j])) {
                setCode(i, j, kind[i] < kind[j], own);
            }
        }

        private void setCode(int i, int j, boolean away, int sort) {
            partners[i] |= 1 << j;
            codes[i * MAX_LETTERS + j] = away
                    ? codeFor(home[i], home[j], sort)
                    : codeFor(home[j], home[i], sort);
        }

        boolean hasLetter(int i) {
            return i >= 0 && i < letterCount;
        }

        boolean hasPoint(int p) {
            return p >= 0 && p < pointCount;
        }

        boolean mayPair(int i, int j) {
            return (partners[i] >> j & 1) != 0;
        }

        int codeOf(int i, int j) {
            return codes[i * MAX_LETTERS + j];
        }

        int allLetters() {
            return (1 << letterCount) - 1;
        }

        int allPoints() {
            return (1 << pointCount) - 1;
        }

        int outerPoints() {
            int set = 0;
            for (int p = 0; p < pointCount; p++) {
                if (!points[p].vertex) {
                    set |= 1 << p;
                }
            }
            return set;
        }

        int vertexCount() {
            return pointCount - Integer.bitCount(outerPoints());
        }

        int lettersOf(int set) {
            int letters = 0;
            for (int i = 0; i < letterCount; i++) {
                if ((set >> home[i] & 1) != 0) {
                    letters |= 1 << i;
                }
            }
            return letters;
        }

        int letterFact(int i, int what) {
            switch (what) {
                case 0:
                    return kind[i] / 2;
                case 1:
                    return kind[i] % 2;
                case 2:
                    return home[i];
                default:
                    return Integer.bitCount(partners[i]);
            }
        }

        int fieldFact(int k, int what) {
            if (what == 0) {
                return symbol[k];
            }
            boolean is = what == 1 ? isPair[k] : isOdd[k];
            return is ? 1 : 0;
        }

        int pointFact(int p, int what) {
            switch (what) {
                case 0:
                    return points[p].size;
                case 1:
                    return points[p].vertex ? 1 : 0;
                case 2:
                    return points[p].normal ? 1 : 0;
                case 3:
                    return firstLetter(p);
                default:
                    return alikeUpTo(p, pointCount);
            }
        }

        int firstLetter(int p) {
            int ahead = 0;
            for (int q = 0; q < p; q++) {
                ahead += points[q].size;
            }
            return ahead;
        }

        int alikeUpTo(int p, int end) {
            int count = 0;
            for (int q = 0; q < end; q++) {
                if (points[p].isAlike(points[q])) {
                    count++;
                }
            }
            return count;
        }

        /** All orders of vertices that are alike, times all orders of like letters of a point. */
        int orders() {
            int product = 1;
            for (int p = 0; p < pointCount; p++) {
                product *= points[p].orders();
                if (points[p].vertex) {
                    product *= alikeUpTo(p, p + 1);
                }
            }
            return product;
        }

        int fieldOf(int letter) {
            for (int k = 0; k < fieldCount; k++) {
                if (symbol[k] == letter) {
                    return k;
                }
            }
            return NONE;
        }

        int mixOf(int one, int other) {
            for (int m = 0; m < mixCount; m++) {
                boolean told = mixFirst[m] == one && mixSecond[m] == other;
                if (told || (mixFirst[m] == other && mixSecond[m] == one)) {
                    return m;
                }
            }
            return NONE;
        }

        int mixOfLetters(int first, int second) {
            for (int m = 0; m < mixCount; m++) {
                if (symbol[mixFirst[m]] == first && symbol[mixSecond[m]] == second) {
                    return m;
                }
            }
            return NONE;
        }

        void addField(int letter, boolean pair, boolean odd) {
            if (fieldCount < MAX_FIELDS) {
                symbol[fieldCount] = letter;
                isPair[fieldCount] = pair;
                isOdd[fieldCount] = odd;
                fieldCount++;
            }
        }

        void addMix(int first, int second) {
            if (mixCount < MAX_MIXES) {
                mixFirst[mixCount] = first;
                mixSecond[mixCount] = second;
                mixCount++;
            }
        }

        boolean hasSort(int sort) {
            return sort < MAX_FIELDS ? sort < fieldCount : sort - MAX_FIELDS < mixCount;
        }

        boolean isRealSort(int sort) {
            return sort < MAX_FIELDS && !isPair[sort];
        }

        /** The code of a line; a real one goes from the lesser point. */
        int codeFor(int from, int to, int sort) {
            boolean turned = from > to && sort < MAX_FIELDS && !isPair[sort];
            return turned ? 100 * to + 10 * from + sort : 100 * from + 10 * to + sort;
        }

        boolean isPairSort(int sort) {
            return sort < MAX_FIELDS && isPair[sort];
        }

        boolean hasCode(int code) {
            if (code < 0 || code >= CODES) {
                return false;
            }
            int from = code / 100;
            int to = code / 10 % 10;
            int sort = code % 10;
            if (!hasPoint(from) || !hasPoint(to) || !hasSort(sort)) {
                return false;
            }
            return !isRealSort(sort) || from <= to;
        }

        void removePoint(int p) {
            shiftPoint(p, pointCount - 1);
            pointCount--;
            renumber();
        }

        void shiftPoint(int p, int place) {
            Point moved = points[p];
            for (int q = p; q < place; q++) {
                points[q] = points[q + 1];
            }
            for (int q = p; q > place; q--) {
                points[q] = points[q - 1];
            }
            points[place] = moved;
            renumber();
        }

        void exchangeLetters(int i) {
            Point owner = points[home[i]];
            int at = i - firstLetter(home[i]);
            if (at >= 0 && at + 1 < owner.size) {
                int first = owner.row[at];
                owner.row[at] = owner.row[at + 1];
                owner.row[at + 1] = first;
            }
            renumber();
        }

        void setNormal(int p, boolean is) {
            points[p].normal = is;
            renumber();
        }

        boolean hasRoomForCopy(int p) {
            if (pointCount >= MAX_POINTS || letterCount + points[p].size > MAX_LETTERS) {
                return false;
            }
            return !points[p].vertex || vertexCount() < MAX_VERTICES;
        }

        void copyPoint(int p) {
            if (pointCount < MAX_POINTS) {
                points[pointCount].become(points[p]);
                pointCount++;
            }
            renumber();
        }

        Point openPoint(boolean vertex, boolean normal) {
            int at = Math.min(pointCount, MAX_POINTS - 1);
            points[at].begin(vertex, normal);
            pointCount = at + 1;
            return points[at];
        }
    }

    /** The tape, the tokens of the text on it, and the first fault. */
    private static final class Tokens {
        private static final int END = 0;
        private static final int BAD = 1;
        private static final int WORD = 2;
        private static final int NUMBER = 3;
        private static final int SIGN = 4;

        private final int[] tape = new int[MAX_BYTES];
        private int tapeLength;
        private int length;
        private boolean numbers;
        private int start;
        private int end;
        private int token;
        private int value;
        private int faultKind = NONE;
        private int faultPlace = NONE;

        void append(int four) {
            for (int shift = 24; shift >= 0 && tapeLength < MAX_BYTES; shift -= 8) {
                tape[tapeLength] = four >> shift & 255;
                tapeLength++;
            }
        }

        void begin(int n, boolean withNumbers) {
            length = Math.min(n, tapeLength);
            numbers = withNumbers;
            tapeLength = 0;
            faultKind = 0;
            faultPlace = NONE;
            end = 0;
            advance();
        }

        void advance() {
            start = end;
            while (start < length && (tape[start] == 10 || tape[start] == 32)) {
                start++;
            }
            end = start;
            if (start >= length) {
                token = END;
            } else if (isSmall(tape[start])) {
                takeWord();
            } else if (numbers && isDigit(tape[start])) {
                takeNumber();
            } else {
                takeSign();
            }
        }

        private void takeWord() {
            while (end < length && isSmall(tape[end])) {
                end++;
            }
            token = WORD;
            value = tape[start] - 'a' + 1;
        }

        private void takeNumber() {
            value = 0;
            while (end < length && isDigit(tape[end])) {
                value = end - start < 2 ? value * 10 + tape[end] - '0' : value;
                end++;
            }
            token = end - start > 2 ? BAD : NUMBER;
        }

        private void takeSign() {
            value = tape[start];
            end = start + 1;
            boolean known = numbers ? value == '-' || value == '>' : value == '\'';
            token = known || value == ';' ? SIGN : BAD;
        }

        private static boolean isSmall(int b) {
            return b >= 'a' && b <= 'z';
        }

        private static boolean isDigit(int b) {
            return b >= '0' && b <= '9';
        }

        int size() {
            return end - start;
        }

        /** A letter of the word (a: 1), 0 beyond it. */
        int letterAt(int i) {
            return start + i < end ? tape[start + i] - 'a' + 1 : 0;
        }

        boolean isWord(String word) {
            if (token != WORD || size() != word.length()) {
                return false;
            }
            for (int i = 0; i < word.length(); i++) {
                if (tape[start + i] != word.charAt(i)) {
                    return false;
                }
            }
            return true;
        }

        boolean isSign(char sign) {
            return token == SIGN && value == sign;
        }

        boolean isSingle() {
            return token == WORD && size() == 1;
        }

        boolean passSign(char sign) {
            if (!isSign(sign)) {
                return misplaced();
            }
            advance();
            return true;
        }

        boolean misplaced() {
            return failAt(start, token == BAD ? 1 : 2);
        }

        boolean failHere(int fault) {
            return failAt(start, fault);
        }

        boolean failAt(int place, int fault) {
            faultKind = fault;
            faultPlace = place;
            return false;
        }
    }

    /** Reads a text of fields, mixes and points; each step says whether it went well. */
    private static final class TheoryReader {
        boolean readTheory(Tokens tokens, Theory theory) {
            theory.clear();
            boolean well = true;
            for (int line = 0; line < MAX_BYTES && well && tokens.token != Tokens.END; line++) {
                if (tokens.isWord("field")) {
                    well = readField(tokens, theory);
                } else if (tokens.isWord("mix")) {
                    well = readMix(tokens, theory);
                } else {
                    well = readPoint(tokens, theory);
                }
                well = well && tokens.passSign(';');
            }
            theory.renumber();
            return well;
        }

        private boolean readField(Tokens tokens, Theory theory) {
            if (theory.fieldCount >= MAX_FIELDS) {
                return tokens.failHere(6);
            }
            tokens.advance();
            if (!tokens.isSingle()) {
                return tokens.misplaced();
            }
            int letter = tokens.value;
            if (theory.fieldOf(letter) >= 0) {
                return tokens.failHere(5);
            }
            tokens.advance();
            boolean pair = tokens.isWord("pair");
            if (!pair && !tokens.isWord("real")) {
                return tokens.misplaced();
            }
            tokens.advance();
            boolean odd = tokens.isWord("odd");
            if (odd) {
                tokens.advance();
            }
            theory.addField(letter, pair, odd);
            return true;
        }

        private boolean readMix(Tokens tokens, Theory theory) {
            if (theory.mixCount >= MAX_MIXES) {
                return tokens.failHere(6);
            }
            tokens.advance();
            int first = readKnownField(tokens, theory);
            if (first < 0) {
                return false;
            }
            if (theory.isPair[first]) {
                return tokens.failHere(4);
            }
            tokens.advance();
            int second = readKnownField(tokens, theory);
            if (second < 0) {
                return false;
            }
            boolean unlike = theory.isPair[second] || theory.isOdd[first] != theory.isOdd[second];
            if (unlike || first == second || theory.mixOf(first, second) >= 0) {
                return tokens.failHere(4);
            }
            tokens.advance();
            theory.addMix(first, second);
            return true;
        }

        private int readKnownField(Tokens tokens, Theory theory) {
            if (!tokens.isSingle()) {
                tokens.misplaced();
                return NONE;
            }
            int known = theory.fieldOf(tokens.value);
            if (known < 0) {
                tokens.failHere(3);
            }
            return known;
        }

        private boolean readPoint(Tokens tokens, Theory theory) {
            int begun = tokens.start;
            boolean normal = tokens.isWord("normal");
            if (normal) {
                if (theory.pointCount >= MAX_POINTS) {
                    return tokens.failHere(6);
                }
                tokens.advance();
            }
            boolean vertex = tokens.isWord("vertex");
            if (!vertex && !tokens.isWord("outer")) {
                return tokens.misplaced();
            }
            boolean full = vertex && theory.vertexCount() >= MAX_VERTICES;
            if (full || theory.pointCount >= MAX_POINTS) {
                return tokens.failAt(begun, 6);
            }
            tokens.advance();
            return readRow(tokens, theory, theory.openPoint(vertex, normal));
        }

        private boolean readRow(Tokens tokens, Theory theory, Point point) {
            for (int i = 0; i <= MAX_ROW; i++) {
                if (i > 0 && tokens.isSign(';')) {
                    return true;
                }
                int known = readKnownField(tokens, theory);
                if (known < 0) {
                    return false;
                }
                if (i >= MAX_ROW || theory.letterCount >= MAX_LETTERS) {
                    return tokens.failHere(6);
                }
                tokens.advance();
                boolean bar = tokens.isSign('\'');
                if (bar) {
                    if (!theory.isPair[known]) {
                        return tokens.failHere(4);
                    }
                    tokens.advance();
                }
                point.addKind(2 * known + (bar ? 1 : 0));
                theory.letterCount++;
            }
            return true;
        }
    }

    /** Reads the texts of pairs and of lines. */
    private static final class LinkReader {
        private final int[] codes = new int[MAX_LINES];
        private long mates;
        private int told;
        private int count;

        boolean readPairs(Tokens tokens, Theory theory) {
            mates = 0;
            told = 0;
            count = 0;
            for (int line = 0; line < MAX_BYTES && tokens.token != Tokens.END; line++) {
                if (!readOnePair(tokens, theory)) {
                    return false;
                }
            }
            return true;
        }

        private boolean readOnePair(Tokens tokens, Theory theory) {
            if (!readNumber(tokens, theory.letterCount)) {
                return false;
            }
            int first = tokens.value;
            if ((told >> first & 1) != 0) {
                return tokens.failHere(5);
            }
            if (count >= theory.letterCount / 2) {
                return tokens.failHere(6);
            }
            tokens.advance();
            if (!tokens.passSign('-') || !readNumber(tokens, theory.letterCount)) {
                return false;
            }
            int second = tokens.value;
            if (!theory.mayPair(first, second)) {
                return tokens.failHere(4);
            }
            if ((told >> second & 1) != 0) {
                return tokens.failHere(5);
            }
            tokens.advance();
            told |= 1 << first | 1 << second;
            mates |= PairingTable.packed(first, second);
            count++;
            return tokens.passSign(';');
        }

        private boolean readNumber(Tokens tokens, int bound) {
            if (tokens.token != Tokens.NUMBER) {
                return tokens.misplaced();
            }
            return tokens.value < bound || tokens.failHere(3);
        }

        boolean readLines(Tokens tokens, Theory theory) {
            count = 0;
            for (int line = 0; line < MAX_BYTES && tokens.token != Tokens.END; line++) {
                if (!readOneLine(tokens, theory)) {
                    return false;
                }
            }
            return true;
        }

        private boolean readOneLine(Tokens tokens, Theory theory) {
            if (!readNumber(tokens, theory.pointCount)) {
                return false;
            }
            int from = tokens.value;
            if (count >= theory.letterCount / 2 || count >= MAX_LINES) {
                return tokens.failHere(6);
            }
            tokens.advance();
            boolean arrow = tokens.isSign('>');
            if (!arrow && !tokens.isSign('-')) {
                return tokens.misplaced();
            }
            tokens.advance();
            if (!readNumber(tokens, theory.pointCount)) {
                return false;
            }
            int to = tokens.value;
            tokens.advance();
            int sort = readSort(tokens, theory);
            if (sort < 0) {
                return false;
            }
            if (arrow != theory.isPairSort(sort)) {
                return tokens.failHere(4);
            }
            tokens.advance();
            codes[count] = theory.codeFor(from, to, sort);
            count++;
            return tokens.passSign(';');
        }

        private int readSort(Tokens tokens, Theory theory) {
            if (tokens.token != Tokens.WORD) {
                tokens.misplaced();
                return NONE;
            }
            int sort = NONE;
            if (tokens.size() == 1) {
                sort = theory.fieldOf(tokens.value);
            } else if (tokens.size() == 2) {
                int mix = theory.mixOfLetters(tokens.letterAt(0), tokens.letterAt(1));
                sort = mix < 0 ? NONE : MAX_FIELDS + mix;
            }
            if (sort < 0) {
                tokens.failHere(3);
            }
            return sort;
        }

        long sortedKey() {
            return DiagramTable.keyOf(codes, count);
        }
    }

    /** For each set of letters, in how many ways it may be paired. */
    private static final class WayTable {
        private final int[] table = new int[1 << MAX_LETTERS];
        private int letters;
        private boolean ready;

        void fill(Theory theory) {
            letters = theory.allLetters();
            table[0] = 1;
            for (int set = 1; set <= letters; set++) {
                int least = leastOf(set);
                int others = set & (set - 1);
                int choice = theory.partners[least] & others;
                int count = 0;
                for (int step = 0; step < MAX_LETTERS && choice != 0; step++) {
                    count += table[others & ~(choice & -choice)];
                    choice &= choice - 1;
                }
                table[set] = count;
            }
            ready = true;
        }

        int of(int set) {
            return set >= 0 && set <= letters ? table[set] : 0;
        }

        int withLines(int k) {
            int count = 0;
            for (int set = 0; set <= letters; set++) {
                if (Integer.bitCount(set) == 2 * k) {
                    count += table[set];
                }
            }
            return count;
        }
    }

    /** All pairings of a set of letters, in their order. */
    private static final class PairingTable {
        private static final int TURNED = 16;
        private static final int CROSSINGS = 15;
        private static final int ROUNDS_SHIFT = 5;
        private static final int TOP = 4 * (MAX_LETTERS - 1);

        private long[] mates = new long[FIRST_ROOM];
        private int[] facts = new int[FIRST_ROOM];
        private int size;
        private int covered;
        private int letterCount;
        private boolean ready;
        private boolean roundsReady;

        void fill(Theory theory, WayTable ways, int letters) {
            int room = roomFor(ways.of(letters));
            if (room > mates.length) {
                mates = new long[room];
                facts = new int[room];
            }
            size = 0;
            covered = letters;
            letterCount = theory.letterCount;
            extend(theory, ways, letters, 0L, 0, 0);
            ready = true;
            roundsReady = false;
        }

        private void extend(Theory theory, WayTable ways, int free, long row, int found, int depth) {
            if (free == 0) {
                store(row, found);
                return;
            }
            if (depth >= MAX_LINES) {
                return;
            }
            int i = leastOf(free);
            int choice = theory.partners[i] & free & (free - 1);
            for (int j = i + 1; j < letterCount; j++) {
                int left = free & ~(1 << i | 1 << j);
                // Without this look ahead, rows that end nowhere would be tried in vain.
                if ((choice >> j & 1) != 0 && ways.of(left) > 0) {
                    int next = withLine(theory, covered & ~free, i, j, found);
                    extend(theory, ways, left, row | packed(i, j), next, depth + 1);
                }
            }
        }

        /** Each taken letter between i and j is the end of a line from ahead of i: it crosses. */
        private static int withLine(Theory theory, int taken, int i, int j, int found) {
            int between = taken & ((1 << j) - 1) & ~((2 << i) - 1);
            int next = found + Integer.bitCount(between);
            if ((theory.oddLetters >> i & 1) == 0) {
                return next;
            }
            int turns = Integer.bitCount(between & theory.oddLetters) + theory.kind[i] % 2;
            return turns % 2 == 0 ? next : next ^ TURNED;
        }

        private void store(long row, int found) {
            if (size < mates.length) {
                mates[size] = row;
                facts[size] = found;
                size++;
            }
        }

        void traceRounds() {
            for (int k = 0; k < size; k++) {
                facts[k] = facts[k] & (TURNED | CROSSINGS) | countRounds(k) << ROUNDS_SHIFT;
            }
            roundsReady = true;
        }

        private int countRounds(int k) {
            int left = (1 << letterCount) - 1;
            int rings = 0;
            for (int ring = 0; ring < MAX_LETTERS && left != 0; ring++) {
                int at = leastOf(left);
                for (int step = 0; step < MAX_LETTERS && (left >> at & 1) != 0; step++) {
                    left &= ~(1 << at);
                    int next = mateOf(k, at) + 1;
                    at = next < letterCount ? next : 0;
                }
                rings++;
            }
            return rings;
        }

        /** Letter 0 stands highest, so that rows as numbers have the order of the pairings. */
        static long packed(int i, int j) {
            return (long) j << TOP - 4 * i | (long) i << TOP - 4 * j;
        }

        int mateOf(int k, int i) {
            return (int) (mates[k] >>> TOP - 4 * i) & 15;
        }

        int crossings(int k) {
            return facts[k] & CROSSINGS;
        }

        int sign(int k) {
            return (facts[k] & TURNED) == 0 ? 1 : -1;
        }

        int rounds(int k) {
            return facts[k] >> ROUNDS_SHIFT;
        }

        int holesOf(int k) {
            return letterCount == 0 ? 0 : (letterCount / 2 + 1 - rounds(k)) / 2;
        }

        int find(long row) {
            int low = 0;
            int high = size - 1;
            for (int step = 0; step < 32 && low <= high; step++) {
                int middle = (low + high) / 2;
                if (mates[middle] == row) {
                    return middle;
                }
                if (mates[middle] < row) {
                    low = middle + 1;
                } else {
                    high = middle - 1;
                }
            }
            return NONE;
        }

        int signs() {
            int total = 0;
            for (int k = 0; k < size; k++) {
                total += sign(k);
            }
            return total;
        }

        int together(int i, int j, boolean signed) {
            int total = 0;
            for (int k = 0; k < size; k++) {
                if (mateOf(k, i) == j) {
                    total += signed ? sign(k) : 1;
                }
            }
            return total;
        }

        /** How many pairings have so many crossings, or holes, or else their signs together. */
        int tally(boolean holes, int number, boolean signed) {
            int total = 0;
            for (int k = 0; k < size; k++) {
                if ((holes ? holesOf(k) : crossings(k)) == number) {
                    total += signed ? sign(k) : 1;
                }
            }
            return total;
        }

        int commonLines(int k, int other) {
            int ends = 0;
            for (int i = 0; i < letterCount; i++) {
                ends += mateOf(k, i) == mateOf(other, i) ? 1 : 0;
            }
            return ends / 2;
        }

        int commonRings(int k, int other) {
            int left = (1 << letterCount) - 1;
            int rings = 0;
            for (int ring = 0; ring < MAX_LETTERS && left != 0; ring++) {
                int at = leastOf(left);
                for (int step = 0; step < MAX_LETTERS && (left >> at & 1) != 0; step++) {
                    int across = mateOf(k, at);
                    left &= ~(1 << at | 1 << across);
                    at = mateOf(other, across);
                }
                rings++;
            }
            return rings;
        }
    }

    /** Which diagram a sorted row of codes is of: an open hash over rows packed into longs. */
    private static final class KeyTable {
        private static final long SPREAD = 0x9E3779B97F4A7C15L;

        private long[] keys = new long[2 * FIRST_ROOM];
        private int[] marks = new int[2 * FIRST_ROOM];
        private int slots = 2 * FIRST_ROOM;

        void clear(int expected) {
            slots = 2 * FIRST_ROOM;
            for (int step = 0; step < 10 && slots < expected + expected / 2; step++) {
                slots *= 2;
            }
            if (slots > keys.length) {
                int room = Math.max(slots, Math.min(4 * keys.length, 16384));
                keys = new long[room];
                marks = new int[room];
            }
            Arrays.fill(marks, 0);
        }

        /** The slot of the key, or the free one where it belongs. */
        private int slotOf(long key) {
            int at = (int) (key * SPREAD >>> 40) & slots - 1;
            for (int step = 0; step < slots && marks[at] != 0 && keys[at] != key; step++) {
                at = at + 1 & slots - 1;
            }
            return at;
        }

        int find(long key) {
            int at = slotOf(key);
            return keys[at] == key ? marks[at] - 1 : NONE;
        }

        void put(long key, int mark) {
            int at = slotOf(key);
            if (marks[at] == 0) {
                keys[at] = key;
                marks[at] = mark + 1;
            }
        }
    }

    /**
     * The diagrams of all pairings. They are kept as they were met; order and rank
     * lead from their numbers to those places and back.
     */
    private static final class DiagramTable {
        private static final int FIXED = 127;
        private static final int KNOWN = 128;
        private static final int LINKED = 256;
        private static final int PARTS_SHIFT = 9;
        private static final int LOOPS_SHIFT = 13;
        private static final int BRIDGES_SHIFT = 16;
        private static final int RINGS_SHIFT = 19;

        private final KeyTable keys = new KeyTable();
        private final Graph graph = new Graph();
        private final int[] changes = new int[MAX_CHANGES];
        private final int[] row = new int[MAX_LINES];
        private final int[] image = new int[MAX_LINES];
        private long[] names = new long[FIRST_ROOM];
        private int[] counts = new int[FIRST_ROOM];
        private int[] signs = new int[FIRST_ROOM];
        private int[] firsts = new int[FIRST_ROOM];
        private int[] traits = new int[FIRST_ROOM];
        private int[] order = new int[FIRST_ROOM];
        private int[] rank = new int[FIRST_ROOM];
        private int[] placeOf = new int[FIRST_ROOM];
        private int changeCount;
        private int lineCount;
        private int allPoints;
        private int outerPoints;
        private int orders;
        private int size;
        private boolean ready;

        void build(Theory theory, PairingTable pairings) {
            makeRoom(roomFor(pairings.size));
            lineCount = theory.letterCount / 2;
            allPoints = theory.allPoints();
            outerPoints = theory.outerPoints();
            orders = theory.orders();
            changeCount = 0;
            listChanges(theory, 0, 0, 0);
            keys.clear(pairings.size);
            size = 0;
            for (int k = 0; k < pairings.size; k++) {
                long key = rowOf(theory, pairings, k);
                int place = keys.find(key);
                if (place < 0) {
                    place = size;
                    open(theory, key, k);
                }
                placeOf[k] = place;
                counts[place]++;
                signs[place] += pairings.sign(k);
            }
            sortByName();
            ready = true;
        }

        private void makeRoom(int room) {
            if (room > names.length) {
                names = new long[room];
                counts = new int[room];
                signs = new int[room];
                firsts = new int[room];
                traits = new int[room];
                order = new int[room];
                rank = new int[room];
                placeOf = new int[room];
            }
        }

        /** A change of places: three bits for each point tell where it goes. */
        private void listChanges(Theory theory, int p, int used, int change) {
            if (p >= theory.pointCount) {
                if (changeCount < MAX_CHANGES) {
                    changes[changeCount] = change;
                    changeCount++;
                }
                return;
            }
            for (int q = 0; q < theory.pointCount; q++) {
                boolean fits = p == q || theory.points[p].isAlike(theory.points[q]);
                if (fits && (used >> q & 1) == 0) {
                    listChanges(theory, p + 1, used | 1 << q, change | q << 3 * p);
                }
            }
        }

        /** Leaves the codes of a pairing in the row, and answers their key. */
        private long rowOf(Theory theory, PairingTable pairings, int k) {
            int lines = 0;
            for (int i = 0; i < theory.letterCount && lines < MAX_LINES; i++) {
                int other = pairings.mateOf(k, i);
                if (i < other) {
                    row[lines] = theory.codeOf(i, other);
                    lines++;
                }
            }
            return keyOf(row, lines);
        }

        /** All rows of the new diagram become known at once, so each is made only once. */
        private void open(Theory theory, long key, int k) {
            long least = key;
            int fixed = 0;
            for (int c = 0; c < changeCount; c++) {
                long other = imageOf(theory, changes[c]);
                least = Math.min(least, other);
                fixed += other == key ? 1 : 0;
                keys.put(other, size);
            }
            names[size] = least;
            counts[size] = 0;
            signs[size] = 0;
            firsts[size] = k;
            traits[size] = fixed;
            size++;
        }

        private long imageOf(Theory theory, int change) {
            for (int i = 0; i < lineCount; i++) {
                int from = change >> 3 * (row[i] / 100) & 7;
                int to = change >> 3 * (row[i] / 10 % 10) & 7;
                image[i] = theory.codeFor(from, to, row[i] % 10);
            }
            return keyOf(image, lineCount);
        }

        /** Sorts the codes and packs them, the least highest: keys then compare as rows do. */
        static long keyOf(int[] codes, int count) {
            long key = 0;
            for (int i = 0; i < count; i++) {
                for (int j = i; j > 0 && codes[j] < codes[j - 1]; j--) {
                    int less = codes[j];
                    codes[j] = codes[j - 1];
                    codes[j - 1] = less;
                }
            }
            for (int i = 0; i < count; i++) {
                key = key << CODE_BITS | codes[i];
            }
            return key;
        }

        private void sortByName() {
            for (int i = 0; i < size; i++) {
                order[i] = i;
            }
            for (int root = size / 2 - 1; root >= 0; root--) {
                sink(root, size);
            }
            for (int end = size - 1; end > 0; end--) {
                int greatest = order[0];
                order[0] = order[end];
                order[end] = greatest;
                sink(0, end);
            }
            for (int d = 0; d < size; d++) {
                rank[order[d]] = d;
            }
        }

        private void sink(int root, int end) {
            int moved = order[root];
            int hole = root;
            int child = 2 * hole + 1;
            for (int step = 0; step < 32 && child < end; step++) {
                if (child + 1 < end && names[order[child]] < names[order[child + 1]]) {
                    child++;
                }
                if (names[order[child]] <= names[moved]) {
                    break;
                }
                order[hole] = order[child];
                hole = child;
                child = 2 * hole + 1;
            }
            order[hole] = moved;
        }

        int find(long key) {
            int place = keys.find(key);
            return place < 0 ? NONE : rank[place];
        }

        int diagramOf(int k) {
            return rank[placeOf[k]];
        }

        long nameOf(int d) {
            return names[order[d]];
        }

        int codeAt(int d, int k) {
            return (int) (nameOf(d) >>> CODE_BITS * (lineCount - 1 - k)) & CODE_MASK;
        }

        int fact(int d, int what) {
            int place = order[d];
            switch (what) {
                case 0:
                    return counts[place];
                case 1:
                    return signs[place];
                case 2:
                    return symmetry(place);
                case 3:
                    return shapeOf(place) >> PARTS_SHIFT & 15;
                case 4:
                    return (shapeOf(place) & LINKED) == 0 ? 0 : 1;
                case 5:
                    return shapeOf(place) >> LOOPS_SHIFT & 7;
                case 6:
                    return shapeOf(place) >> BRIDGES_SHIFT & 7;
                case 7:
                    return shapeOf(place) >> RINGS_SHIFT & 7;
                case 8:
                    return firsts[place];
                case 9:
                    return thickest(d);
                default:
                    return traits[place] & FIXED;
            }
        }

        private int symmetry(int place) {
            return counts[place] == 0 ? 0 : orders / counts[place];
        }

        private int partsOf(int place) {
            return shapeOf(place) >> PARTS_SHIFT & 15;
        }

        private boolean isLinked(int place) {
            return (shapeOf(place) & LINKED) != 0;
        }

        private int shapeOf(int place) {
            if ((traits[place] & KNOWN) == 0) {
                graph.readName(names[place], lineCount, allPoints);
                int parts = graph.partCount();
                int loops = lineCount + parts - Integer.bitCount(allPoints);
                int shape = KNOWN | parts << PARTS_SHIFT | loops << LOOPS_SHIFT;
                shape |= graph.bridges() << BRIDGES_SHIFT | graph.rings() << RINGS_SHIFT;
                if (graph.reach(outerPoints, allPoints) == allPoints) {
                    shape |= LINKED;
                }
                traits[place] |= shape;
            }
            return traits[place];
        }

        private int thickest(int d) {
            int most = 0;
            int same = 0;
            for (int k = 0; k < lineCount; k++) {
                same = k > 0 && codeAt(d, k) == codeAt(d, k - 1) ? same + 1 : 1;
                most = Math.max(most, same);
            }
            return most;
        }

        int linkedPairings() {
            int total = 0;
            for (int place = 0; place < size; place++) {
                total += isLinked(place) ? counts[place] : 0;
            }
            return total;
        }

        int connectedPairings() {
            int total = 0;
            for (int place = 0; place < size; place++) {
                total += partsOf(place) == 1 ? counts[place] : 0;
            }
            return total;
        }

        int linkedDiagrams() {
            int total = 0;
            for (int place = 0; place < size; place++) {
                total += isLinked(place) ? 1 : 0;
            }
            return total;
        }

        /** What counts as in diagrams(): parts, loops, bridges, rings, symmetry. */
        int countWith(int what, int number) {
            int total = 0;
            for (int d = 0; d < size; d++) {
                total += fact(d, factFor(what)) == number ? 1 : 0;
            }
            return total;
        }

        private static int factFor(int what) {
            switch (what) {
                case 0:
                    return 3;
                case 4:
                    return 2;
                default:
                    return what + 4;
            }
        }
    }

    /** Points, a set of bits, and the lines that hold them together. */
    private static final class Graph {
        private final int[] near = new int[MAX_POINTS];
        private final int[] from = new int[MAX_LINES];
        private final int[] to = new int[MAX_LINES];
        private int lineCount;
        private int present;

        void clear(int set) {
            present = set;
            lineCount = 0;
            Arrays.fill(near, 0);
        }

        void addLine(int code) {
            int begins = code / 100;
            int ends = code / 10 % 10;
            if (begins < MAX_POINTS && ends < MAX_POINTS && lineCount < MAX_LINES) {
                from[lineCount] = begins;
                to[lineCount] = ends;
                lineCount++;
                near[begins] |= 1 << ends;
                near[ends] |= 1 << begins;
            }
        }

        void readName(long name, int lines, int set) {
            clear(set);
            for (int k = lines - 1; k >= 0; k--) {
                addLine((int) (name >>> CODE_BITS * k) & CODE_MASK);
            }
        }

        private int nextTo(int set) {
            int found = 0;
            for (int p = 0; p < MAX_POINTS; p++) {
                if ((set >> p & 1) != 0) {
                    found |= near[p];
                }
            }
            return found;
        }

        /** All that hangs together with points of a set, over points of another set alone. */
        int reach(int seeds, int within) {
            int seen = seeds & within;
            int fresh = seen;
            for (int step = 0; step < MAX_POINTS && fresh != 0; step++) {
                fresh = nextTo(fresh) & within & ~seen;
                seen |= fresh;
            }
            return seen;
        }

        int partCount() {
            int left = present;
            int parts = 0;
            for (int step = 0; step < MAX_POINTS && left != 0; step++) {
                left &= ~reach(left & -left, present);
                parts++;
            }
            return parts;
        }

        int distance(int p, int q) {
            int seen = 1 << p;
            for (int steps = 0; steps < MAX_POINTS; steps++) {
                if ((seen >> q & 1) != 0) {
                    return steps;
                }
                seen |= nextTo(seen) & present;
            }
            return NONE;
        }

        int rings() {
            int count = 0;
            for (int k = 0; k < lineCount; k++) {
                count += from[k] == to[k] ? 1 : 0;
            }
            return count;
        }

        int bridges() {
            int count = 0;
            for (int k = 0; k < lineCount; k++) {
                if (from[k] != to[k] && !hasTwin(k)) {
                    near[from[k]] &= ~(1 << to[k]);
                    near[to[k]] &= ~(1 << from[k]);
                    boolean apart = (reach(1 << from[k], present) >> to[k] & 1) == 0;
                    near[from[k]] |= 1 << to[k];
                    near[to[k]] |= 1 << from[k];
                    count += apart ? 1 : 0;
                }
            }
            return count;
        }

        private boolean hasTwin(int k) {
            for (int j = 0; j < lineCount; j++) {
                boolean same = from[j] == from[k] && to[j] == to[k];
                boolean turned = from[j] == to[k] && to[j] == from[k];
                if (j != k && (same || turned)) {
                    return true;
                }
            }
            return false;
        }

        int cutPoints() {
            int cut = 0;
            for (int p = 0; p < MAX_POINTS; p++) {
                if ((present >> p & 1) != 0 && isCut(p)) {
                    cut |= 1 << p;
                }
            }
            return cut;
        }

        private boolean isCut(int p) {
            int others = reach(1 << p, present) & ~(1 << p);
            if (others == 0) {
                return false;
            }
            int held = reach(others & -others, present & ~(1 << p));
            return held != others;
        }

        int linesWithin(int set) {
            int count = 0;
            for (int k = 0; k < lineCount; k++) {
                count += set >> from[k] & set >> to[k] & 1;
            }
            return count;
        }
    }

    /** The text that was printed last. */
    private static final class Printer {
        private final int[] bytes = new int[8 * MAX_LINES];
        private int length;

        void clear() {
            length = 0;
        }

        private void put(int b) {
            if (length < bytes.length) {
                bytes[length] = b;
                length++;
            }
        }

        private void putNumber(int number) {
            if (number >= 10) {
                put('0' + number / 10);
            }
            put('0' + number % 10);
        }

        void putPair(int i, int j) {
            putNumber(i);
            put('-');
            putNumber(j);
            put(';');
        }

        void putLine(int code, Theory theory) {
            int sort = code % 10;
            putNumber(code / 100);
            put(theory.isPairSort(sort) ? '>' : '-');
            putNumber(code / 10 % 10);
            if (sort < MAX_FIELDS) {
                putSymbol(theory, sort);
            } else if (sort - MAX_FIELDS < MAX_MIXES) {
                putSymbol(theory, theory.mixFirst[sort - MAX_FIELDS]);
                putSymbol(theory, theory.mixSecond[sort - MAX_FIELDS]);
            }
            put(';');
        }

        private void putSymbol(Theory theory, int field) {
            put('a' - 1 + theory.symbol[field]);
        }
    }
}
