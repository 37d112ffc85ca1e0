/** Promises 37 to 46 at their bounds, and the bound of 512 calls: a sentence of the document, then what holds it. */
public final class BoundsWaysTest {
    private static final Check C = new Check();
    private static final int NONE = LineEnds.NONE;
    private static final int MAX = Integer.MAX_VALUE;
    private static final int MIN = Integer.MIN_VALUE;
    private static final int BILLION = 1_000_000_000;
    private static final int KINDS = 4;
    private static final int[] NO_KIND = {-1, 4, 5, MIN, MAX};

    private static final Scene NEW = Scene.fresh();
    private static final Scene NO_SIGNS = Scene.of("class a wide 4;", "");
    private static final Scene FORTY = Scene.of("class a wide 1;", "a".repeat(40)).withWidth(80);
    private static final Scene FOUR = Scene.of("class a wide 4 squeeze 1 rank 3;class b wide 5 squeeze 3 rank 1 open 1 rank 2;", "bbbbbab").withWidth(11);
    private static final Scene BUSY = Scene.busy();

    public static void main(String[] args) {
        ways();
        waysMost();
        fewest();
        way();
        wayNone();
        worst();
        costMarked();
        costBy();
        widthFor();
        bestWidth();
        atEnds();
        count();
        countNone();
        countStretch();
        calls();
        C.end();
    }

    private static Scene ofA(int signs, int wide, int width) {
        return Scene.of("class a wide " + wide + ";", "a".repeat(signs)).withWidth(width);
    }

    private static void ways() {
        C.sentence("37 WAYS: how many; 0 without SIGNS");
        NEW.stays(C, "a new object", 0, LineEnds::ways);
        NO_SIGNS.stays(C, "no SIGNS", 0, LineEnds::ways);
        ofA(1, 4, 4).stays(C, "one SIGN", 1, LineEnds::ways);
        ofA(1, 5, 4).stays(C, "one SIGN TOO LONG", 0, LineEnds::ways);
        C.due("none any more", 0, ofA(1, 4, 4).then(LineEnds::ways, x -> x.delete(0, 1) ? 1 : 0).ask(LineEnds::ways));
        int[] wants = {1, 2, 3, 5, 8, 13, 21};
        for (int i = 0; i < wants.length; i++) {
            C.due((i + 1) + " SIGNS, two a LINE at most", wants[i], ofA(i + 1, 2, 4).ask(LineEnds::ways));
        }
        C.due("40 SIGNS, one a LINE", 1, ofA(40, 4, 4).ask(LineEnds::ways));
        C.due("40 SIGNS, two a LINE at most", 165_580_141, ofA(40, 2, 4).ask(LineEnds::ways));
    }

    private static void waysMost() {
        C.sentence("37 how many, at most 1,000,000,000 are told");
        FORTY.stays(C, "2 to the 39th", BILLION, LineEnds::ways);
        for (int n = 1; n <= 40; n++) {
            long all = 1L << n - 1;
            C.due("2 to the " + (n - 1) + "th", Math.min(all, BILLION), ofA(n, 1, 80).ask(LineEnds::ways));
        }
        Scene just = Scene.of("class a wide 3;class b wide 1;", "a".repeat(24) + "b".repeat(10)).withMarks("00000001".repeat(3)).withWidth(18);
        just.stays(C, "125 * 125 * 125 * 512, just so many", BILLION, LineEnds::ways);
        C.due("the LINES of the last of them, 6 and 2 SIGNS thrice, 10", 7, just.ask(x -> x.way(BILLION - 1, NONE)));
        C.due("one more", -2, just.ask(x -> x.way(BILLION, NONE)));
        C.due("125 * 125 * 125 * 256", 500_000_000, just.then(x -> x.delete(33, 1) ? 1 : 0).ask(LineEnds::ways));
        C.due("125 * 125 * 125 * 511", 998_046_875, Scene.of("class a wide 3;class b wide 2;", "a".repeat(24) + "b".repeat(10)).withMarks("00000001".repeat(3))
            .withWidth(18).ask(LineEnds::ways));
        C.due("125 * 125 * 125 * 1024", BILLION, just.then(x -> x.insert(33, 1) ? 1 : 0).ask(LineEnds::ways));
        C.due("2 to the 32nd, an int's 0", BILLION, ofA(33, 1, 80).ask(LineEnds::ways));
        C.due("2 to the 31st, an int's least", BILLION, ofA(32, 1, 80).ask(LineEnds::ways));
    }

    private static void fewest() {
        C.sentence("38 The fewest LINES of a WAY; -2: there is none");
        NEW.stays(C, "a new object", -2, LineEnds::fewest);
        NO_SIGNS.stays(C, "no SIGNS", -2, LineEnds::fewest);
        ofA(1, 4, 4).stays(C, "one SIGN", 1, LineEnds::fewest);
        ofA(1, 5, 4).stays(C, "one SIGN TOO LONG", -2, LineEnds::fewest);
        FORTY.stays(C, "40 SIGNS in one LINE", 1, LineEnds::fewest);
        C.due("40 SIGNS in 40 LINES", 40, ofA(40, 4, 4).ask(LineEnds::fewest));
        C.due("40 SIGNS in 20 LINES", 20, ofA(40, 2, 4).ask(LineEnds::fewest));
        C.due("41 of them less 1", 21, ofA(40, 2, 4).withMarks("1").ask(LineEnds::fewest));
        C.due("no LEGAL ends", -2, ofA(3, 4, 8).withMarks("22").ask(LineEnds::fewest));
        C.due("the last one is LEGAL", 1, ofA(3, 4, 12).withMarks("222").ask(LineEnds::fewest));
        C.due("squeezed as BEST ones aren't", 2, FOUR.ask(LineEnds::fewest));
        C.due("the last SIGN TOO LONG", -2, Scene.of("class a wide 4;class w wide 9;", "aaw").withWidth(8).ask(LineEnds::fewest));
    }

    private static void way() {
        C.sentence("39 Of the k-th WAY (from 0 on) the i-th end (SIGN), i NONE: how many LINES");
        Scene x = ofA(3, 4, 8);
        int[][] wants = {{0, 1, 2}, {0, 2}, {1, 2}};
        for (int k = 0; k < wants.length; k++) {
            int way = k;
            x.stays(C, "way(" + k + ", NONE)", wants[k].length, y -> y.way(way, NONE));
            for (int n = 0; n <= wants[k].length; n++) {
                int i = n;
                x.stays(C, "way(" + k + ", " + i + ")", i < wants[k].length ? wants[k][i] : -2, y -> y.way(way, i));
            }
        }
        C.due("the only SIGN", 0, ofA(1, 4, 4).ask(y -> y.way(0, 0)));
        C.due("the only SIGN, LINES", 1, ofA(1, 4, 4).ask(y -> y.way(0, NONE)));
        C.due("40 LINES", 40, FORTY.ask(y -> y.way(0, NONE)));
        C.due("the 40th of them", 39, FORTY.ask(y -> y.way(0, 39)));
        C.due("39 LINES", 39, FORTY.ask(y -> y.way(1, NONE)));
        C.due("a LINE of two at the end", 39, FORTY.ask(y -> y.way(1, 38)));
        C.sentence("39 -2: there are not so many LINES");
        x.stays(C, "way(0, 3)", -2, y -> y.way(0, 3));
        x.stays(C, "way(2, 2)", -2, y -> y.way(2, 2));
        x.stays(C, "way(0, most)", -2, y -> y.way(0, MAX));
        C.due("the 41st", -2, FORTY.ask(y -> y.way(0, 40)));
        C.sentence("39 -2: there are not so many WAYS (all of them, not just those that are told)");
        x.stays(C, "way(3, NONE)", -2, y -> y.way(3, NONE));
        x.stays(C, "way(3, 0)", -2, y -> y.way(3, 0));
        x.stays(C, "way(most, NONE)", -2, y -> y.way(MAX, NONE));
        Scene many = ofA(31, 1, 80);
        for (int k : new int[] {0, 1, BILLION - 1, BILLION, BILLION + 1, (1 << 30) - 1}) {
            holdBinary(many, 31, k);
        }
        C.due("one behind 2 to the 30th", -2, many.ask(y -> y.way(1 << 30, NONE)));
        C.due("one behind 2 to the 30th", -2, many.ask(y -> y.way(1 << 30, 0)));
        holdBinary(ofA(32, 1, 80), 32, MAX);
        holdBinary(FORTY, 40, MAX);
        C.due("2 to the 31st less 1 of so many", 1, ofA(32, 1, 80).ask(y -> y.way(MAX, NONE)));
    }

    /** Where all ends are LEGAL and no LINE is TOO LONG, a WAY's number has a 0 for each end, the first SIGN's highest. */
    private static void holdBinary(Scene scene, int signs, int k) {
        LineEnds x = scene.made();
        int found = 0;
        for (int end = 0; end < signs; end++) {
            boolean ends = end == signs - 1 || ((long) k >> signs - 2 - end & 1) == 0;
            if (ends) {
                C.due("way(" + k + ", " + found + ") of " + signs, end, x.way(k, found));
                found++;
            }
        }
        C.due("way(" + k + ", NONE) of " + signs, found, x.way(k, NONE));
        C.due("way(" + k + ", " + found + ") of " + signs, -2, x.way(k, found));
    }

    private static void wayNone() {
        C.sentence("39 NONE: k below 0, i below NONE");
        Scene x = ofA(3, 4, 8);
        for (int k : new int[] {-1, -2, MIN}) {
            for (int i : new int[] {NONE, 0, 9, -2, MAX, MIN}) {
                x.stays(C, "way(" + k + ", " + i + ")", NONE, y -> y.way(k, i));
                C.due("way(" + k + ", " + i + ") of a new object", NONE, NEW.ask(y -> y.way(k, i)));
            }
        }
        for (int i : new int[] {-2, -3, MIN}) {
            for (int k : new int[] {0, 2, 3, MAX}) {
                x.stays(C, "way(" + k + ", " + i + ")", NONE, y -> y.way(k, i));
                C.due("way(" + k + ", " + i + ") of a new object", NONE, NEW.ask(y -> y.way(k, i)));
            }
        }
        C.due("way(0, NONE) of a new object", -2, NEW.ask(y -> y.way(0, NONE)));
        C.due("way(0, 0) of a new object", -2, NEW.ask(y -> y.way(0, 0)));
        C.due("way(0, 0) where there is none", -2, ofA(1, 5, 4).ask(y -> y.way(0, 0)));
    }

    private static void worst() {
        C.sentence("40 The SIGN without which BEST LINES' COST were least, of several the first");
        Scene x = Scene.of("class a wide 4;class w wide 9;", "aawaaw").withWidth(8);
        x.stays(C, "of two the first", 2, LineEnds::worst);
        C.due("the first SIGN", 0, Scene.of("class a wide 4;class w wide 9;", "waa").withWidth(8).ask(LineEnds::worst));
        C.due("the last SIGN", 2, Scene.of("class a wide 4;class w wide 9;", "aaw").withWidth(8).ask(LineEnds::worst));
        C.due("all are alike", 0, ofA(5, 4, 8).ask(LineEnds::worst));
        C.due("the only one", 0, ofA(1, 4, 8).ask(LineEnds::worst));
        C.due("the only one TOO LONG", 0, ofA(1, 9, 8).ask(LineEnds::worst));
        C.due("the 40th", 39, Scene.of("class a wide 2;class w wide 9;", "a".repeat(39) + "w").withWidth(4).ask(LineEnds::worst));
        C.due("its MARK goes, too", 1, ofA(4, 2, 8).withMarks("01").ask(LineEnds::worst));
        BUSY.stays(C, "nothing goes", BUSY.ask(LineEnds::worst), LineEnds::worst);
        C.sentence("40 -2: there are no SIGNS");
        NEW.stays(C, "a new object", -2, LineEnds::worst);
        NO_SIGNS.stays(C, "no SIGNS", -2, LineEnds::worst);
    }

    private static void costMarked() {
        C.sentence("41 COST of BEST LINES, were a SIGN's MARK so (0 .. 2)");
        Scene x = ofA(5, 4, 8).withMarks("001");
        int[][] wants = {{40, 40, 40}, {40, 40, 40}, {0, 40, 0}, {40, 80, 40}, {40, 40, 40}};
        for (int n = 0; n < 15; n++) {
            int i = n / 3;
            int mark = n % 3;
            x.stays(C, "costMarked(" + i + ", " + mark + ")", wants[i][mark], y -> y.costMarked(i, mark));
            C.due("its MARK made so", wants[i][mark], x.then(y -> y.mark(i, mark)).ask(y -> y.lines(1, 1)));
        }
        C.due("the only one", 0, ofA(1, 4, 8).ask(y -> y.costMarked(0, 1)));
        C.due("the 40th", 0, FORTY.ask(y -> y.costMarked(39, 2)));
        C.due("the 39th", 410, FORTY.ask(y -> y.costMarked(38, 1)));
        C.sentence("41 NONE: no such ones");
        for (int mark : new int[] {-1, 3, MIN, MAX}) {
            x.stays(C, "costMarked(0, " + mark + ")", NONE, y -> y.costMarked(0, mark));
        }
        for (int i : new int[] {-1, 5, 6, 40, MIN, MAX}) {
            for (int mark = 0; mark <= 2; mark++) {
                int to = mark;
                x.stays(C, "costMarked(" + i + ", " + mark + ")", NONE, y -> y.costMarked(i, to));
            }
        }
        C.due("a 41st", NONE, FORTY.ask(y -> y.costMarked(40, 0)));
        C.due("no SIGNS", NONE, NO_SIGNS.ask(y -> y.costMarked(0, 0)));
        C.due("a new object", NONE, NEW.ask(y -> y.costMarked(0, 0)));
    }

    private static void costBy() {
        C.sentence("42 COST of BEST LINES, were WIDTH another one (4 .. 80)");
        Scene x = ofA(4, 4, 8);
        int[] wants = {0, 30, 60, 90, 0, 10, 20, 30, 0, 10, 20, 30, 0};
        for (int n = 4; n <= 80; n++) {
            int width = n;
            C.due("costBy(" + width + ")", width <= 16 ? wants[width - 4] : 0, x.ask(y -> y.costBy(width)));
        }
        x.stays(C, "costBy(4)", 0, y -> y.costBy(4));
        x.stays(C, "costBy(80)", 0, y -> y.costBy(80));
        x.stays(C, "costBy(8), as it is", 0, y -> y.costBy(8));
        x.stays(C, "costBy(5)", 30, y -> y.costBy(5));
        C.due("80 is as wide as it goes", 0, ofA(40, 2, 8).ask(y -> y.costBy(80)));
        C.due("79 isn't wide enough", 10, ofA(40, 2, 8).ask(y -> y.costBy(79)));
        C.due("4 is TOO LONG", 40 * 1000, ofA(40, 5, 8).ask(y -> y.costBy(4)));
        NEW.stays(C, "costBy(4) of a new object", 0, y -> y.costBy(4));
        C.due("costBy(80) of no SIGNS", 0, NO_SIGNS.ask(y -> y.costBy(80)));
        C.sentence("42 NONE: others");
        for (int width : new int[] {3, 81, 0, -1, MIN, MAX}) {
            x.stays(C, "costBy(" + width + ")", NONE, y -> y.costBy(width));
            NEW.stays(C, "costBy(" + width + ") of a new object", NONE, y -> y.costBy(width));
        }
    }

    private static void widthFor() {
        C.sentence("43 The least WIDTH (4 .. 80) by which BEST LINES are n (1 on) at most");
        Scene x = ofA(4, 4, 5);
        int[] wants = {16, 8, 8, 4, 4};
        for (int k = 1; k <= 5; k++) {
            int n = k;
            x.stays(C, "widthFor(" + n + ")", wants[n - 1], y -> y.widthFor(n));
        }
        x.stays(C, "widthFor(most)", 4, y -> y.widthFor(MAX));
        C.due("80", 80, ofA(40, 2, 8).ask(y -> y.widthFor(1)));
        C.due("4, TOO LONG", 4, ofA(1, 9, 8).ask(y -> y.widthFor(1)));
        C.due("40 LINES at 4", 4, ofA(40, 9, 8).ask(y -> y.widthFor(40)));
        C.due("39 LINES, two SIGNS a LINE", 18, ofA(40, 9, 8).ask(y -> y.widthFor(39)));
        C.sentence("43 -2: by none");
        C.due("81 were", -2, ofA(9, 9, 8).ask(y -> y.widthFor(1)));
        C.due("two LINES", 45, ofA(9, 9, 8).ask(y -> y.widthFor(2)));
        C.due("a MARK 1", -2, x.withMarks("1").ask(y -> y.widthFor(1)));
        x.withMarks("1").stays(C, "a MARK 1", -2, y -> y.widthFor(1));
        C.due("a MARK 1 at the last", 16, x.withMarks("0001").ask(y -> y.widthFor(1)));
        C.sentence("43 -2: no SIGNS");
        NEW.stays(C, "widthFor(1) of a new object", -2, y -> y.widthFor(1));
        NO_SIGNS.stays(C, "widthFor(most) of no SIGNS", -2, y -> y.widthFor(MAX));
        C.sentence("43 NONE: n below 1");
        for (int n : new int[] {0, -1, MIN}) {
            x.stays(C, "widthFor(" + n + ")", NONE, y -> y.widthFor(n));
            NEW.stays(C, "widthFor(" + n + ") of a new object", NONE, y -> y.widthFor(n));
        }
    }

    private static void bestWidth() {
        C.sentence("44 The WIDTH (4 .. 80) with the least COST of BEST LINES, of several the least");
        ofA(4, 4, 20).stays(C, "4, of several the least", 4, LineEnds::bestWidth);
        C.due("5", 5, ofA(4, 5, 20).ask(LineEnds::bestWidth));
        C.due("80", 80, Scene.of("class w wide 9 shy end;class v wide 8;", "wwwwwwwwv").ask(LineEnds::bestWidth));
        C.due("79", 79, Scene.of("class w wide 9 shy end;class v wide 7;", "wwwwwwwwv").ask(LineEnds::bestWidth));
        C.due("81 is none", 45, Scene.of("class w wide 9 shy end;", "wwwwwwwww").ask(LineEnds::bestWidth));
        C.due("one SIGN", 9, ofA(1, 9, 4).ask(LineEnds::bestWidth));
        C.due("one SIGN", 4, ofA(1, 1, 80).ask(LineEnds::bestWidth));
        NEW.stays(C, "without SIGNS", 4, LineEnds::bestWidth);
        BUSY.stays(C, "WIDTH stays", BUSY.ask(LineEnds::bestWidth), LineEnds::bestWidth);
    }

    private static void atEnds() {
        C.sentence("45 How many LINES of a kind begin (end false), end with a SIGN of a CLASS");
        int[][] wants = {{1, 0, 1, 2}, {1, 0, 2, 3}, {0, 1, 4, 3}, {0, 0, 3, 3}};
        for (int k = 0; k < KINDS; k++) {
            int kind = k;
            FOUR.stays(C, "atEnds(" + kind + ", a, false)", wants[kind][0], x -> x.atEnds(kind, 0, false));
            FOUR.stays(C, "atEnds(" + kind + ", a, true)", wants[kind][1], x -> x.atEnds(kind, 0, true));
            FOUR.stays(C, "atEnds(" + kind + ", b, false)", wants[kind][2], x -> x.atEnds(kind, 1, false));
            FOUR.stays(C, "atEnds(" + kind + ", b, true)", wants[kind][3], x -> x.atEnds(kind, 1, true));
            C.due("40 LINES begin", 40, ofA(40, 4, 4).ask(x -> x.atEnds(kind, 0, false)));
            C.due("40 LINES end", 40, ofA(40, 4, 4).ask(x -> x.atEnds(kind, 0, true)));
            C.due("no SIGNS", 0, NO_SIGNS.ask(x -> x.atEnds(kind, 0, true)));
            C.due("the CLASS z", 1, Scene.of("class z wide 4;", "z").ask(x -> x.atEnds(kind, 25, true)));
            C.sentence("45 NONE: no such ones");
            for (int letter : new int[] {-1, 2, 25, 26, MIN, MAX}) {
                FOUR.stays(C, "atEnds(" + kind + ", " + letter + ", true)", NONE, x -> x.atEnds(kind, letter, true));
                FOUR.stays(C, "atEnds(" + kind + ", " + letter + ", false)", NONE, x -> x.atEnds(kind, letter, false));
            }
            C.due("a new object", NONE, NEW.ask(x -> x.atEnds(kind, 0, true)));
        }
        for (int kind : NO_KIND) {
            FOUR.stays(C, "atEnds(" + kind + ", b, true)", NONE, x -> x.atEnds(kind, 1, true));
            FOUR.stays(C, "atEnds(" + kind + ", b, false)", NONE, x -> x.atEnds(kind, 1, false));
        }
    }

    private static void count() {
        C.sentence("46 0 CLASSES, 1 PAIRS, 2 SIGNS, 3 WIDTH, 4 ACTS that can be undone, 5 bytes of the tape, 8, 9, 10 WEIGHTS 0, 1, 2, 11, 12 SIGNS with MARK 1, 2");
        int[] busy = {4, 3, 12, 11, 8, 7, 0, 0, 3, 7, 500, 1, 1};
        for (int what : new int[] {0, 1, 2, 3, 4, 5, 8, 9, 10, 11, 12}) {
            BUSY.said("abc def").stays(C, "count(" + what + ")", busy[what], x -> x.count(what));
        }
        C.due("500 bytes", 500, BUSY.said("x".repeat(500)).ask(x -> x.count(5)));
        C.due("40 SIGNS", 40, FORTY.ask(x -> x.count(2)));
        C.due("40 with MARK 1", 40, FORTY.withMarks("1".repeat(40)).ask(x -> x.count(11)));
        C.due("40 with MARK 2", 40, FORTY.withMarks("2".repeat(40)).ask(x -> x.count(12)));
        C.due("none with MARK 2", 0, FORTY.withMarks("1".repeat(40)).ask(x -> x.count(12)));
        C.due("none with MARK 1", 0, FORTY.withMarks("2".repeat(40)).ask(x -> x.count(11)));
        C.due("12 ACTS", 12, FORTY.withMarks("2".repeat(40)).ask(x -> x.count(4)));
        C.due("without the SIGN its MARK isn't counted", 0, ofA(3, 4, 8).withMarks("001").then(x -> x.delete(2, 1) ? 1 : 0).ask(x -> x.count(11)));
    }

    private static void countNone() {
        C.sentence("46 NONE for others");
        for (int what : new int[] {-1, 13, 14, -2, MIN, MAX}) {
            BUSY.stays(C, "count(" + what + ")", NONE, x -> x.count(what));
            NEW.stays(C, "count(" + what + ") of a new object", NONE, x -> x.count(what));
        }
    }

    private static void countStretch() {
        C.sentence("46 6 LEGAL ends, 7 the most SIGNS from behind a LEGAL end (or from the first SIGN) on up to the next one, its SIGN too");
        Scene shy = Scene.of("class e wide 2 shy end;", "eeeeee");
        String[] marks = {"", "1", "01", "001", "0001", "00001", "000001", "000002", "1001", "0101", "111111", "0011", "1", "21"};
        int[] ends = {1, 2, 2, 2, 2, 2, 1, 1, 3, 3, 6, 3, 2, 2};
        int[] most = {6, 5, 4, 3, 4, 5, 6, 6, 3, 2, 1, 3, 5, 4};
        for (int i = 0; i < marks.length; i++) {
            Scene x = shy.withMarks(marks[i]);
            x.stays(C, "count(6), MARKS " + marks[i], ends[i], y -> y.count(6));
            x.stays(C, "count(7), MARKS " + marks[i], most[i], y -> y.count(7));
        }
        C.due("all ends are LEGAL", 40, FORTY.ask(x -> x.count(6)));
        C.due("one SIGN each", 1, FORTY.ask(x -> x.count(7)));
        C.due("the last one alone", 1, FORTY.withMarks("2".repeat(40)).ask(x -> x.count(6)));
        C.due("all 40", 40, FORTY.withMarks("2".repeat(40)).ask(x -> x.count(7)));
        C.due("the only one", 1, ofA(1, 4, 4).withMarks("2").ask(x -> x.count(6)));
        C.due("the only one", 1, ofA(1, 4, 4).withMarks("2").ask(x -> x.count(7)));
        for (Scene none : new Scene[] {NEW, NO_SIGNS}) {
            none.stays(C, "no LEGAL ends without SIGNS", 0, x -> x.count(6));
            none.stays(C, "none without SIGNS", 0, x -> x.count(7));
        }
    }

    /** One object through its 512 calls, an ACT and what follows from it again and again. */
    private static void calls() {
        C.sentence("An object is used for at most 512 calls after it has been made");
        LineEnds x = new LineEnds();
        x.feed(0x636C6173, 0x73206120, 0x77696465, 0x20343B20, 0x20202020);
        C.due("call 2", 1, x.table());
        x.feed(0x61616161, 0x61616161, 0x20202020, 0x20202020, 0x20202020);
        C.due("call 4", 8, x.paragraph());
        int[] lines = {8, 4, 3, 2};
        for (int call = 5; call <= 509; call += 5) {
            int width = 4 + call % 16;
            C.due("call " + call, 20, x.width(width));
            C.due("call " + (call + 1), lines[width / 4 - 1], x.lines(0, 0));
            C.due("call " + (call + 2), 0, x.undo());
            C.due("call " + (call + 3), 20, x.count(3));
            C.due("call " + (call + 4), 2, x.lines(3, 0));
        }
        C.due("call 510", true, x.insert(8, 0));
        C.due("call 511", 1, x.count(4));
        C.due("call 512", 9, x.count(2));
        LineEnds acts = new LineEnds();
        for (int call = 1; call <= 500; call++) {
            C.due("ACT " + call, call == 1 ? 20 : 4 + (call - 1) % 77, acts.width(4 + call % 77));
        }
        for (int call = 501; call <= 512; call++) {
            C.due("undo " + call, 512 - call, acts.undo());
        }
        LineEnds tables = new LineEnds();
        for (int call = 1; call <= 512; call++) {
            C.due("TABLE " + call, 0, tables.table());
        }
    }
}
