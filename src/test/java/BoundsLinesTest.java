/** Promises 25 to 36 at their bounds: a sentence of the document, then what holds it. */
public final class BoundsLinesTest {
    private static final Check C = new Check();
    private static final int NONE = LineEnds.NONE;
    private static final int MAX = Integer.MAX_VALUE;
    private static final int MIN = Integer.MIN_VALUE;
    private static final int FULL = 0;
    private static final int BEST = 1;
    private static final int PLAIN = 2;
    private static final int EVEN = 3;
    private static final int KINDS = 4;
    private static final int[] NO_KIND = {-1, 4, 5, MIN, MAX};
    private static final int[] BELOW_NONE = {-2, -3, MIN};

    /** The LINES of each kind are others than those of each other kind. */
    private static final Scene FOUR = Scene.of("class a wide 4 squeeze 1 rank 3;class b wide 5 squeeze 3 rank 1 open 1 rank 2;", "bbbbbab").withWidth(11);
    private static final String[] FOUR_LINES = {"b,,,b,,,b,,,b,,,b,,|ab", "b,,b,b,|b.b|ab", "b.b|b.b|b.a|b", "b.b|b.b|b,,ab,"};

    /** FULL LINES that have all that LINES can have. */
    private static final Scene ALL = Scene.of("class a wide 4 squeeze 1 rank 2;class o wide 3 open 1 rank 3;class p wide 3 hang;class e wide 5 shy end;"
        + "class w wide 9 trim 1;", "ooaapeeaawa").withMarks("010000001").withWidth(7);
    private static final Scene NEW = Scene.fresh();

    /** Forty LINES of a SIGN each. */
    private static final Scene FORTY = Scene.of("class a wide 4 squeeze 1 rank 1 open 1 rank 1;class z wide 2;", "az".repeat(20))
        .withWidth(4).withMarks("1".repeat(40));

    public static void main(String[] args) {
        kinds();
        lines();
        line();
        lineNone();
        lineOf();
        place();
        placeNone();
        at();
        atNone();
        common();
        same();
        dearest();
        units();
        river();
        spell();
        spellNone();
        spellTable();
        longestTable();
        C.end();
    }

    private static void kinds() {
        C.sentence("By kind 0 FULL, 1 BEST, 2 PLAIN, 3 EVEN LINES are told");
        for (int kind = 0; kind < KINDS; kind++) {
            C.due("kind " + kind, FOUR_LINES[kind], FOUR.lines(kind));
        }
        C.due("FULL", "o.o/|a,aP|e!|e!|a,a/|w|a", ALL.lines(FULL));
    }

    private static void lines() {
        C.sentence("25 0 LINES, 1 their COST together, 2 ends that aren't LEGAL, 3 LINES HUNG, 4 units taken away in all, 5 units put in, 6 units LEFT, 7 LINES TOO LONG, "
            + "8 LINES that end at a MARK 1");
        int[] all = {7, 3 + 4 + 1020 + 1020 + 2 + 1000, 2, 1, 2, 1, 4, 1, 2};
        int[] most = {40, 19 * 20, 0, 0, 0, 0, 19 * 2, 0, 40};
        int[][] four = {{2, 14, 0, 0, 14, 0, 0, 0, 0}, {3, 6, 0, 0, 4, 1, 0, 0, 0}, {4, 16, 0, 0, 0, 3, 1, 0, 0}, {3, 7, 0, 0, 3, 2, 0, 0, 0}};
        for (int i = 0; i <= 8; i++) {
            int what = i;
            ALL.stays(C, "lines(FULL, " + what + ")", all[what], x -> x.lines(FULL, what));
            for (int k = 0; k < KINDS; k++) {
                int kind = k;
                FOUR.stays(C, "lines(" + kind + ", " + what + ")", four[kind][what], x -> x.lines(kind, what));
                C.due("lines(" + kind + ", " + what + ") of 40", most[what], FORTY.ask(x -> x.lines(kind, what)));
            }
        }
        C.sentence("25 NONE for others");
        for (int what : new int[] {-1, 9, 10, MIN, MAX}) {
            for (int k = 0; k < KINDS; k++) {
                int kind = k;
                ALL.stays(C, "lines(" + kind + ", " + what + ")", NONE, x -> x.lines(kind, what));
            }
            C.due("lines(FULL, " + what + ") of a new object", NONE, NEW.ask(x -> x.lines(FULL, what)));
        }
        for (int kind : NO_KIND) {
            for (int i = -1; i <= 9; i++) {
                int what = i;
                C.due("lines(" + kind + ", " + what + ")", NONE, ALL.ask(x -> x.lines(kind, what)));
                C.due("lines(" + kind + ", " + what + ") of a new object", NONE, NEW.ask(x -> x.lines(kind, what)));
            }
            ALL.stays(C, "lines(" + kind + ", 0)", NONE, x -> x.lines(kind, 0));
        }
    }

    private static void line() {
        C.sentence("26 Of a LINE: 0 its first SIGN, 1 its last one, 2 COST, 3 NATURAL width, 4 NATURAL width less WIDTH (may be below 0), 5 1 if HUNG, 6 units taken away, "
            + "7 put in, 8 LEFT, 9 1 if its end is LEGAL, 10 1 if TOO LONG");
        int[][] all = {
            {0, 1, 3, 6, -1, 0, 0, 1, 0, 1, 0}, {2, 4, 4, 11, 4, 1, 1, 0, 0, 1, 0}, {5, 5, 1020, 5, -2, 0, 0, 0, 2, 0, 0}, {6, 6, 1020, 5, -2, 0, 0, 0, 2, 0, 0},
            {7, 8, 2, 8, 1, 0, 1, 0, 0, 1, 0}, {9, 9, 1000, 8, 1, 0, 0, 0, 0, 1, 1}, {10, 10, 0, 4, -3, 0, 0, 0, 0, 1, 0},
        };
        holdLines(ALL, FULL, all);
        holdLines(FOUR, FULL, new int[][] {{0, 4, 14, 25, 14, 0, 14, 0, 0, 1, 0}, {5, 6, 0, 9, -2, 0, 0, 0, 0, 1, 0}});
        holdLines(FOUR, BEST, new int[][] {{0, 2, 4, 15, 4, 0, 4, 0, 0, 1, 0}, {3, 4, 2, 10, -1, 0, 0, 1, 0, 1, 0}, {5, 6, 0, 9, -2, 0, 0, 0, 0, 1, 0}});
        holdLines(FOUR, PLAIN, new int[][] {{0, 1, 2, 10, -1, 0, 0, 1, 0, 1, 0}, {2, 3, 2, 10, -1, 0, 0, 1, 0, 1, 0}, {4, 5, 12, 9, -2, 0, 0, 1, 1, 1, 0},
            {6, 6, 0, 5, -6, 0, 0, 0, 0, 1, 0}});
        holdLines(FOUR, EVEN, new int[][] {{0, 1, 2, 10, -1, 0, 0, 1, 0, 1, 0}, {2, 3, 2, 10, -1, 0, 0, 1, 0, 1, 0}, {4, 6, 3, 14, 3, 0, 3, 0, 0, 1, 0}});
        C.due("the least of 4", 1 - 80, Scene.of("class a wide 1;", "a").withWidth(80).ask(x -> x.line(FULL, 0, 4)));
        C.due("the most of 4", 360 - 40, Scene.of("class w wide 9 squeeze 8 rank 1;", "w".repeat(40)).withWidth(40).ask(x -> x.line(FULL, 0, 4)));
        C.due("-1 of 4", -1, ALL.ask(x -> x.line(FULL, 0, 4)));
    }

    private static void holdLines(Scene scene, int kind, int[][] wants) {
        for (int i = 0; i < wants.length; i++) {
            for (int k = 0; k < wants[i].length; k++) {
                int line = i;
                int what = k;
                C.due("line(" + kind + ", " + line + ", " + what + ")", wants[i][k], scene.ask(x -> x.line(kind, line, what)));
            }
            int line = i;
            scene.stays(C, "line(" + kind + ", " + line + ", 2)", wants[i][2], x -> x.line(kind, line, 2));
        }
        C.due("how many LINES", wants.length, scene.ask(x -> x.lines(kind, 0)));
        C.due("behind the last LINE", NONE, scene.ask(x -> x.line(kind, wants.length, 0)));
    }

    private static void lineNone() {
        C.sentence("26 -100 for no such kind, LINE; NONE for others");
        for (int i = 0; i <= 10; i++) {
            int what = i;
            int want = what == 4 ? -100 : NONE;
            for (int line : new int[] {-1, 7, 8, 40, MIN, MAX}) {
                ALL.stays(C, "line(FULL, " + line + ", " + what + ")", want, x -> x.line(FULL, line, what));
            }
            for (int kind : NO_KIND) {
                C.due("line(" + kind + ", 0, " + what + ")", want, ALL.ask(x -> x.line(kind, 0, what)));
                C.due("line(" + kind + ", -1, " + what + ")", want, ALL.ask(x -> x.line(kind, -1, what)));
            }
            for (int k = 0; k < KINDS; k++) {
                int kind = k;
                C.due("line(" + kind + ", 40, " + what + ") of 40", want, FORTY.ask(x -> x.line(kind, 40, what)));
                C.due("line(" + kind + ", 0, " + what + ") of a new object", want, NEW.ask(x -> x.line(kind, 0, what)));
            }
        }
        for (int what : new int[] {-1, 11, 12, -4, MIN, MAX}) {
            for (int line : new int[] {0, 6, -1, 7}) {
                ALL.stays(C, "line(FULL, " + line + ", " + what + ")", NONE, x -> x.line(FULL, line, what));
                C.due("line(4, " + line + ", " + what + ")", NONE, ALL.ask(x -> x.line(4, line, what)));
            }
        }
    }

    private static void lineOf() {
        C.sentence("27 In which LINE a SIGN is");
        String[] wants = {"0000011", "0001122", "0011223", "0011222"};
        for (int k = 0; k < KINDS; k++) {
            int kind = k;
            for (int n = 0; n < 7; n++) {
                int i = n;
                FOUR.stays(C, "lineOf(" + kind + ", " + i + ")", wants[kind].charAt(i) - '0', x -> x.lineOf(kind, i));
            }
            C.due("lineOf(" + kind + ", 39) of 40", 39, FORTY.ask(x -> x.lineOf(kind, 39)));
            C.sentence("27 NONE: no such ones");
            for (int i : new int[] {-1, 7, 8, 39, 40, MIN, MAX}) {
                FOUR.stays(C, "lineOf(" + kind + ", " + i + ")", NONE, x -> x.lineOf(kind, i));
            }
            C.due("lineOf(" + kind + ", 40) of 40", NONE, FORTY.ask(x -> x.lineOf(kind, 40)));
            C.due("lineOf(" + kind + ", 0) of a new object", NONE, NEW.ask(x -> x.lineOf(kind, 0)));
        }
        for (int kind : NO_KIND) {
            FOUR.stays(C, "lineOf(" + kind + ", 0)", NONE, x -> x.lineOf(kind, 0));
            C.due("lineOf(" + kind + ", 7)", NONE, FOUR.ask(x -> x.lineOf(kind, 7)));
        }
    }

    private static void place() {
        C.sentence("28 Of a SIGN: 0 how far its left edge is from its LINE's left end (what is taken away, put in ahead of it counts), 1 units taken away from it, 2 put in behind it");
        int[][][] wants = {
            {{0, 2, 4, 6, 8, 0, 4}, {3, 3, 3, 3, 2, 0, 0}, {0, 0, 0, 0, 0, 0, 0}},
            {{0, 3, 7, 0, 6, 0, 4}, {2, 1, 1, 0, 0, 0, 0}, {0, 0, 0, 1, 0, 0, 0}},
            {{0, 6, 0, 6, 0, 6, 0}, {0, 0, 0, 0, 0, 0, 0}, {1, 0, 1, 0, 1, 0, 0}},
            {{0, 6, 0, 6, 0, 3, 7}, {0, 0, 0, 0, 2, 0, 1}, {1, 0, 1, 0, 0, 0, 0}},
        };
        for (int k = 0; k < KINDS; k++) {
            int kind = k;
            for (int n = 0; n < 21; n++) {
                int i = n / 3;
                int what = n % 3;
                FOUR.stays(C, "place(" + kind + ", " + i + ", " + what + ")", wants[kind][what][i], x -> x.place(kind, i, what));
            }
            C.due("place(" + kind + ", 39, 0) of 40", 0, FORTY.ask(x -> x.place(kind, 39, 0)));
        }
        int[] lefts = {0, 4, 0, 3, 7, 0, 0, 0, 3, 0, 0};
        for (int n = 0; n < lefts.length; n++) {
            int i = n;
            C.due("place(FULL, " + i + ", 0) of all", lefts[i], ALL.ask(x -> x.place(FULL, i, 0)));
        }
        C.due("40 SIGNS in one LINE", 39, Scene.of("class w wide 9 squeeze 8 rank 1;", "w".repeat(40)).withWidth(40).ask(x -> x.place(FULL, 39, 0)));
        C.due("40 SIGNS in one LINE, not squeezed", 78, Scene.of("class w wide 2;", "w".repeat(40)).withWidth(80).ask(x -> x.place(FULL, 39, 0)));
        C.due("the most taken away", 8, Scene.of("class w wide 9 squeeze 8 rank 1;", "w".repeat(40)).withWidth(40).ask(x -> x.place(FULL, 39, 1)));
        C.due("the most put in", 9, Scene.of("class w wide 1 open 9 rank 1;", "www").withMarks("01").withWidth(20).ask(x -> x.place(FULL, 0, 2)));
        C.sentence("28 a HUNG one: its left edge, nothing is taken away from it, put in behind it");
        Scene hung = Scene.of("class a wide 4 open 9 rank 1;class p wide 4 hang squeeze 3 rank 1 open 9 rank 1;", "apa").withMarks("01").withWidth(6);
        C.due("FULL", "a..P/|a", hung.lines(FULL));
        C.due("left edge", 6, hung.ask(x -> x.place(FULL, 1, 0)));
        C.due("taken away", 0, hung.ask(x -> x.place(FULL, 1, 1)));
        C.due("put in", 0, hung.ask(x -> x.place(FULL, 1, 2)));
    }

    private static void placeNone() {
        C.sentence("28 NONE for others");
        for (int k = 0; k < KINDS; k++) {
            int kind = k;
            for (int what : new int[] {-1, 3, 4, MIN, MAX}) {
                FOUR.stays(C, "place(" + kind + ", 0, " + what + ")", NONE, x -> x.place(kind, 0, what));
            }
            for (int i : new int[] {-1, 7, 8, 40, MIN, MAX}) {
                for (int n = -1; n <= 3; n++) {
                    int what = n;
                    C.due("place(" + kind + ", " + i + ", " + what + ")", NONE, FOUR.ask(x -> x.place(kind, i, what)));
                }
            }
            C.due("place(" + kind + ", 40, 0) of 40", NONE, FORTY.ask(x -> x.place(kind, 40, 0)));
            C.due("place(" + kind + ", 0, 0) of a new object", NONE, NEW.ask(x -> x.place(kind, 0, 0)));
        }
        for (int kind : NO_KIND) {
            for (int n = 0; n <= 2; n++) {
                int what = n;
                FOUR.stays(C, "place(" + kind + ", 0, " + what + ")", NONE, x -> x.place(kind, 0, what));
            }
        }
    }

    private static void holdAt(Scene scene, int kind, int line, int... wants) {
        for (int i = 0; i < wants.length; i++) {
            int at = i;
            C.due("at(" + kind + ", " + line + ", " + at + ")", wants[i], scene.ask(x -> x.at(kind, line, at)));
        }
        scene.stays(C, "at(" + kind + ", " + line + ", 0)", wants[0], x -> x.at(kind, line, 0));
        scene.stays(C, "at(" + kind + ", " + line + ", most)", -2, x -> x.at(kind, line, MAX));
    }

    private static void at() {
        C.sentence("29 Which SIGN is at so much from the left end of a LINE (0 on; left edges count, right ones don't; gaps opened belong to the SIGN ahead); -2: none is");
        holdAt(FOUR, FULL, 0, 0, 0, 1, 1, 2, 2, 3, 3, 4, 4, 4, -2, -2);
        holdAt(FOUR, FULL, 1, 5, 5, 5, 5, 6, 6, 6, 6, 6, -2, -2, -2);
        holdAt(FOUR, BEST, 1, 3, 3, 3, 3, 3, 3, 4, 4, 4, 4, 4, -2);
        holdAt(FOUR, PLAIN, 2, 4, 4, 4, 4, 4, 4, 5, 5, 5, 5, -2, -2);
        holdAt(FOUR, PLAIN, 3, 6, 6, 6, 6, 6, -2, -2);
        holdAt(FOUR, EVEN, 2, 4, 4, 4, 5, 5, 5, 5, 6, 6, 6, 6, -2);
        C.sentence("29 of one that ends a LINE its TRIM is none of it");
        Scene trim = Scene.of("class t wide 9 hang trim 6 squeeze 7 rank 1;", "tt");
        holdAt(trim.withWidth(12), FULL, 0, 0, 0, 0, 0, 0, 0, 0, 0, 0, 1, 1, 1, -2);
        C.due("HUNG", "t,T", trim.withWidth(8).lines(FULL));
        holdAt(trim.withWidth(8), FULL, 0, 0, 0, 0, 0, 0, 0, 0, 0, 1, 1, 1, -2);
        Scene tooLong = Scene.of("class t wide 9 trim 2;", "t").withWidth(4);
        holdAt(tooLong, FULL, 0, 0, 0, 0, 0, 0, 0, 0, -2);
        Scene most = Scene.of("class w wide 2;", "w".repeat(40)).withWidth(80);
        C.due("the last unit of 40 SIGNS", 39, most.ask(x -> x.at(FULL, 0, 79)));
        C.due("behind it", -2, most.ask(x -> x.at(FULL, 0, 80)));
    }

    private static void atNone() {
        C.sentence("29 NONE: no such LINE, below 0");
        for (int k = 0; k < KINDS; k++) {
            int kind = k;
            for (int line : new int[] {-1, FOUR.ask(x -> x.lines(kind, 0)), 40, MIN, MAX}) {
                FOUR.stays(C, "at(" + kind + ", " + line + ", 0)", NONE, x -> x.at(kind, line, 0));
                C.due("at(" + kind + ", " + line + ", most)", NONE, FOUR.ask(x -> x.at(kind, line, MAX)));
            }
            for (int at : new int[] {-1, -2, MIN}) {
                FOUR.stays(C, "at(" + kind + ", 0, " + at + ")", NONE, x -> x.at(kind, 0, at));
                C.due("at(" + kind + ", 9, " + at + ")", NONE, FOUR.ask(x -> x.at(kind, 9, at)));
            }
            C.due("at(" + kind + ", 0, 0) of a new object", NONE, NEW.ask(x -> x.at(kind, 0, 0)));
            C.due("at(" + kind + ", 39, 0) of 40", 39, FORTY.ask(x -> x.at(kind, 39, 0)));
            C.due("at(" + kind + ", 40, 0) of 40", NONE, FORTY.ask(x -> x.at(kind, 40, 0)));
        }
        for (int kind : NO_KIND) {
            FOUR.stays(C, "at(" + kind + ", 0, 0)", NONE, x -> x.at(kind, 0, 0));
            C.due("at(" + kind + ", 0, most)", NONE, FOUR.ask(x -> x.at(kind, 0, MAX)));
        }
    }

    private static void common() {
        C.sentence("30 SIGNS at which FULL and BEST LINES end both: i NONE how many, 0 on: the i-th, rising");
        FOUR.stays(C, "common(NONE)", 2, x -> x.common(NONE));
        FOUR.stays(C, "common(0)", 4, x -> x.common(0));
        FOUR.stays(C, "common(1)", 6, x -> x.common(1));
        C.due("common(NONE) of 40", 40, FORTY.ask(x -> x.common(NONE)));
        for (int n = 0; n < 40; n++) {
            int i = n;
            C.due("common(" + i + ") of 40", i, FORTY.ask(x -> x.common(i)));
        }
        Scene one = Scene.of("class a wide 3 squeeze 2 rank 3;class b wide 3;", "aaabaa").withWidth(6);
        C.due("FULL", "a,,a,,a,,b|aa", one.lines(FULL));
        C.due("BEST", "aa|ab|aa", one.lines(BEST));
        C.due("common(NONE)", 2, one.ask(x -> x.common(NONE)));
        C.due("common(0)", 3, one.ask(x -> x.common(0)));
        C.due("the last SIGN alone", 1, Scene.of("class a wide 1;", "aaa").ask(x -> x.common(NONE)));
        C.due("the last SIGN alone", 2, Scene.of("class a wide 1;", "aaa").ask(x -> x.common(0)));
        Scene few = Scene.of("class a wide 3 squeeze 2 rank 3;class b wide 3;", "aabbaab").withWidth(8);
        C.due("FULL", "a,,a,,bb|a,ab", few.lines(FULL));
        C.due("BEST", "a,ab|ba,a|b", few.lines(BEST));
        C.due("the last SIGN alone of several", 1, few.ask(x -> x.common(NONE)));
        C.due("the last SIGN alone of several", 6, few.ask(x -> x.common(0)));
        C.due("not so many of several", -2, few.ask(x -> x.common(1)));
        C.sentence("30 -2: there are not so many");
        FOUR.stays(C, "common(2)", -2, x -> x.common(2));
        FOUR.stays(C, "common(most)", -2, x -> x.common(MAX));
        C.due("common(40) of 40", -2, FORTY.ask(x -> x.common(40)));
        C.due("common(NONE) of a new object", 0, NEW.ask(x -> x.common(NONE)));
        C.due("common(0) of a new object", -2, NEW.ask(x -> x.common(0)));
        C.sentence("30 NONE: i below NONE");
        for (int i : BELOW_NONE) {
            FOUR.stays(C, "common(" + i + ")", NONE, x -> x.common(i));
            NEW.stays(C, "common(" + i + ") of a new object", NONE, x -> x.common(i));
        }
    }

    private static void same() {
        C.sentence("31 How many LINES of two kinds are the same (first and last SIGN)");
        int[][] wants = {{2, 1, 0, 0}, {1, 3, 0, 0}, {0, 0, 4, 2}, {0, 0, 2, 3}};
        for (int i = 0; i < KINDS; i++) {
            for (int k = 0; k < KINDS; k++) {
                int kind = i;
                int other = k;
                FOUR.stays(C, "same(" + kind + ", " + other + ")", wants[i][k], x -> x.same(kind, other));
                C.due("same(" + kind + ", " + other + ") of 40", 40, FORTY.ask(x -> x.same(kind, other)));
                C.due("same(" + kind + ", " + other + ") of a new object", 0, NEW.ask(x -> x.same(kind, other)));
            }
        }
        C.sentence("31 NONE: no such kinds");
        for (int none : NO_KIND) {
            for (int k = 0; k < KINDS; k++) {
                int kind = k;
                FOUR.stays(C, "same(" + kind + ", " + none + ")", NONE, x -> x.same(kind, none));
                FOUR.stays(C, "same(" + none + ", " + kind + ")", NONE, x -> x.same(none, kind));
            }
            C.due("same(" + none + ", " + none + ")", NONE, FOUR.ask(x -> x.same(none, none)));
            C.due("same(0, " + none + ") of a new object", NONE, NEW.ask(x -> x.same(0, none)));
        }
    }

    private static void dearest() {
        C.sentence("32 The LINE of a kind with the greatest COST, of several the first");
        int[] wants = {0, 0, 2, 2};
        for (int k = 0; k < KINDS; k++) {
            int kind = k;
            FOUR.stays(C, "dearest(" + kind + ")", wants[kind], x -> x.dearest(kind));
            C.due("dearest(" + kind + ") of 40", 1, FORTY.ask(x -> x.dearest(kind)));
            C.due("dearest(" + kind + ") where all COST nothing", 0, Scene.of("class a wide 4;", "aaa").withWidth(4).ask(x -> x.dearest(kind)));
            C.due("dearest(" + kind + ") of one LINE", 0, Scene.of("class a wide 4;", "a").ask(x -> x.dearest(kind)));
            C.due("dearest(" + kind + "), the last LINE", 2, Scene.of("class a wide 4;class w wide 9;", "aaw").withWidth(4).ask(x -> x.dearest(kind)));
            C.sentence("32 -2: there are no SIGNS");
            NEW.stays(C, "dearest(" + kind + ") of a new object", -2, x -> x.dearest(kind));
            C.due("dearest(" + kind + ") of none", -2, Scene.of("class a wide 4;", "").ask(x -> x.dearest(kind)));
        }
        C.due("of several the first", 2, ALL.ask(x -> x.dearest(FULL)));
        C.sentence("32 NONE: no such kind");
        for (int kind : NO_KIND) {
            FOUR.stays(C, "dearest(" + kind + ")", NONE, x -> x.dearest(kind));
            NEW.stays(C, "dearest(" + kind + ") of a new object", NONE, x -> x.dearest(kind));
        }
    }

    private static void units() {
        C.sentence("33 Units taken away (taken), put in by a rank (1 .. 3) in all LINES of a kind");
        int[][][] wants = {{{14, 0, 0}, {0, 0, 0}}, {{4, 0, 0}, {0, 1, 0}}, {{0, 0, 0}, {0, 3, 0}}, {{3, 0, 0}, {0, 2, 0}}};
        for (int k = 0; k < KINDS; k++) {
            int kind = k;
            for (int n = 1; n <= 3; n++) {
                int rank = n;
                FOUR.stays(C, "units(" + kind + ", " + rank + ", true)", wants[kind][0][rank - 1], x -> x.units(kind, rank, true));
                FOUR.stays(C, "units(" + kind + ", " + rank + ", false)", wants[kind][1][rank - 1], x -> x.units(kind, rank, false));
                C.due("units of a new object", 0, NEW.ask(x -> x.units(kind, rank, true)));
            }
            C.sentence("33 NONE: no such ones");
            for (int rank : new int[] {0, 4, -1, MIN, MAX}) {
                FOUR.stays(C, "units(" + kind + ", " + rank + ", true)", NONE, x -> x.units(kind, rank, true));
                FOUR.stays(C, "units(" + kind + ", " + rank + ", false)", NONE, x -> x.units(kind, rank, false));
            }
        }
        for (int kind : NO_KIND) {
            FOUR.stays(C, "units(" + kind + ", 1, true)", NONE, x -> x.units(kind, 1, true));
            FOUR.stays(C, "units(" + kind + ", 3, false)", NONE, x -> x.units(kind, 3, false));
            C.due("units(" + kind + ", 1, true) of a new object", NONE, NEW.ask(x -> x.units(kind, 1, true)));
        }
        C.sentence("33 by a rank");
        C.due("taken away by 2", 2, ALL.ask(x -> x.units(FULL, 2, true)));
        C.due("put in by 3", 1, ALL.ask(x -> x.units(FULL, 3, false)));
        C.due("the most", 40 * 8, Scene.of("class w wide 9 squeeze 8 rank 3;", "w".repeat(40)).withWidth(40).ask(x -> x.units(FULL, 3, true)));
        C.due("none by 1", 0, Scene.of("class w wide 9 squeeze 8 rank 3;", "w".repeat(40)).withWidth(40).ask(x -> x.units(FULL, 1, true)));
    }

    private static void river() {
        C.sentence("34 The most LINES of a RIVER; 0 without a gap opened");
        int[] wants = {0, 1, 3, 2};
        for (int k = 0; k < KINDS; k++) {
            int kind = k;
            FOUR.stays(C, "river(" + kind + ")", wants[kind], x -> x.river(kind));
            C.due("river(" + kind + ") of 40", 0, FORTY.ask(x -> x.river(kind)));
            NEW.stays(C, "river(" + kind + ") of a new object", 0, x -> x.river(kind));
            C.due("river(" + kind + ") of one LINE, the last", 0, Scene.of("class a wide 2 open 9 rank 1;", "aa").withWidth(9).ask(x -> x.river(kind)));
        }
        StringBuilder marks = new StringBuilder();
        for (int i = 0; i < 20; i++) {
            marks.append("01");
        }
        Scene long20 = Scene.of("class a wide 2 open 1 rank 1;", "a".repeat(40)).withWidth(5).withMarks(marks.toString());
        C.due("19 LINES, the last one isn't opened", 19, long20.ask(x -> x.river(FULL)));
        C.due("the last place of a LINE", 1, Scene.of("class w wide 9;class v wide 7 open 1 rank 1;class p wide 9 hang;", "wwwwwwwwvpw").withMarks("0000000001")
            .withWidth(80).ask(x -> x.river(FULL)));
        C.due("the first place that can be", 2, Scene.of("class a wide 1 open 1 rank 1;class b wide 4;", "ababa").withMarks("0101").withWidth(6).ask(x -> x.river(FULL)));
        C.sentence("34 NONE: no such kind");
        for (int kind : NO_KIND) {
            FOUR.stays(C, "river(" + kind + ")", NONE, x -> x.river(kind));
            C.due("river(" + kind + ") of a new object", NONE, NEW.ask(x -> x.river(kind)));
        }
    }

    private static void spell() {
        C.sentence("35 A LINE as bytes: each SIGN's letter (a HUNG one as a capital), behind it a , for each unit taken away from it, then a . for each put in behind it; "
            + "at the end ! if it isn't LEGAL, / if its MARK is 1");
        String[][] wants = {FOUR_LINES[0].split("\\|"), FOUR_LINES[1].split("\\|"), FOUR_LINES[2].split("\\|"), FOUR_LINES[3].split("\\|")};
        for (int k = 0; k < KINDS; k++) {
            for (int n = 0; n < wants[k].length; n++) {
                holdSpelt(FOUR, k, n, wants[k][n]);
            }
        }
        String[] all = {"o.o/", "a,aP", "e!", "e!", "a,a/", "w", "a"};
        for (int n = 0; n < all.length; n++) {
            holdSpelt(ALL, FULL, n, all[n]);
        }
        holdSpelt(FORTY, EVEN, 39, "z/");
        Scene hung = Scene.of("class a wide 4 shy end hang;class z wide 4 shy end hang;", "zaaz").withWidth(4);
        holdSpelt(hung, FULL, 0, "zA!");
        holdSpelt(hung, FULL, 1, "aZ");
        holdSpelt(hung.withMarks("01"), FULL, 0, "zA/");
        holdSpelt(hung.withMarks("0001"), FULL, 1, "aZ/");
        C.sentence("35 the longest LINE");
        Scene most = Scene.of("class w wide 9 shy end squeeze 8 rank 3;", "w".repeat(40)).withWidth(40);
        C.due("how many", 360, most.ask(x -> x.spell(FULL, 0, NONE)));
        C.due("the last byte", ',', most.ask(x -> x.spell(FULL, 0, 359)));
        C.due("behind it", -2, most.ask(x -> x.spell(FULL, 0, 360)));
        C.due("with a MARK 1", '/', most.then(x -> x.mark(39, 1)).ask(x -> x.spell(FULL, 0, 360)));
    }

    /** The bytes of a LINE one by one, and the one behind them. */
    private static void holdSpelt(Scene scene, int kind, int line, String want) {
        scene.stays(C, "spell(" + kind + ", " + line + ", NONE)", want.length(), x -> x.spell(kind, line, NONE));
        for (int n = 0; n <= want.length(); n++) {
            int i = n;
            int due = i < want.length() ? want.charAt(i) : -2;
            C.due("spell(" + kind + ", " + line + ", " + i + ")", due, scene.ask(x -> x.spell(kind, line, i)));
        }
        scene.stays(C, "spell(" + kind + ", " + line + ", most)", -2, x -> x.spell(kind, line, MAX));
    }

    private static void spellNone() {
        C.sentence("35 NONE: no such LINE, i below NONE");
        for (int k = 0; k < KINDS; k++) {
            int kind = k;
            for (int line : new int[] {-1, FOUR.ask(x -> x.lines(kind, 0)), 40, MIN, MAX}) {
                for (int i : new int[] {NONE, 0, 9, MAX, -2}) {
                    C.due("spell(" + kind + ", " + line + ", " + i + ")", NONE, FOUR.ask(x -> x.spell(kind, line, i)));
                }
                FOUR.stays(C, "spell(" + kind + ", " + line + ", 0)", NONE, x -> x.spell(kind, line, 0));
            }
            for (int i : BELOW_NONE) {
                FOUR.stays(C, "spell(" + kind + ", 0, " + i + ")", NONE, x -> x.spell(kind, 0, i));
            }
            C.due("spell(" + kind + ", 40, 0) of 40", NONE, FORTY.ask(x -> x.spell(kind, 40, 0)));
            C.due("spell(" + kind + ", 0, NONE) of a new object", NONE, NEW.ask(x -> x.spell(kind, 0, NONE)));
        }
        for (int kind : NO_KIND) {
            for (int i : new int[] {NONE, 0, MAX}) {
                FOUR.stays(C, "spell(" + kind + ", 0, " + i + ")", NONE, x -> x.spell(kind, 0, i));
            }
        }
    }

    private static void spellTable() {
        C.sentence("36 The TABLE as a TEXT: CLASSES by letters (with what they have as told, 0 of trim, squeeze, open left out; SHY as now), then PAIRS as now, "
            + "by their first, then second letters; one blank between WORDS, L, N, none else");
        Scene x = Scene.of("class z wide 2 trim 1 open 1 rank 3;keep z z;class a wide 1 trim 0 squeeze 0 rank 3 open 0 rank 2 ;keep z a;class b wide 9 shy begin hang squeeze 8 rank 2;"
            + " keep b z;keep a z;keep b a;keep b a;", "");
        String text = "class a wide 1;class b wide 9 shy begin hang squeeze 8 rank 2;class z wide 2 trim 1 open 1 rank 3;"
            + "keep a z;keep b a;keep b z;keep z a;keep z z;";
        C.due("TEXT", text, x.table());
        C.due("SHY as now", text.replace("shy begin", "shy end"), x.then(y -> y.shy(1, false), y -> y.shy(1, true)).table());
        C.due("both", text.replace("shy begin", "shy begin shy end"), x.then(y -> y.shy(1, true)).table());
        C.due("PAIRS as now", text.replace("keep b a;", "").replace("keep z a;", "keep z a;keep z b;"), x.then(y -> y.pair(1, 0), y -> y.pair(25, 1)).table());
        C.due("undone", text, x.then(y -> y.pair(1, 0), y -> y.shy(1, true), LineEnds::undo, LineEnds::undo).table());
        C.due("it is a TABLE", 3, Scene.fresh().ask(y -> Check.table(y, text)));
        C.due("it is this TABLE", text, Scene.fresh().then(y -> Check.table(y, text)).table());
        C.sentence("36 i NONE how many bytes, 0 on: the i-th; -2: there are not so many");
        x.stays(C, "spellTable(NONE)", text.length(), y -> y.spellTable(NONE));
        x.stays(C, "spellTable(0)", 'c', y -> y.spellTable(0));
        x.stays(C, "the last byte", ';', y -> y.spellTable(text.length() - 1));
        x.stays(C, "behind it", -2, y -> y.spellTable(text.length()));
        x.stays(C, "spellTable(most)", -2, y -> y.spellTable(MAX));
        NEW.stays(C, "spellTable(NONE) of a new object", 0, y -> y.spellTable(NONE));
        NEW.stays(C, "spellTable(0) of a new object", -2, y -> y.spellTable(0));
        C.sentence("36 NONE: i below NONE");
        for (int i : BELOW_NONE) {
            x.stays(C, "spellTable(" + i + ")", NONE, y -> y.spellTable(i));
            NEW.stays(C, "spellTable(" + i + ") of a new object", NONE, y -> y.spellTable(i));
        }
    }

    /** Ten CLASSES that have as much as a tape can tell, all of them SHY, with 12 PAIRS. */
    private static void longestTable() {
        C.sentence("36 The TABLE as a TEXT, 10 CLASSES and 12 PAIRS");
        StringBuilder told = new StringBuilder();
        StringBuilder want = new StringBuilder();
        for (char letter = 'a'; letter <= 'j'; letter++) {
            String rest = letter <= 'h' ? " hang trim 8 squeeze 8 rank 3 open 9 rank 3;" : ";";
            told.append("class ").append(letter).append(" wide 9").append(rest);
            want.append("class ").append(letter).append(" wide 9 shy begin shy end").append(rest);
        }
        Scene x = Scene.fresh().then(y -> Check.table(y, told.toString()));
        for (int i = 0; i < 10; i++) {
            int letter = i;
            x = x.then(y -> y.shy(letter, false), y -> y.shy(letter, true));
        }
        for (int i = 0; i < 12; i++) {
            int first = i < 2 ? 8 : 9;
            int second = i < 2 ? 8 + i : i - 2;
            x = x.then(y -> y.pair(first, second));
            want.append("keep ").append((char) ('a' + first)).append(' ').append((char) ('a' + second)).append(';');
        }
        C.due("CLASSES", 10, x.ask(y -> y.count(0)));
        C.due("how many", want.length(), x.ask(y -> y.spellTable(NONE)));
        LineEnds early = x.made();
        LineEnds late = x.made();
        for (int i = 0; i < want.length(); i++) {
            C.due("byte " + i, want.charAt(i), (i < 400 ? early : late).spellTable(i));
        }
        C.due("behind it", -2, x.ask(y -> y.spellTable(want.length())));
    }
}
