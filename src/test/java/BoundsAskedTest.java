/** Promises 17 to 24 at their bounds: a sentence of the document, then what holds it. */
public final class BoundsAskedTest {
    private static final Check C = new Check();
    private static final int NONE = LineEnds.NONE;
    private static final int MAX = Integer.MAX_VALUE;
    private static final int MIN = Integer.MIN_VALUE;
    private static final int[] NO_SIGN_OF_FIVE = {-1, 5, 6, 40, MIN, MAX};
    private static final int[] NO_LETTER = {-1, 0, 3, 24, 26, 33, 34, 57, MIN, MAX};
    private static final int Z = 25;

    /** CLASSES b, c and z; SIGNS bczbc with MARKS 01200. */
    private static final Scene FIVE = Scene.of("class b wide 4;class c wide 3 shy begin;class z wide 2 trim 1;keep b z;", "bczbc")
        .then(x -> x.mark(1, 1), x -> x.mark(2, 2));
    private static final Scene NO_SIGNS = Scene.of("class b wide 4;class c wide 3;class z wide 2;", "");
    private static final Scene NEW = Scene.fresh();
    private static final Scene FORTY = Scene.forty();

    public static void main(String[] args) {
        of();
        isPair();
        find();
        findNone();
        marked();
        sign();
        legal();
        natural();
        cost();
        C.end();
    }

    private static void of() {
        C.sentence("17 Of a CLASS: 0 WIDE, 1 SHY of begins, 2 of ends, 3 HANGS (1, 0), 4 TRIM, 5 SQUEEZE, 6 its rank, 7 OPEN, 8 its rank, 9 how many SIGNS");
        Scene x = Scene.of("class a wide 1;class m wide 9 shy begin shy end hang trim 8 squeeze 7 rank 3 open 9 rank 2;"
            + "class n wide 2 shy begin squeeze 0 rank 3;class z wide 3 shy end open 0 rank 2;", "m" + "a".repeat(39));
        int[][] wants = {{1, 0, 0, 0, 0, 0, 1, 0, 1, 39}, {9, 1, 1, 1, 8, 7, 3, 9, 2, 1}, {2, 1, 0, 0, 0, 0, 3, 0, 1, 0}, {3, 0, 1, 0, 0, 0, 1, 0, 2, 0}};
        int[] letters = {0, 12, 13, Z};
        for (int i = 0; i < 4; i++) {
            int letter = letters[i];
            for (int k = 0; k < 10; k++) {
                int what = k;
                x.stays(C, "of(" + letter + ", " + what + ")", wants[i][k], y -> y.of(letter, what));
            }
        }
        C.due("40 SIGNS of it", 40, x.then(y -> y.change(0, 0)).ask(y -> y.of(0, 9)));
        C.due("none of it", 0, x.then(y -> y.change(0, 0)).ask(y -> y.of(12, 9)));
        C.due("without SIGNS", 0, NO_SIGNS.ask(y -> y.of(1, 9)));
        C.sentence("17 NONE for others");
        for (int what : new int[] {-1, 10, 11, MIN, MAX}) {
            x.stays(C, "of(0, " + what + ")", NONE, y -> y.of(0, what));
        }
        for (int letter : NO_LETTER) {
            for (int what = -1; what <= 10; what++) {
                int of = what;
                C.due("of(" + letter + ", " + what + ")", NONE, FIVE.ask(y -> y.of(letter, of)));
            }
        }
        for (int letter = 0; letter < 26; letter++) {
            int of = letter;
            C.due("of(" + letter + ", 9) of a new object", NONE, NEW.ask(y -> y.of(of, 9)));
        }
    }

    private static void isPair() {
        C.sentence("18 Whether two CLASSES are a PAIR, in this order (1, 0)");
        FIVE.stays(C, "isPair(b, z)", 1, x -> x.isPair(1, Z));
        FIVE.stays(C, "isPair(z, b)", 0, x -> x.isPair(Z, 1));
        FIVE.stays(C, "isPair(z, z)", 0, x -> x.isPair(Z, Z));
        FIVE.stays(C, "isPair(b, b)", 0, x -> x.isPair(1, 1));
        C.due("isPair(z, z), told", 1, FIVE.then(x -> x.pair(Z, Z)).ask(x -> x.isPair(Z, Z)));
        C.due("isPair(b, z), told without SIGNS", 1, FIVE.then(LineEnds::paragraph).ask(x -> x.isPair(1, Z)));
        C.sentence("18 NONE: no such ones");
        for (int letter : NO_LETTER) {
            FIVE.stays(C, "isPair(b, " + letter + ")", NONE, x -> x.isPair(1, letter));
            FIVE.stays(C, "isPair(" + letter + ", b)", NONE, x -> x.isPair(letter, 1));
            FIVE.stays(C, "isPair(" + letter + ", " + letter + ")", NONE, x -> x.isPair(letter, letter));
        }
    }

    private static void found(Scene from, String row, int i, int want) {
        Scene told = from.said(row);
        C.due("find(" + i + ") of \"" + row + "\"", want, told.ask(x -> x.find(i)));
        Scene.Call find = x -> x.find(i);
        if (want == NONE) {
            told.then(find).looksAs(C, "find(" + i + ") of \"" + row + "\"", told);
        } else {
            told.then(find).looksAs(C, "find(" + i + ") of \"" + row + "\"", from);
        }
    }

    private static void find() {
        C.sentence("19 Of letters a row (the tape, empty then, blanks left out) the first place in the PARAGRAPH, from SIGN i on, at which it stands");
        found(FIVE, "b", 0, 0);
        found(FIVE, "b", 1, 3);
        found(FIVE, "b", 3, 3);
        found(FIVE, "bc", 0, 0);
        found(FIVE, "bc", 1, 3);
        found(FIVE, "c", 4, 4);
        found(FIVE, "bczbc", 0, 0);
        found(FIVE, "  b  c ", 1, 3);
        found(FIVE, " ".repeat(498) + "zb", 0, 2);
        found(FIVE, "zb" + " ".repeat(498), 2, 2);
        found(FORTY, "ab".repeat(20), 0, 0);
        found(FORTY, "b", 39, 39);
        found(FORTY, "ab", 37, 38);
        C.sentence("19 -2: none");
        found(FIVE, "b", 4, -2);
        found(FIVE, "bc", 4, -2);
        found(FIVE, "cb", 0, -2);
        found(FIVE, "bczbcb", 0, -2);
        found(FIVE, "bczbc", 1, -2);
        found(FORTY, "ab".repeat(20) + "a", 0, -2);
        found(FORTY, "ab", 39, -2);
        found(FIVE, "b".repeat(500), 0, -2);
        C.sentence("19 of CLASSES told or not");
        found(FIVE, "a", 0, -2);
        found(FIVE, "y", 0, -2);
        found(FIVE, "bca", 0, -2);
        C.sentence("19 -2: or the tape has other bytes");
        for (int value = 0; value < 256; value++) {
            Scene told = FIVE.said("b" + (char) value);
            int want = value == ' ' || value == 'c' ? 0 : -2;
            C.due("a byte " + value, want, told.ask(x -> x.find(0)));
            C.due("a byte " + value + ", the tape", 0, told.then(x -> x.find(0)).ask(x -> x.count(5)));
            C.due("a byte " + value + " ahead", value == ' ' ? 0 : value == 'z' ? 2 : -2, FIVE.said((char) value + "bc").ask(x -> x.find(0)));
            C.due("a byte " + value + " far behind", value == ' ' ? 0 : -2, FIVE.said("bczbc" + " ".repeat(400) + (char) value).ask(x -> x.find(0)));
        }
        C.sentence("19 -2: or none of these");
        found(FIVE, "", 0, -2);
        found(FIVE, " ", 0, -2);
        found(FIVE, " ".repeat(500), 4, -2);
    }

    private static void findNone() {
        C.sentence("19 NONE: no such SIGN (the tape stays)");
        for (int i : NO_SIGN_OF_FIVE) {
            found(FIVE, "bc", i, NONE);
        }
        found(FORTY, "a", 40, NONE);
        found(NO_SIGNS, "b", 0, NONE);
        found(NEW, "b", 0, NONE);
        C.due("the tape is looked for then", 3, FIVE.said("bc").then(x -> x.find(5)).ask(x -> x.find(1)));
        C.sentence("Where NONE and -2 could both be told, it is NONE");
        found(FIVE, "", 5, NONE);
        found(FIVE, "B1", -1, NONE);
        found(FIVE, "zz", 5, NONE);
        found(NO_SIGNS, "", 0, NONE);
        found(NEW, "\u00ff", 0, NONE);
    }

    private static void marked() {
        C.sentence("20 The MARK of a SIGN");
        for (int i = 0; i < 5; i++) {
            int at = i;
            FIVE.stays(C, "marked(" + at + ")", "01200".charAt(at) - '0', x -> x.marked(at));
        }
        C.due("marked(39)", 2, FORTY.ask(x -> x.marked(39)));
        C.due("the only one", 2, Scene.of("class a wide 1;", "a").then(x -> x.mark(0, 2)).ask(x -> x.marked(0)));
        C.sentence("20 NONE: no such one");
        for (int i : NO_SIGN_OF_FIVE) {
            FIVE.stays(C, "marked(" + i + ")", NONE, x -> x.marked(i));
        }
        C.due("marked(40)", NONE, FORTY.ask(x -> x.marked(40)));
        C.due("without SIGNS", NONE, NO_SIGNS.ask(x -> x.marked(0)));
        C.due("without the last one", NONE, FORTY.then(x -> x.delete(39, 1) ? 1 : 0).ask(x -> x.marked(39)));
    }

    private static void sign() {
        C.sentence("21 The letter's number of a SIGN");
        int[] wants = {1, 2, Z, 1, 2};
        for (int i = 0; i < 5; i++) {
            int at = i;
            FIVE.stays(C, "sign(" + at + ")", wants[i], x -> x.sign(at));
        }
        C.due("sign(39)", 1, FORTY.ask(x -> x.sign(39)));
        C.due("a's", 0, FORTY.ask(x -> x.sign(0)));
        C.sentence("21 NONE: no such one");
        for (int i : NO_SIGN_OF_FIVE) {
            FIVE.stays(C, "sign(" + i + ")", NONE, x -> x.sign(i));
        }
        C.due("sign(40)", NONE, FORTY.ask(x -> x.sign(40)));
        C.due("without SIGNS", NONE, NO_SIGNS.ask(x -> x.sign(0)));
        C.due("without the last one", NONE, FORTY.then(x -> x.delete(39, 1) ? 1 : 0).ask(x -> x.sign(39)));
    }

    private static void legal() {
        C.sentence("22 Whether an end behind a SIGN is LEGAL (1, 0)");
        int[] wants = {0, 1, 0, 0, 1};
        for (int i = 0; i < 5; i++) {
            int at = i;
            FIVE.stays(C, "legal(" + at + ")", wants[i], x -> x.legal(at));
        }
        C.sentence("22 NONE: no such one");
        for (int i : NO_SIGN_OF_FIVE) {
            FIVE.stays(C, "legal(" + i + ")", NONE, x -> x.legal(i));
        }
        C.due("legal(40)", NONE, FORTY.ask(x -> x.legal(40)));
        C.due("without SIGNS", NONE, NO_SIGNS.ask(x -> x.legal(0)));
        C.due("a new object", NONE, NEW.ask(x -> x.legal(0)));
    }

    private static void natural() {
        C.sentence("23 NATURAL width of a LINE from one SIGN to another one (not ahead of it)");
        int[][] wants = {{4, 7, 8, 13, 16}, {-1, 3, 4, 9, 12}, {-1, -1, 1, 6, 9}, {-1, -1, -1, 4, 7}, {-1, -1, -1, -1, 3}};
        for (int i = 0; i < 5; i++) {
            for (int k = 0; k < 5; k++) {
                int from = i;
                int to = k;
                FIVE.stays(C, "natural(" + from + ", " + to + ")", wants[i][k], x -> x.natural(from, to));
            }
        }
        Scene wide = Scene.of("class w wide 9 trim 8;", "w".repeat(40));
        C.due("natural(0, 39)", 39 * 9 + 1, wide.ask(x -> x.natural(0, 39)));
        C.due("natural(39, 39)", 1, wide.ask(x -> x.natural(39, 39)));
        C.due("natural(0, 0)", 1, wide.ask(x -> x.natural(0, 0)));
        C.due("the only one", 1, Scene.of("class w wide 9 trim 8;", "w").ask(x -> x.natural(0, 0)));
        C.due("a HUNG one counts", 13, Scene.of("class w wide 9 hang trim 5;", "ww").then(x -> x.width(4)).ask(x -> x.natural(0, 1)));
        C.sentence("23 NONE: no such ones");
        for (int i : NO_SIGN_OF_FIVE) {
            FIVE.stays(C, "natural(0, " + i + ")", NONE, x -> x.natural(0, i));
            FIVE.stays(C, "natural(" + i + ", 4)", NONE, x -> x.natural(i, 4));
            FIVE.stays(C, "natural(" + i + ", " + i + ")", NONE, x -> x.natural(i, i));
        }
        FIVE.stays(C, "natural(least, most)", NONE, x -> x.natural(MIN, MAX));
        C.due("natural(0, 40)", NONE, wide.ask(x -> x.natural(0, 40)));
        C.due("natural(-1, 39)", NONE, wide.ask(x -> x.natural(-1, 39)));
        C.due("without SIGNS", NONE, NO_SIGNS.ask(x -> x.natural(0, 0)));
        C.due("a new object", NONE, NEW.ask(x -> x.natural(0, 0)));
    }

    private static void cost() {
        C.sentence("24 COST of such a LINE (as the last one just if it goes to the PARAGRAPH's end)");
        Scene x = Scene.of("class a wide 3 squeeze 1 rank 2 open 1 rank 3;class e wide 2 shy end;", "aaeaa").then(y -> y.width(8));
        x.stays(C, "cost(2, 4)", 0, y -> y.cost(2, 4));
        x.stays(C, "cost(3, 4)", 0, y -> y.cost(3, 4));
        x.stays(C, "cost(4, 4)", 0, y -> y.cost(4, 4));
        x.stays(C, "cost(3, 3)", 50, y -> y.cost(3, 3));
        x.stays(C, "cost(0, 1)", 3 + 10, y -> y.cost(0, 1));
        C.sentence("24 its end as it is LEGAL");
        x.stays(C, "cost(0, 2)", 1000, y -> y.cost(0, 2));
        C.due("by a MARK 2", 1013, x.then(y -> y.mark(1, 2)).ask(y -> y.cost(0, 1)));
        C.due("by a MARK 1", 0, x.then(y -> y.mark(2, 1)).ask(y -> y.cost(0, 2)));
        C.due("the last one is LEGAL", 0, x.then(y -> y.mark(4, 2)).ask(y -> y.cost(3, 4)));
        C.sentence("24 a MARK 1 within isn't looked at");
        C.due("cost(0, 2)", 1000, x.then(y -> y.mark(0, 1), y -> y.mark(1, 1)).ask(y -> y.cost(0, 2)));
        C.sentence("24 -2: it is TOO LONG");
        Scene.Call all = y -> y.cost(0, 4);
        C.due("as wide as WIDTH", 0, x.then(y -> y.width(14)).ask(all));
        C.due("one more", 2, x.then(y -> y.width(13)).ask(all));
        C.due("all that can be taken away", 8, x.then(y -> y.width(10)).ask(all));
        x.then(y -> y.width(9)).stays(C, "one more than can be", -2, all);
        Scene one = Scene.of("class w wide 9 hang trim 1 squeeze 4 rank 1;", "ww");
        C.due("one SIGN", 3, one.then(y -> y.width(5)).ask(y -> y.cost(1, 1)));
        C.due("one SIGN TOO LONG", -2, one.then(y -> y.width(4)).ask(y -> y.cost(1, 1)));
        C.due("40 SIGNS TOO LONG", -2, FORTY.ask(y -> y.cost(0, 39)));
        C.sentence("24 NONE: no such ones");
        for (int i : NO_SIGN_OF_FIVE) {
            FIVE.stays(C, "cost(0, " + i + ")", NONE, y -> y.cost(0, i));
            FIVE.stays(C, "cost(" + i + ", 4)", NONE, y -> y.cost(i, 4));
            FIVE.stays(C, "cost(" + i + ", " + i + ")", NONE, y -> y.cost(i, i));
        }
        FIVE.stays(C, "cost(1, 0)", NONE, y -> y.cost(1, 0));
        FIVE.stays(C, "cost(4, 3)", NONE, y -> y.cost(4, 3));
        C.due("without SIGNS", NONE, NO_SIGNS.ask(y -> y.cost(0, 0)));
        C.due("a new object", NONE, NEW.ask(y -> y.cost(0, 0)));
        C.sentence("Where NONE and -2 could both be told, it is NONE");
        C.due("cost(0, 40)", NONE, FORTY.ask(y -> y.cost(0, 40)));
        C.due("cost(-1, 39)", NONE, FORTY.ask(y -> y.cost(-1, 39)));
        C.due("cost(39, 0)", NONE, FORTY.ask(y -> y.cost(39, 0)));
    }
}
