/** Promises 6 to 16 at their bounds: a sentence of the document, then what holds it. */
public final class BoundsActsTest {
    private static final Check C = new Check();
    private static final int NONE = LineEnds.NONE;
    private static final int MAX = Integer.MAX_VALUE;
    private static final int MIN = Integer.MIN_VALUE;
    private static final int Z = 25;

    /** CLASSES b, c and z; SIGNS bczbc with MARKS 01200. */
    private static final Scene FIVE = Scene.of("class b wide 4;class c wide 3 shy begin;class z wide 2;keep b z;", "bczbc")
        .then(x -> x.mark(1, 1), x -> x.mark(2, 2));
    private static final Scene ONE = FIVE.then(x -> told(x.delete(1, 4)));
    private static final Scene NO_SIGNS = FIVE.then(x -> told(x.delete(0, 5)));
    private static final Scene NEW = Scene.fresh();
    private static final Scene FORTY = Scene.forty();
    private static final Scene TEN = Scene.of(tenClasses(), "aj");

    public static void main(String[] args) {
        insert();
        delete();
        change();
        shift();
        replace();
        mark();
        width();
        pair();
        pairsMost();
        pairsKeep();
        tenClassesActs();
        shy();
        weigh();
        undo();
        undoneActs();
        ring();
        C.end();
    }

    private static String tenClasses() {
        StringBuilder text = new StringBuilder();
        for (char letter = 'a'; letter <= 'j'; letter++) {
            text.append("class ").append(letter).append(" wide 2;");
        }
        return text.toString();
    }

    private static int told(boolean answer) {
        return answer ? 1 : 0;
    }

    private static void state(String call, Scene x, String signs, String marks) {
        C.due(call + ", SIGNS", signs, x.signs());
        C.due(call + ", MARKS", marks, x.marks());
    }

    private static void takes(Scene from, String call, int want, Scene.Call act, String signs, String marks) {
        from.acts(C, call, want, act);
        state(call, from.then(act), signs, marks);
    }

    private static void insert() {
        C.sentence("6 A SIGN with MARK 0 comes ahead of SIGN i (behind all, if i is how many there are): true");
        takes(FIVE, "insert(0, z)", 1, x -> told(x.insert(0, Z)), "zbczbc", "001200");
        takes(FIVE, "insert(2, b)", 1, x -> told(x.insert(2, 1)), "bcbzbc", "010200");
        takes(FIVE, "insert(4, c)", 1, x -> told(x.insert(4, 2)), "bczbcc", "012000");
        takes(FIVE, "insert(5, z)", 1, x -> told(x.insert(5, Z)), "bczbcz", "012000");
        takes(NO_SIGNS, "insert(0, b) into none", 1, x -> told(x.insert(0, 1)), "b", "0");
        takes(ONE, "insert(1, z) behind one", 1, x -> told(x.insert(1, Z)), "bz", "00");
        takes(FIVE.then(x -> x.mark(4, 2)), "insert(5, z) behind a MARK", 1, x -> told(x.insert(5, Z)), "bczbcz", "012020");
        C.sentence("6 false, and nothing happens: no such ones");
        FIVE.stays(C, "insert(-1, b)", 0, x -> told(x.insert(-1, 1)));
        FIVE.stays(C, "insert(6, b)", 0, x -> told(x.insert(6, 1)));
        FIVE.stays(C, "insert(least, b)", 0, x -> told(x.insert(MIN, 1)));
        FIVE.stays(C, "insert(most, b)", 0, x -> told(x.insert(MAX, 1)));
        for (int letter : new int[] {-1, 0, 3, 24, 26, 33, MIN, MAX}) {
            FIVE.stays(C, "insert(0, " + letter + ")", 0, x -> told(x.insert(0, letter)));
        }
        NO_SIGNS.stays(C, "insert(1, b) into none", 0, x -> told(x.insert(1, 1)));
        NO_SIGNS.stays(C, "insert(-1, b) into none", 0, x -> told(x.insert(-1, 1)));
        NEW.stays(C, "insert(0, a) without CLASSES", 0, x -> told(x.insert(0, 0)));
        C.sentence("6 false, and nothing happens: there are 40");
        Scene thirtyNine = FORTY.then(x -> told(x.delete(39, 1)));
        takes(thirtyNine, "the 40th, ahead of all", 1, x -> told(x.insert(0, 1)), "b" + FORTY.signs().substring(0, 39), "0" + FORTY.marks().substring(0, 39));
        takes(thirtyNine, "the 40th, behind all", 1, x -> told(x.insert(39, 0)), FORTY.signs().substring(0, 39) + "a", FORTY.marks().substring(0, 39) + "0");
        FORTY.stays(C, "a 41st, ahead of all", 0, x -> told(x.insert(0, 0)));
        FORTY.stays(C, "a 41st, within", 0, x -> told(x.insert(39, 0)));
        FORTY.stays(C, "a 41st, behind all", 0, x -> told(x.insert(40, 0)));
    }

    private static void delete() {
        C.sentence("7 n SIGNS (1 on) go, from the i-th on: true");
        takes(FIVE, "delete(0, 1)", 1, x -> told(x.delete(0, 1)), "czbc", "1200");
        takes(FIVE, "delete(4, 1)", 1, x -> told(x.delete(4, 1)), "bczb", "0120");
        takes(FIVE, "delete(1, 2)", 1, x -> told(x.delete(1, 2)), "bbc", "000");
        takes(FIVE, "delete(1, 4)", 1, x -> told(x.delete(1, 4)), "b", "0");
        takes(FIVE, "delete(0, 4)", 1, x -> told(x.delete(0, 4)), "c", "0");
        takes(FIVE, "delete(0, 5)", 1, x -> told(x.delete(0, 5)), "", "");
        takes(ONE, "the only one", 1, x -> told(x.delete(0, 1)), "", "");
        takes(FORTY, "delete(0, 40)", 1, x -> told(x.delete(0, 40)), "", "");
        takes(FORTY, "delete(39, 1)", 1, x -> told(x.delete(39, 1)), FORTY.signs().substring(0, 39), FORTY.marks().substring(0, 39));
        C.sentence("7 false, and nothing happens: no such ones");
        int[][] none = {{0, 0}, {4, 0}, {0, -1}, {2, -2}, {-1, 1}, {-1, 2}, {5, 1}, {5, 0}, {0, 6}, {1, 5}, {4, 2}, {6, -1},
            {MIN, 1}, {MAX, 1}, {0, MIN}, {0, MAX}, {1, MAX}, {MAX, MAX}, {MIN, MIN}, {MIN, MAX}};
        for (int[] of : none) {
            FIVE.stays(C, "delete(" + of[0] + ", " + of[1] + ")", 0, x -> told(x.delete(of[0], of[1])));
        }
        NO_SIGNS.stays(C, "delete(0, 1) of none", 0, x -> told(x.delete(0, 1)));
        NO_SIGNS.stays(C, "delete(0, 0) of none", 0, x -> told(x.delete(0, 0)));
        NEW.stays(C, "delete(0, 1) of a new object", 0, x -> told(x.delete(0, 1)));
        FORTY.stays(C, "delete(0, 41)", 0, x -> told(x.delete(0, 41)));
        FORTY.stays(C, "delete(40, 1)", 0, x -> told(x.delete(40, 1)));
        FORTY.stays(C, "delete(39, 2)", 0, x -> told(x.delete(39, 2)));
    }

    private static void change() {
        C.sentence("8 A SIGN becomes of another CLASS (its MARK stays): the letter's number it was");
        takes(FIVE, "change(0, z)", 1, x -> x.change(0, Z), "zczbc", "01200");
        takes(FIVE, "change(1, b)", 2, x -> x.change(1, 1), "bbzbc", "01200");
        takes(FIVE, "change(2, c)", Z, x -> x.change(2, 2), "bccbc", "01200");
        takes(FIVE, "change(4, z)", 2, x -> x.change(4, Z), "bczbz", "01200");
        takes(FORTY, "change(39, a)", 1, x -> x.change(39, 0), FORTY.signs().substring(0, 39) + "a", FORTY.marks());
        C.due("it was 0", 0, FORTY.ask(x -> x.change(0, 1)));
        C.sentence("8 NONE: no such ones");
        for (int i : new int[] {-1, 5, MIN, MAX}) {
            FIVE.stays(C, "change(" + i + ", b)", NONE, x -> x.change(i, 1));
        }
        for (int letter : new int[] {-1, 0, 3, 24, 26, 34, MIN, MAX}) {
            FIVE.stays(C, "change(0, " + letter + ")", NONE, x -> x.change(0, letter));
        }
        FORTY.stays(C, "change(40, a)", NONE, x -> x.change(40, 0));
        NO_SIGNS.stays(C, "change(0, b) of none", NONE, x -> x.change(0, 1));
        NEW.stays(C, "change(0, 0) of a new object", NONE, x -> x.change(0, 0));
        C.sentence("8 NONE: it is so");
        FIVE.stays(C, "change(0, b)", NONE, x -> x.change(0, 1));
        FIVE.stays(C, "change(2, z)", NONE, x -> x.change(2, Z));
        FIVE.stays(C, "change(4, c)", NONE, x -> x.change(4, 2));
    }

    private static void shift() {
        C.sentence("9 n SIGNS (1 on), from the i-th on, go to another place, with their MARKS: the first one is SIGN to then: true");
        takes(FIVE, "shift(1, 1, 0)", 1, x -> told(x.shift(1, 1, 0)), "cbzbc", "10200");
        takes(FIVE, "shift(1, 1, 4)", 1, x -> told(x.shift(1, 1, 4)), "bzbcc", "02001");
        takes(FIVE, "shift(1, 2, 0)", 1, x -> told(x.shift(1, 2, 0)), "czbbc", "12000");
        takes(FIVE, "shift(1, 2, 2)", 1, x -> told(x.shift(1, 2, 2)), "bbczc", "00120");
        takes(FIVE, "shift(1, 2, 3)", 1, x -> told(x.shift(1, 2, 3)), "bbccz", "00012");
        takes(FIVE, "shift(0, 4, 1)", 1, x -> told(x.shift(0, 4, 1)), "cbczb", "00120");
        takes(FIVE, "shift(1, 4, 0)", 1, x -> told(x.shift(1, 4, 0)), "czbcb", "12000");
        takes(FIVE, "shift(4, 1, 0)", 1, x -> told(x.shift(4, 1, 0)), "cbczb", "00120");
        takes(FIVE, "shift(0, 1, 4)", 1, x -> told(x.shift(0, 1, 4)), "czbcb", "12000");
        String signs = FORTY.signs();
        String marks = FORTY.marks();
        takes(FORTY, "shift(0, 1, 39)", 1, x -> told(x.shift(0, 1, 39)), signs.substring(1) + "a", marks.substring(1) + marks.charAt(0));
        takes(FORTY, "shift(39, 1, 0)", 1, x -> told(x.shift(39, 1, 0)), "b" + signs.substring(0, 39), marks.charAt(39) + marks.substring(0, 39));
        takes(FORTY, "shift(1, 39, 0)", 1, x -> told(x.shift(1, 39, 0)), signs.substring(1) + "a", marks.substring(1) + marks.charAt(0));
        C.sentence("9 false, and nothing happens: no such ones (to 0 to all SIGNS less n)");
        int[][] none = {{0, 0, 1}, {0, -1, 1}, {-1, 1, 0}, {-1, 2, 0}, {5, 1, 0}, {4, 2, 0}, {1, 5, 0}, {0, 6, 0}, {0, 1, 5}, {0, 1, -1}, {0, 2, 4},
            {1, 2, 4}, {0, 4, 2}, {1, 2, -1}, {0, 5, 1}, {0, 5, -1}, {0, 0, 5}, {5, 0, 0}, {MAX, 1, 0}, {MIN, 1, 0}, {1, MAX, 0}, {0, MAX, 1},
            {1, MIN, 0}, {0, 1, MAX}, {0, 1, MIN}, {MAX, MAX, MAX}, {MIN, MIN, 0}};
        for (int[] of : none) {
            FIVE.stays(C, "shift(" + of[0] + ", " + of[1] + ", " + of[2] + ")", 0, x -> told(x.shift(of[0], of[1], of[2])));
        }
        FORTY.stays(C, "shift(0, 1, 40)", 0, x -> told(x.shift(0, 1, 40)));
        FORTY.stays(C, "shift(0, 40, 1)", 0, x -> told(x.shift(0, 40, 1)));
        NO_SIGNS.stays(C, "shift(0, 1, 0) of none", 0, x -> told(x.shift(0, 1, 0)));
        NEW.stays(C, "shift(0, 1, 1) of a new object", 0, x -> told(x.shift(0, 1, 1)));
        C.sentence("9 false, and nothing happens: to is i");
        FIVE.stays(C, "shift(0, 1, 0)", 0, x -> told(x.shift(0, 1, 0)));
        FIVE.stays(C, "shift(3, 2, 3)", 0, x -> told(x.shift(3, 2, 3)));
        FIVE.stays(C, "shift(0, 5, 0)", 0, x -> told(x.shift(0, 5, 0)));
        ONE.stays(C, "shift(0, 1, 0) of one", 0, x -> told(x.shift(0, 1, 0)));
    }

    private static void replace() {
        C.sentence("10 All SIGNS of a CLASS become of another one (MARKS stay): how many");
        takes(FIVE, "replace(b, z)", 2, x -> x.replace(1, Z), "zczzc", "01200");
        takes(FIVE, "replace(z, b)", 1, x -> x.replace(Z, 1), "bcbbc", "01200");
        takes(FIVE, "replace(c, b)", 2, x -> x.replace(2, 1), "bbzbb", "01200");
        takes(ONE, "replace(b, c) of one", 1, x -> x.replace(1, 2), "c", "0");
        takes(FORTY, "replace(a, b)", 20, x -> x.replace(0, 1), "b".repeat(40), FORTY.marks());
        C.due("all 40", 40, FORTY.then(x -> x.replace(0, 1)).ask(x -> x.replace(1, 0)));
        C.sentence("10 NONE: no such CLASSES");
        for (int letter : new int[] {-1, 0, 3, 24, 26, MIN, MAX}) {
            FIVE.stays(C, "replace(b, " + letter + ")", NONE, x -> x.replace(1, letter));
            FIVE.stays(C, "replace(" + letter + ", b)", NONE, x -> x.replace(letter, 1));
        }
        NEW.stays(C, "replace(0, 1) of a new object", NONE, x -> x.replace(0, 1));
        C.sentence("10 NONE: both are one");
        FIVE.stays(C, "replace(b, b)", NONE, x -> x.replace(1, 1));
        FIVE.stays(C, "replace(z, z)", NONE, x -> x.replace(Z, Z));
        C.sentence("10 NONE: there is none of it");
        FIVE.then(x -> x.replace(1, 2)).stays(C, "replace(b, c) twice", NONE, x -> x.replace(1, 2));
        NO_SIGNS.stays(C, "replace(b, c) of none", NONE, x -> x.replace(1, 2));
        ONE.stays(C, "replace(z, b) of one b", NONE, x -> x.replace(Z, 1));
    }

    private static void mark() {
        C.sentence("11 A SIGN has another MARK (0 .. 2): which it had");
        for (int i = 0; i < 5; i++) {
            int at = i;
            int had = "01200".charAt(i) - '0';
            for (int k = 0; k <= 2; k++) {
                int mark = k;
                if (mark != had) {
                    takes(FIVE, "mark(" + at + ", " + mark + ")", had, x -> x.mark(at, mark), "bczbc", "01200".substring(0, at) + mark + "01200".substring(at + 1));
                }
            }
        }
        takes(FORTY, "mark(39, 0)", 2, x -> x.mark(39, 0), FORTY.signs(), FORTY.marks().substring(0, 39) + "0");
        C.sentence("11 NONE: no such ones");
        for (int mark : new int[] {-1, 3, 4, MIN, MAX}) {
            FIVE.stays(C, "mark(0, " + mark + ")", NONE, x -> x.mark(0, mark));
        }
        for (int i : new int[] {-1, 5, MIN, MAX}) {
            FIVE.stays(C, "mark(" + i + ", 1)", NONE, x -> x.mark(i, 1));
        }
        FORTY.stays(C, "mark(40, 1)", NONE, x -> x.mark(40, 1));
        NO_SIGNS.stays(C, "mark(0, 1) of none", NONE, x -> x.mark(0, 1));
        NEW.stays(C, "mark(0, 1) of a new object", NONE, x -> x.mark(0, 1));
        C.sentence("11 NONE: it is so");
        FIVE.stays(C, "mark(0, 0)", NONE, x -> x.mark(0, 0));
        FIVE.stays(C, "mark(1, 1)", NONE, x -> x.mark(1, 1));
        FIVE.stays(C, "mark(2, 2)", NONE, x -> x.mark(2, 2));
    }

    private static void width() {
        C.sentence("12 WIDTH is another one: which it was");
        for (int width : new int[] {4, 5, 19, 21, 79, 80}) {
            FIVE.acts(C, "width(" + width + ")", 20, x -> x.width(width));
            C.due("it is " + width, width, FIVE.then(x -> x.width(width)).ask(x -> x.count(3)));
            C.due("it was " + width, width, FIVE.then(x -> x.width(width)).ask(x -> x.width(20)));
        }
        NEW.acts(C, "width(4) of a new object", 20, x -> x.width(4));
        C.sentence("12 NONE: out of bounds");
        for (int width : new int[] {3, 81, 0, -1, 100, MIN, MAX}) {
            FIVE.stays(C, "width(" + width + ")", NONE, x -> x.width(width));
        }
        C.sentence("12 NONE: it is so");
        NEW.stays(C, "width(20)", NONE, x -> x.width(20));
        for (int width : new int[] {4, 80}) {
            FIVE.then(x -> x.width(width)).stays(C, "width(" + width + ") twice", NONE, x -> x.width(width));
        }
    }

    private static void pair() {
        C.sentence("13 A PAIR comes, or goes (if it is there): 1 it is there now, 0 it isn't");
        FIVE.acts(C, "pair(b, z) goes", 0, x -> x.pair(1, Z));
        FIVE.acts(C, "pair(z, b) comes", 1, x -> x.pair(Z, 1));
        FIVE.acts(C, "pair(c, c) comes", 1, x -> x.pair(2, 2));
        C.due("it went", 0, FIVE.then(x -> x.pair(1, Z)).ask(x -> x.isPair(1, Z)));
        C.due("none is there", 0, FIVE.then(x -> x.pair(1, Z)).ask(x -> x.count(1)));
        C.due("it comes again", 1, FIVE.then(x -> x.pair(1, Z)).ask(x -> x.pair(1, Z)));
        C.due("it came", 1, FIVE.then(x -> x.pair(Z, 1)).ask(x -> x.isPair(Z, 1)));
        C.due("the other order stays", 1, FIVE.then(x -> x.pair(Z, 1)).ask(x -> x.isPair(1, Z)));
        C.due("two are there", 2, FIVE.then(x -> x.pair(Z, 1)).ask(x -> x.count(1)));
        C.due("of one CLASS twice", 1, FIVE.then(x -> x.pair(2, 2)).ask(x -> x.isPair(2, 2)));
        C.sentence("13 NONE: no such CLASSES");
        for (int letter : new int[] {-1, 0, 3, 24, 26, 33, MIN, MAX}) {
            FIVE.stays(C, "pair(b, " + letter + ")", NONE, x -> x.pair(1, letter));
            FIVE.stays(C, "pair(" + letter + ", b)", NONE, x -> x.pair(letter, 1));
        }
        NEW.stays(C, "pair(0, 0) of a new object", NONE, x -> x.pair(0, 0));
    }

    private static void pairsMost() {
        C.sentence("13 NONE: there are 12");
        Scene pairs = TEN;
        for (int i = 0; i < 12; i++) {
            int first = i / 10;
            int second = i % 10;
            pairs.acts(C, "PAIR " + i, 1, x -> x.pair(first, second));
            pairs = pairs.then(x -> x.pair(first, second));
            C.due("PAIRS", i + 1, pairs.ask(x -> x.count(1)));
        }
        pairs.stays(C, "a 13th", NONE, x -> x.pair(9, 9));
        pairs.stays(C, "a 13th", NONE, x -> x.pair(1, 2));
        C.due("one of 12 goes", 0, pairs.ask(x -> x.pair(0, 0)));
        C.due("eleven are left", 11, pairs.then(x -> x.pair(0, 0)).ask(x -> x.count(1)));
        C.due("then another one comes", 1, pairs.then(x -> x.pair(0, 0)).ask(x -> x.pair(9, 9)));
        pairs.then(x -> x.pair(0, 0), x -> x.pair(9, 9)).stays(C, "and no 13th", NONE, x -> x.pair(0, 0));
        C.due("the PAIRS stay through SIGNS that come", 12, pairs.then(x -> told(x.insert(0, 0))).ask(x -> x.count(1)));
        Scene toldSo = Scene.of(tenClasses() + "keep a a;keep a b;keep a c;keep a d;keep a e;keep a f;keep a g;keep a h;keep a i;keep a j;keep b a;keep b b;", "");
        toldSo.stays(C, "a 13th behind 12 of the TABLE", NONE, x -> x.pair(1, 2));
        toldSo.acts(C, "one of 12 of the TABLE goes", 0, x -> x.pair(1, 1));
    }

    /** Each of 12 PAIRS keeps a LINE from ending, and no other two SIGNS do. */
    private static void pairsKeep() {
        C.sentence("PAIRS (12 at most) of CLASSES: no line ends between the first and the second, side by side");
        Scene none = Scene.of(tenClasses(), "aabacadaeafagahaiajbabbbcbd");
        Scene twelve = none;
        for (int i = 0; i < 12; i++) {
            int first = i / 10;
            int second = i % 10;
            twelve = twelve.then(x -> x.pair(first, second));
        }
        String signs = none.signs();
        for (int n = 0; n < signs.length() - 1; n++) {
            int i = n;
            int both = (signs.charAt(i) - 'a') * 10 + signs.charAt(i + 1) - 'a';
            C.due("legal(" + i + ") with 12 PAIRS", both < 12 ? 0 : 1, twelve.ask(x -> x.legal(i)));
            C.due("legal(" + i + ") with no PAIRS", 1, none.ask(x -> x.legal(i)));
        }
    }

    private static void tenClassesActs() {
        C.sentence("CLASSES: small letters, 10 at most: the 10th is one, the letter behind it is none");
        TEN.acts(C, "insert(0, j)", 1, x -> told(x.insert(0, 9)));
        TEN.stays(C, "insert(0, k)", 0, x -> told(x.insert(0, 10)));
        TEN.acts(C, "change(0, j)", 0, x -> x.change(0, 9));
        TEN.stays(C, "change(0, k)", NONE, x -> x.change(0, 10));
        TEN.acts(C, "replace(a, j)", 1, x -> x.replace(0, 9));
        TEN.acts(C, "replace(j, a)", 1, x -> x.replace(9, 0));
        TEN.stays(C, "replace(a, k)", NONE, x -> x.replace(0, 10));
        TEN.stays(C, "replace(k, a)", NONE, x -> x.replace(10, 0));
        TEN.acts(C, "pair(j, j)", 1, x -> x.pair(9, 9));
        TEN.stays(C, "pair(j, k)", NONE, x -> x.pair(9, 10));
        TEN.acts(C, "shy(j, true)", 1, x -> x.shy(9, true));
        TEN.stays(C, "shy(k, true)", NONE, x -> x.shy(10, true));
        TEN.stays(C, "of(j, 9)", 1, x -> x.of(9, 9));
        TEN.stays(C, "of(k, 9)", NONE, x -> x.of(10, 9));
        TEN.stays(C, "isPair(j, j)", 0, x -> x.isPair(9, 9));
        TEN.stays(C, "isPair(j, k)", NONE, x -> x.isPair(9, 10));
        TEN.stays(C, "atEnds(0, j, true)", 1, x -> x.atEnds(0, 9, true));
        TEN.stays(C, "atEnds(0, k, true)", NONE, x -> x.atEnds(0, 10, true));
        NEW.stays(C, "no CLASSES: shift(0, 1, 0)", 0, x -> told(x.shift(0, 1, 0)));
    }

    private static void shy() {
        C.sentence("14 A CLASS is SHY of a line's begin (false), its end (true) from now on, or isn't any more: 1 it is now, 0 it isn't");
        int[][] calls = {{1, 0, 1}, {1, 1, 1}, {2, 0, 0}, {2, 1, 1}, {Z, 0, 1}, {Z, 1, 1}};
        for (int[] of : calls) {
            boolean end = of[1] == 1;
            String call = "shy(" + of[0] + ", " + end + ")";
            FIVE.acts(C, call, of[2], x -> x.shy(of[0], end));
            C.due(call + ", told by of", of[2], FIVE.then(x -> x.shy(of[0], end)).ask(x -> x.of(of[0], end ? 2 : 1)));
            C.due(call + ", the other one", FIVE.ask(x -> x.of(of[0], end ? 1 : 2)), FIVE.then(x -> x.shy(of[0], end)).ask(x -> x.of(of[0], end ? 1 : 2)));
            C.due(call + ", twice", 1 - of[2], FIVE.then(x -> x.shy(of[0], end)).ask(x -> x.shy(of[0], end)));
        }
        C.due("an end by it", 0, FIVE.then(x -> x.shy(Z, true), x -> x.mark(2, 0)).ask(x -> x.legal(2)));
        C.due("an end without", 1, FIVE.then(x -> x.mark(2, 0)).ask(x -> x.legal(2)));
        C.due("a begin by it", 0, FIVE.then(x -> x.shy(1, false), x -> x.mark(2, 0)).ask(x -> x.legal(2)));
        NO_SIGNS.acts(C, "without SIGNS", 1, x -> x.shy(1, true));
        C.sentence("14 NONE: no such CLASS");
        for (int letter : new int[] {-1, 0, 3, 24, 26, 33, 57, MIN, MAX}) {
            FIVE.stays(C, "shy(" + letter + ", true)", NONE, x -> x.shy(letter, true));
            FIVE.stays(C, "shy(" + letter + ", false)", NONE, x -> x.shy(letter, false));
        }
        NEW.stays(C, "shy(0, true) of a new object", NONE, x -> x.shy(0, true));
    }

    private static void weigh() {
        int[][] bounds = {{0, 9, 2}, {1, 99, 10}, {1, 9999, 1000}};
        for (int i = 0; i < 3; i++) {
            int what = i;
            int first = bounds[i][2];
            C.sentence("15 A WEIGHT (0 .. 2) is another one: which it was");
            for (int v : new int[] {bounds[i][0], bounds[i][0] + 1, bounds[i][1] - 1, bounds[i][1]}) {
                FIVE.acts(C, "weigh(" + what + ", " + v + ")", first, x -> x.weigh(what, v));
                C.due("it is " + v, v, FIVE.then(x -> x.weigh(what, v)).ask(x -> x.count(8 + what)));
                C.due("it was " + v, v, FIVE.then(x -> x.weigh(what, v)).ask(x -> x.weigh(what, first)));
                for (int k = 0; k < 3; k++) {
                    int other = k;
                    C.due("WEIGHT " + k, k == i ? v : bounds[k][2], FIVE.then(x -> x.weigh(what, v)).ask(x -> x.count(8 + other)));
                }
            }
            C.sentence("15 NONE: out of bounds");
            for (int v : new int[] {bounds[i][0] - 1, bounds[i][1] + 1, -1, MIN, MAX}) {
                FIVE.stays(C, "weigh(" + what + ", " + v + ")", NONE, x -> x.weigh(what, v));
            }
            C.sentence("15 NONE: it is so");
            NEW.stays(C, "weigh(" + what + ", " + first + ")", NONE, x -> x.weigh(what, first));
            for (int v : new int[] {bounds[i][0], bounds[i][1]}) {
                FIVE.then(x -> x.weigh(what, v)).stays(C, "weigh(" + what + ", " + v + ") twice", NONE, x -> x.weigh(what, v));
            }
        }
        C.sentence("15 NONE: no such one");
        for (int what : new int[] {-1, 3, MIN, MAX}) {
            FIVE.stays(C, "weigh(" + what + ", 5)", NONE, x -> x.weigh(what, 5));
        }
    }

    private static void undo() {
        C.sentence("16 NONE: none can");
        NEW.stays(C, "a new object", NONE, LineEnds::undo);
        Scene.of("class a wide 1;", "a").stays(C, "TABLE and PARAGRAPH are no ACTS", NONE, LineEnds::undo);
        Scene.fresh().said("abc").stays(C, "the tape is none", NONE, LineEnds::undo);
        Scene refused = Scene.of("class a wide 1;", "a").then(x -> x.width(3), x -> x.width(20), x -> x.weigh(0, 2), x -> x.mark(0, 0), x -> x.change(0, 0),
            x -> told(x.insert(2, 0)), x -> told(x.delete(0, 2)), x -> told(x.shift(0, 1, 0)), x -> x.replace(0, 0), x -> x.pair(0, 1), x -> x.shy(1, true));
        refused.stays(C, "refused calls are none", NONE, LineEnds::undo);
        C.sentence("16 The latest ACT is taken back: how many more can be");
        Scene one = Scene.of("class a wide 1;", "a").then(x -> x.width(30));
        C.due("of one", 0, one.ask(LineEnds::undo));
        one.then(LineEnds::undo).stays(C, "none more", NONE, LineEnds::undo);
        C.due("undo is no ACT", 0, one.then(LineEnds::undo).ask(x -> x.count(4)));
        one.then(LineEnds::undo).looksAs(C, "as it was", Scene.of("class a wide 1;", "a"));
        C.due("the tape stays", 3, one.said("abc").then(LineEnds::undo).ask(x -> x.count(5)));
        C.due("of two", 1, one.then(x -> x.width(31)).ask(LineEnds::undo));
        C.due("the latest one", 30, one.then(x -> x.width(31), LineEnds::undo).ask(x -> x.count(3)));
        C.due("an ACT behind an undo", 1, one.then(x -> x.width(31), LineEnds::undo, x -> x.width(32)).ask(LineEnds::undo));
        C.due("an ACT behind an undo", 30, one.then(x -> x.width(31), LineEnds::undo, x -> x.width(32), LineEnds::undo).ask(x -> x.count(3)));
    }

    /** Every kind of ACT on an object that has some of all, each undone, one by one and all of them. */
    private static void undoneActs() {
        C.sentence("16 The latest ACT is taken back");
        Scene x = Scene.busy();
        x.acts(C, "insert", 1, y -> told(y.insert(3, Z)));
        x.acts(C, "delete", 1, y -> told(y.delete(4, 4)));
        x.acts(C, "change", 0, y -> y.change(0, Z));
        x.acts(C, "shift", 1, y -> told(y.shift(4, 3, 8)));
        x.acts(C, "replace", 4, y -> y.replace(0, 2));
        x.acts(C, "mark", 1, y -> y.mark(4, 0));
        x.acts(C, "width", 11, y -> y.width(80));
        x.acts(C, "pair", 0, y -> y.pair(0, 1));
        x.acts(C, "shy", 0, y -> y.shy(25, true));
        x.acts(C, "weigh", 500, y -> y.weigh(2, 1));
        Scene all = Scene.of("class a wide 2;class b wide 3;", "abab").then(y -> told(y.insert(0, 1)), y -> told(y.delete(1, 2)), y -> y.change(0, 0),
            y -> told(y.shift(0, 1, 2)), y -> y.replace(1, 0), y -> y.mark(0, 1), y -> y.width(4), y -> y.pair(0, 1), y -> y.shy(0, true), y -> y.weigh(0, 0));
        for (int i = 0; i < 10; i++) {
            C.due("all of them, " + i, 9 - i, all.ask(LineEnds::undo));
            all = all.then(LineEnds::undo);
        }
        all.looksAs(C, "all of them", Scene.of("class a wide 2;class b wide 3;", "abab"));
    }

    /** ACTS beyond the 12 that can be undone, twice around and more. */
    private static void ring() {
        C.sentence("acts, of which the latest 12 can be undone");
        for (int n = 1; n <= 40; n++) {
            LineEnds x = new LineEnds();
            for (int i = 1; i <= n; i++) {
                C.due("ACT " + i, 19 + i, x.width(20 + i));
                C.due("ACTS behind ACT " + i, Math.min(i, 12), x.count(4));
            }
            int can = Math.min(n, 12);
            for (int left = can - 1; left >= 0; left--) {
                C.due("undo behind " + n + " ACTS", left, x.undo());
                C.due("WIDTH, behind " + n + " ACTS", 20 + n - can + left, x.count(3));
            }
            C.due("the one behind them, of " + n, NONE, x.undo());
            C.due("WIDTH stays, of " + n, 20 + n - can, x.count(3));
            C.due("ACTS, of " + n, 0, x.count(4));
            C.due("an ACT then, of " + n, 20 + n - can, x.width(79));
            C.due("is undone, of " + n, 0, x.undo());
            C.due("as it was, of " + n, 20 + n - can, x.count(3));
        }
        LineEnds y = new LineEnds();
        for (int i = 0; i < 12; i++) {
            y.width(40 + i);
        }
        for (int i = 0; i < 5; i++) {
            y.undo();
        }
        C.due("seven are left", 7, y.count(4));
        for (int i = 0; i < 6; i++) {
            y.width(60 + i);
        }
        C.due("12 again", 12, y.count(4));
        int[] widths = {64, 63, 62, 61, 60, 46, 45, 44, 43, 42, 41, 40};
        for (int i = 0; i < 12; i++) {
            C.due("undo", 11 - i, y.undo());
            C.due("WIDTH", widths[i], y.count(3));
        }
        C.due("no more", NONE, y.undo());
    }
}
