/** Promises 6 to 24: acts, undoing them, and what is asked of CLASSES and SIGNS. */
public final class ActsTest {
    private static final Check C = new Check();
    private static final int MAX = Integer.MAX_VALUE;
    private static final int MIN = Integer.MIN_VALUE;
    private static final String ABC = "class a wide 4;class b wide 3;class c wide 2;";

    public static void main(String[] args) {
        insert();
        delete();
        change();
        shift();
        replace();
        mark();
        width();
        pair();
        shy();
        weigh();
        undo();
        undoOfEach();
        asked();
        find();
        legal();
        natural();
        cost();
        C.end();
    }

    private static void state(String what, LineEnds x, String signs, String marks, int acts) {
        C.due(what + ": signs", signs, Check.signs(x));
        C.due(what + ": marks", marks, Check.marks(x));
        C.due(what + ": acts", acts, x.count(4));
    }

    /** A new object of SIGNS abcab, MARKS 01200 and no ACTS but two. */
    private static LineEnds marked() {
        LineEnds x = new LineEnds();
        Check.table(x, ABC);
        Check.paragraph(x, "abcab");
        x.mark(1, 1);
        x.mark(2, 2);
        return x;
    }

    private static void insert() {
        LineEnds x = marked();
        C.due("6 ahead of a SIGN", true, x.insert(1, 2));
        state("6", x, "acbcab", "001200", 3);
        C.due("6 behind all", true, x.insert(6, 0));
        state("6", x, "acbcaba", "0012000", 4);
        C.due("6 ahead of all", true, x.insert(0, 1));
        state("6", x, "bacbcaba", "00012000", 5);
        C.due("6 i too great", false, x.insert(9, 0));
        C.due("6 i below 0", false, x.insert(-1, 0));
        C.due("6 no CLASS", false, x.insert(0, 3));
        C.due("6 no letter", false, x.insert(0, -1));
        C.due("6 no letter", false, x.insert(0, 26));
        C.due("6 far off", false, x.insert(MAX, MIN));
        state("6 nothing happens", x, "bacbcaba", "00012000", 5);
        Check.paragraph(x, "a".repeat(39));
        C.due("6 the 40th", true, x.insert(39, 1));
        C.due("6 a 41st", false, x.insert(0, 1));
        C.due("6 40 SIGNS", 40, x.count(2));
    }

    private static void delete() {
        LineEnds x = marked();
        C.due("7 too many", false, x.delete(3, 3));
        C.due("7 n 0", false, x.delete(0, 0));
        C.due("7 n below 0", false, x.delete(2, -1));
        C.due("7 i below 0", false, x.delete(-1, 2));
        C.due("7 i too great", false, x.delete(5, 1));
        C.due("7 far off", false, x.delete(1, MAX));
        C.due("7 far off", false, x.delete(MAX, MAX));
        state("7 nothing happens", x, "abcab", "01200", 2);
        C.due("7 one", true, x.delete(0, 1));
        state("7", x, "bcab", "1200", 3);
        C.due("7 two", true, x.delete(1, 2));
        state("7", x, "bb", "10", 4);
        C.due("7 all", true, x.delete(0, 2));
        state("7", x, "", "", 5);
        C.due("7 none there", false, x.delete(0, 1));
    }

    private static void change() {
        LineEnds x = marked();
        C.due("8 change", 1, x.change(1, 2));
        state("8", x, "accab", "01200", 3);
        C.due("8 it is so", -1, x.change(1, 2));
        C.due("8 no SIGN", -1, x.change(5, 0));
        C.due("8 no SIGN", -1, x.change(-1, 0));
        C.due("8 no CLASS", -1, x.change(0, 3));
        C.due("8 no CLASS", -1, x.change(0, -1));
        C.due("8 no CLASS", -1, x.change(0, MAX));
        state("8 nothing happens", x, "accab", "01200", 3);
        C.due("8 a letter's number 0", 0, x.change(0, 1));
    }

    private static void shift() {
        LineEnds x = marked();
        C.due("9 to is i", false, x.shift(1, 2, 1));
        C.due("9 to too great", false, x.shift(0, 2, 4));
        C.due("9 to below 0", false, x.shift(1, 2, -1));
        C.due("9 n 0", false, x.shift(1, 0, 2));
        C.due("9 n below 0", false, x.shift(1, -1, 2));
        C.due("9 too many", false, x.shift(3, 3, 0));
        C.due("9 no SIGN", false, x.shift(5, 1, 0));
        C.due("9 no SIGN", false, x.shift(-1, 1, 0));
        C.due("9 far off", false, x.shift(1, MAX, 0));
        C.due("9 far off", false, x.shift(0, 1, MAX));
        state("9 nothing happens", x, "abcab", "01200", 2);
        C.due("9 on", true, x.shift(1, 2, 3));
        state("9", x, "aabbc", "00012", 3);
        C.due("9 back", true, x.shift(3, 2, 0));
        state("9", x, "bcaab", "12000", 4);
        C.due("9 one on by one", true, x.shift(0, 1, 1));
        state("9", x, "cbaab", "21000", 5);
        C.due("9 over itself", true, x.shift(0, 3, 1));
        state("9", x, "acbab", "02100", 6);
        C.due("9 one back", true, x.shift(4, 1, 2));
        state("9", x, "acbba", "02010", 7);
    }

    private static void replace() {
        LineEnds x = marked();
        C.due("10 replace", 2, x.replace(1, 2));
        state("10", x, "accac", "01200", 3);
        C.due("10 none of it", -1, x.replace(1, 2));
        C.due("10 both are one", -1, x.replace(2, 2));
        C.due("10 no CLASS", -1, x.replace(3, 2));
        C.due("10 no CLASS", -1, x.replace(2, 3));
        C.due("10 far off", -1, x.replace(MIN, MAX));
        state("10 nothing happens", x, "accac", "01200", 3);
        C.due("10 into one that is there", 3, x.replace(2, 0));
        state("10", x, "aaaaa", "01200", 4);
        C.due("10 all, the first and the last too", 5, x.replace(0, 1));
        state("10", x, "bbbbb", "01200", 5);
    }

    private static void mark() {
        LineEnds x = marked();
        C.due("11 which it had", 1, x.mark(1, 2));
        C.due("11 which it had", 2, x.mark(1, 0));
        C.due("11 which it had", 0, x.mark(4, 1));
        state("11", x, "abcab", "00201", 5);
        C.due("11 it is so", -1, x.mark(4, 1));
        C.due("11 no MARK", -1, x.mark(4, 3));
        C.due("11 no MARK", -1, x.mark(4, -1));
        C.due("11 no SIGN", -1, x.mark(5, 1));
        C.due("11 no SIGN", -1, x.mark(-1, 1));
        state("11 nothing happens", x, "abcab", "00201", 5);
    }

    private static void width() {
        LineEnds x = new LineEnds();
        C.due("12 it is so", -1, x.width(20));
        C.due("12 below", -1, x.width(3));
        C.due("12 above", -1, x.width(81));
        C.due("12 far off", -1, x.width(MIN));
        C.due("12 no ACT", 0, x.count(4));
        C.due("12 least", 20, x.width(4));
        C.due("12 most", 4, x.width(80));
        C.due("12 it is", 80, x.count(3));
        C.due("12 ACTS", 2, x.count(4));
        LineEnds y = Check.made(ABC, "aaaa", 8);
        C.due("12 LINES by it", "aa|aa", Check.spelt(y, 0));
        y.width(16);
        C.due("12 LINES by another one", "aaaa", Check.spelt(y, 0));
    }

    private static void pair() {
        LineEnds x = new LineEnds();
        Check.table(x, "class a wide 1;class b wide 1;class c wide 1;class d wide 1;keep a b;");
        C.due("13 it goes", 0, x.pair(0, 1));
        C.due("13 it isn't there", 0, x.isPair(0, 1));
        C.due("13 it comes", 1, x.pair(0, 1));
        C.due("13 it is there", 1, x.isPair(0, 1));
        C.due("13 in this order", 0, x.isPair(1, 0));
        C.due("13 no CLASS", -1, x.pair(0, 4));
        C.due("13 no CLASS", -1, x.pair(-1, 0));
        C.due("13 no CLASS", -1, x.pair(MAX, MIN));
        C.due("13 ACTS", 2, x.count(4));
        for (int i = 2; i < 13; i++) {
            C.due("13 PAIR " + i, 1, x.pair(i / 4, i % 4));
        }
        C.due("13 twelve", 12, x.count(1));
        C.due("13 a 13th", -1, x.pair(3, 3));
        C.due("13 one of twelve goes", 0, x.pair(3, 0));
        C.due("13 eleven", 11, x.count(1));
        C.due("13 then another one comes", 1, x.pair(3, 3));
        C.due("13 and a 13th doesn't", -1, x.pair(3, 0));
    }

    private static void shy() {
        LineEnds x = Check.made("class a wide 4 shy begin;class b wide 3;", "abab", 20);
        C.due("14 not any more", 0, x.shy(0, false));
        C.due("14 begin", 0, x.of(0, 1));
        C.due("14 from now on", 1, x.shy(0, true));
        C.due("14 end", 1, x.of(0, 2));
        C.due("14 begin stays", 0, x.of(0, 1));
        C.due("14 an end by it", 0, x.legal(0));
        C.due("14 and another one", 1, x.legal(1));
        C.due("14 begin again", 1, x.shy(1, false));
        C.due("14 of b", 1, x.of(1, 1));
        C.due("14 of a", 0, x.of(0, 1));
        C.due("14 no CLASS", -1, x.shy(2, true));
        C.due("14 no CLASS", -1, x.shy(-1, false));
        C.due("14 no CLASS", -1, x.shy(32, false));
        C.due("14 ACTS", 3, x.count(4));
    }

    private static void weigh() {
        LineEnds x = new LineEnds();
        int[][] bounds = {{0, 9, 2}, {1, 99, 10}, {1, 9999, 1000}};
        for (int what = 0; what < 3; what++) {
            C.due("15 it is so", -1, x.weigh(what, bounds[what][2]));
            C.due("15 below", -1, x.weigh(what, bounds[what][0] - 1));
            C.due("15 above", -1, x.weigh(what, bounds[what][1] + 1));
            C.due("15 least", bounds[what][2], x.weigh(what, bounds[what][0]));
            C.due("15 most", bounds[what][0], x.weigh(what, bounds[what][1]));
            C.due("15 it is", bounds[what][1], x.count(8 + what));
        }
        C.due("15 no such one", -1, x.weigh(3, 5));
        C.due("15 no such one", -1, x.weigh(-1, 5));
        C.due("15 far off", -1, x.weigh(MIN, 5));
        C.due("15 ACTS", 6, x.count(4));
    }

    private static void undo() {
        LineEnds x = new LineEnds();
        C.due("16 none can", -1, x.undo());
        for (int width = 21; width <= 35; width++) {
            x.width(width);
        }
        C.due("16 the latest 12", 12, x.count(4));
        for (int left = 11; left >= 0; left--) {
            C.due("16 undo", left, x.undo());
            C.due("16 taken back", 23 + left, x.count(3));
        }
        C.due("16 none more", -1, x.undo());
        C.due("16 it stays", 23, x.count(3));
        x.width(40);
        C.due("16 an ACT behind an undo", 1, x.count(4));
        x.width(41);
        C.due("16 undo", 1, x.undo());
        x.width(50);
        C.due("16 undo", 1, x.undo());
        C.due("16 taken back", 40, x.count(3));
        C.due("16 undo", 0, x.undo());
        C.due("16 taken back", 23, x.count(3));
    }

    private static void undoOfEach() {
        LineEnds before = marked();
        before.width(9);
        String ends = Check.spelt(before, 0) + Check.spelt(before, 1) + before.ways() + " " + before.worst() + Check.speltTable(before);
        for (int act = 0; act < 10; act++) {
            LineEnds x = marked();
            x.width(9);
            switch (act) {
                case 0: x.insert(2, 1); break;
                case 1: x.delete(1, 2); break;
                case 2: x.change(1, 0); break;
                case 3: x.shift(0, 2, 3); break;
                case 4: x.replace(0, 1); break;
                case 5: x.mark(0, 1); break;
                case 6: x.width(4); break;
                case 7: x.pair(0, 1); break;
                case 8: x.shy(0, true); break;
                default: x.weigh(2, 7); break;
            }
            C.due("16 ACT " + act, 4, x.count(4));
            x.lines(0, 0);
            x.lines(1, 0);
            x.ways();
            C.due("16 undo of act " + act, 3, x.undo());
            state("16 act " + act, x, "abcab", "01200", 3);
            String now = Check.spelt(x, 0) + Check.spelt(x, 1) + x.ways() + " " + x.worst() + Check.speltTable(x);
            C.due("16 all else of act " + act, ends, now);
            C.due("16 WIDTH of act " + act, 9, x.count(3));
            C.due("16 WEIGHT of act " + act, 1000, x.count(10));
        }
        LineEnds y = marked();
        y.insert(0, 0);
        y.pair(0, 1);
        y.mark(0, 2);
        y.replace(0, 2);
        y.undo();
        state("16 one by one", y, "aabcab", "201200", 5);
        y.undo();
        state("16 one by one", y, "aabcab", "001200", 4);
        C.due("16 the PAIR stays", 1, y.isPair(0, 1));
        y.undo();
        C.due("16 the PAIR goes", 0, y.isPair(0, 1));
        y.undo();
        state("16 one by one", y, "abcab", "01200", 2);
    }

    private static void asked() {
        LineEnds x = Check.made("class a wide 4 shy end hang trim 1 squeeze 2 rank 3 open 5 rank 2;class z wide 9 squeeze 0 rank 2;",
            "azzaz", 20);
        int[] wants = {4, 0, 1, 1, 1, 2, 3, 5, 2, 2};
        for (int what = 0; what < 10; what++) {
            C.due("17 of(0, " + what + ")", wants[what], x.of(0, what));
        }
        C.due("17 SIGNS of it", 3, x.of(25, 9));
        C.due("17 rank as told", 2, x.of(25, 6));
        C.due("17 rank without", 1, x.of(25, 8));
        C.due("17 no what", -1, x.of(0, 10));
        C.due("17 no what", -1, x.of(0, -1));
        C.due("17 far off", -1, x.of(0, MAX));
        C.due("17 no CLASS", -1, x.of(1, 0));
        C.due("17 no letter", -1, x.of(-1, 0));
        C.due("17 no letter", -1, x.of(26, 0));
        x.pair(0, 25);
        C.due("18 a PAIR", 1, x.isPair(0, 25));
        C.due("18 the other order", 0, x.isPair(25, 0));
        C.due("18 no such one", -1, x.isPair(0, 1));
        C.due("18 no such one", -1, x.isPair(1, 0));
        C.due("18 far off", -1, x.isPair(MIN, MAX));
        x.mark(2, 2);
        C.due("20 marked", 2, x.marked(2));
        C.due("20 none", 0, x.marked(4));
        C.due("20 no SIGN", -1, x.marked(5));
        C.due("20 no SIGN", -1, x.marked(-1));
        C.due("21 sign", 25, x.sign(1));
        C.due("21 sign", 0, x.sign(3));
        C.due("21 no SIGN", -1, x.sign(5));
        C.due("21 no SIGN", -1, x.sign(-1));
        C.due("21 far off", -1, x.sign(MAX));
        x.delete(3, 2);
        C.due("21 gone", -1, x.sign(3));
        C.due("20 gone", -1, x.marked(3));
    }

    private static int find(LineEnds x, String row, int i) {
        Check.say(x, row);
        return x.find(i);
    }

    private static void find() {
        LineEnds x = Check.made(ABC, "abcababc", 20);
        C.due("19 first place", 0, find(x, "ab", 0));
        C.due("19 the tape is empty", 0, x.count(5));
        C.due("19 from SIGN 1 on", 3, find(x, "ab", 1));
        C.due("19 from SIGN 3 on", 3, find(x, "ab", 3));
        C.due("19 from SIGN 4 on", 5, find(x, " a b ", 4));
        C.due("19 none more", -2, find(x, "ab", 6));
        C.due("19 at the end", 7, find(x, "c", 3));
        C.due("19 over the end", -2, find(x, "abca", 4));
        C.due("19 all", 0, find(x, "abc ab abc", 0));
        C.due("19 more than all", -2, find(x, "abcababca", 0));
        C.due("19 not at all", -2, find(x, "ba" + "ba", 0));
        C.due("19 not told", -2, find(x, "z", 0));
        C.due("19 other bytes", -2, find(x, "a1", 0));
        C.due("19 a byte that is a letter's number", -2, find(x, "a\u0001", 0));
        C.due("19 the tape is empty then", 0, x.count(5));
        C.due("19 a capital", -2, find(x, "A", 0));
        C.due("19 none", -2, find(x, "", 0));
        C.due("19 blanks alone", -2, find(x, "   ", 0));
        C.due("19 the tape is empty then", 0, x.count(5));
        C.due("19 no SIGN", -1, find(x, "ab", 8));
        C.due("19 the tape stays", 2, x.count(5));
        C.due("19 no SIGN", -1, x.find(-1));
        C.due("19 the tape stays", 2, x.count(5));
        C.due("19 and is looked for then", 5, x.find(5));
        C.due("19 no ACT", 0, x.count(4));
        C.due("19 the last letter", 1, find(Check.made("class a wide 1;class z wide 1;", "azz", 9), "zz", 0));
    }

    private static void legal() {
        LineEnds x = Check.made("class a wide 1;class b wide 1 shy begin;class e wide 1 shy end;keep a e;", "aabeaeaeb", 20);
        int[] wants = {1, 0, 1, 0, 0, 0, 0, 0, 1};
        for (int i = 0; i < wants.length; i++) {
            C.due("22 legal(" + i + ")", wants[i], x.legal(i));
        }
        C.due("22 no SIGN", -1, x.legal(9));
        C.due("22 no SIGN", -1, x.legal(-1));
        for (int i = 0; i < 9; i++) {
            x.mark(i, 1);
            C.due("22 MARK 1 at " + i, 1, x.legal(i));
            x.mark(i, 2);
            C.due("22 MARK 2 at " + i, i == 8 ? 1 : 0, x.legal(i));
            x.mark(i, 0);
            C.due("22 MARK 0 at " + i, wants[i], x.legal(i));
        }
        x.delete(4, 5);
        C.due("22 the last one always", 1, x.legal(3));
        C.due("22 the order of a PAIR", 1, Check.made("class a wide 1;class b wide 1;keep a b;", "ba", 9).legal(0));
    }

    private static void natural() {
        LineEnds x = Check.made("class a wide 4;class t wide 9 hang trim 7;", "atat", 20);
        C.due("23 natural", 4, x.natural(0, 0));
        C.due("23 TRIM of the last one", 6, x.natural(0, 1));
        C.due("23 of the last one alone", 17, x.natural(0, 2));
        C.due("23 one SIGN", 2, x.natural(1, 1));
        C.due("23 all", 19, x.natural(0, 3));
        C.due("23 ahead of it", -1, x.natural(1, 0));
        C.due("23 no SIGN", -1, x.natural(0, 4));
        C.due("23 no SIGN", -1, x.natural(-1, 3));
        C.due("23 far off", -1, x.natural(MIN, MAX));
        x.mark(1, 1);
        C.due("23 over a MARK 1", 17, x.natural(0, 2));
    }

    private static void cost() {
        LineEnds x = Check.made("class a wide 4 squeeze 1 rank 2 open 2 rank 3;class p wide 3 shy end hang open 9 rank 1;", "aapaap", 11);
        C.due("24 as wide as WIDTH, not LEGAL", 1000, x.cost(0, 2));
        C.due("24 LEFT", 7 * 10, x.cost(0, 0));
        C.due("24 put in and LEFT", 2 * 3 + 10, x.cost(0, 1));
        C.due("24 put in by rank 1", 0, x.cost(1, 3));
        C.due("24 taken away", -2, x.cost(0, 3));
        C.due("24 the last LINE is not opened", 0, x.cost(4, 5));
        C.due("24 one SIGN, the last", 0, x.cost(5, 5));
        C.due("24 one SIGN", 7 * 10, x.cost(4, 4));
        C.due("24 one SIGN, not LEGAL", 8 * 10 + 1000, x.cost(2, 2));
        C.due("24 taken away, gap of p", -2, x.cost(0, 5));
        x.width(10);
        C.due("24 HUNG, opened, not LEGAL", 2 + 2 * 3 + 1000, x.cost(0, 2));
        C.due("24 taken away", 2, x.cost(1, 3));
        C.due("24 HUNG as the last", 2, x.cost(3, 5));
        x.width(9);
        C.due("24 taken away", 2 * 2, x.cost(1, 3));
        x.width(8);
        C.due("24 too much", -2, x.cost(1, 3));
        C.due("24 just HUNG", 1002, x.cost(0, 2));
        x.width(7);
        C.due("24 HUNG and taken away", 1002 + 2, x.cost(0, 2));
        x.mark(1, 1);
        C.due("24 a MARK 1 within isn't looked at", 1002 + 2, x.cost(0, 2));
        x.weigh(0, 5);
        x.weigh(2, 300);
        C.due("24 by WEIGHTS", 307, x.cost(0, 2));
        x.width(5);
        C.due("24 TOO LONG", -2, x.cost(0, 2));
        x.width(4);
        C.due("24 one SIGN fits", 0, x.cost(0, 0));
        x.weigh(1, 99);
        C.due("24 LEFT by WEIGHT 1", 99 + 300, x.cost(2, 2));
        C.due("24 ahead of it", -1, x.cost(1, 0));
        C.due("24 no SIGN", -1, x.cost(0, 6));
        C.due("24 no SIGN", -1, x.cost(-1, 0));
        C.due("24 far off", -1, x.cost(MIN, MAX));
        LineEnds y = Check.made("class w wide 9 hang trim 1 squeeze 3 rank 3;", "ww", 6);
        C.due("24 one SIGN isn't HUNG; SQUEEZE less TRIM", 6, y.cost(0, 0));
        y.width(5);
        C.due("24 one SIGN TOO LONG", -2, y.cost(0, 0));
        LineEnds z = Check.made("class w wide 9 trim 4 squeeze 3 rank 1;", "ww", 4);
        C.due("24 SQUEEZE less TRIM, 0 at least", -2, z.cost(0, 0));
    }
}
