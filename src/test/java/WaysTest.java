/** Promises 37 to 46: WAYS, what other SIGNS, MARKS, WIDTHS would COST, counts. */
public final class WaysTest {
    private static final Check C = new Check();
    private static final int MAX = Integer.MAX_VALUE;
    private static final int MIN = Integer.MIN_VALUE;
    private static final int NONE = LineEnds.NONE;

    public static void main(String[] args) {
        ways();
        manyWays();
        noWays();
        worst();
        costMarked();
        costBy();
        widthFor();
        bestWidth();
        atEnds();
        count();
        C.end();
    }

    /** A WAY as text: its ends with blanks between. */
    private static String way(LineEnds x, int k) {
        StringBuilder text = new StringBuilder();
        for (int i = 0; i < x.way(k, NONE); i++) {
            text.append(i == 0 ? "" : " ").append(x.way(k, i));
        }
        return text.toString();
    }

    private static void ways() {
        LineEnds x = Check.made("class a wide 2;class e wide 2 shy end;", "aaaa", 4);
        C.due("37 ways", 5, x.ways());
        C.due("38 fewest", 2, x.fewest());
        String[] wants = {"0 1 2 3", "0 1 3", "0 2 3", "1 2 3", "1 3"};
        for (int k = 0; k < wants.length; k++) {
            C.due("39 way " + k, wants[k], way(x, k));
        }
        C.due("39 not so many WAYS", -2, x.way(5, 0));
        C.due("39 not so many WAYS", -2, x.way(5, NONE));
        C.due("39 not so many WAYS", -2, x.way(MAX, NONE));
        C.due("39 not so many LINES", -2, x.way(4, 2));
        C.due("39 not so many LINES", -2, x.way(0, MAX));
        C.due("39 k below 0", -1, x.way(-1, 0));
        C.due("39 k below 0", -1, x.way(MIN, 0));
        C.due("39 i below NONE", -1, x.way(0, -2));
        C.due("39 i below NONE, not so many", -1, x.way(9, MIN));
        x.mark(1, 1);
        C.due("37 none goes on over a MARK 1", 4, x.ways());
        C.due("38 fewest", 2, x.fewest());
        C.due("39 its first", "0 1 2 3", way(x, 0));
        C.due("39 its last", "1 3", way(x, 3));
        x.mark(1, 2);
        C.due("37 none ends at a MARK 2", 1, x.ways());
        C.due("39 it", "0 2 3", way(x, 0));
        C.due("38 fewest", 3, x.fewest());
        x.mark(1, 0);
        x.change(2, 4);
        C.due("37 SHY", 2, x.ways());
        C.due("39 first", "0 1 3", way(x, 0));
        C.due("39 second", "1 3", way(x, 1));
        x.width(8);
        C.due("37 wider", 4, x.ways());
        C.due("38 one LINE", 1, x.fewest());
        LineEnds s = Check.made("class s wide 3 squeeze 1 rank 3;", "sss", 4);
        C.due("37 squeezed", 3, s.ways());
        LineEnds h = Check.made("class a wide 3;class p wide 3 hang;", "apap", 4);
        C.due("37 HUNG", 4, h.ways());
    }

    private static void manyWays() {
        LineEnds x = Check.made("class a wide 1;", "a".repeat(40), 80);
        C.due("37 at most so many are told", 1_000_000_000, x.ways());
        C.due("38 fewest", 1, x.fewest());
        C.due("39 LINES of a late one", 9, x.way(MAX, NONE));
        C.due("39 its last short one", 7, x.way(MAX, 7));
        C.due("39 its last one", 39, x.way(MAX, 8));
        C.due("39 none more", -2, x.way(MAX, 9));
        C.due("39 of the first one", 40, x.way(0, NONE));
        x.delete(0, 9);
        C.due("37 2 to the 30th", 1_000_000_000, x.ways());
        C.due("39 not just those that are told", 1, x.way(1_073_741_823, NONE));
        C.due("39 one more", -2, x.way(1_073_741_824, NONE));
        x.delete(0, 1);
        C.due("37 2 to the 29th", 536_870_912, x.ways());
    }

    private static void noWays() {
        LineEnds x = Check.made("class a wide 4;class w wide 9;", "aawa", 8);
        C.due("37 a LINE of one SIGN TOO LONG", 0, x.ways());
        C.due("38 there is none", -2, x.fewest());
        C.due("39 there is none", -2, x.way(0, 0));
        C.due("39 there is none", -2, x.way(0, NONE));
        x.width(9);
        C.due("37 it fits", 2, x.ways());
        LineEnds none = new LineEnds();
        C.due("37 without SIGNS", 0, none.ways());
        C.due("38 without SIGNS", -2, none.fewest());
        C.due("39 without SIGNS", -2, none.way(0, NONE));
        C.due("39 without SIGNS, k below 0", -1, none.way(-1, NONE));
    }

    private static void worst() {
        LineEnds x = Check.made("class a wide 4;class b wide 3;", "aabaa", 8);
        C.due("40 worst", 2, x.worst());
        C.due("40 nothing goes", "aabaa", Check.signs(x));
        C.due("40 no ACT", 1, x.count(4));
        Check.paragraph(x, "aaaa");
        C.due("40 of several the first", 0, x.worst());
        Check.paragraph(x, "aaa");
        x.mark(1, 1);
        x.mark(0, 2);
        C.due("40 its MARK goes, too", 1, x.worst());
        x.mark(0, 1);
        C.due("40 of several the first", 0, x.worst());
        x.mark(1, 0);
        x.mark(0, 0);
        x.mark(1, 2);
        C.due("40 the one with a MARK", 0, x.worst());
        Check.paragraph(x, "b");
        C.due("40 the only one", 0, x.worst());
        Check.paragraph(x, "");
        C.due("40 there are no SIGNS", -2, x.worst());
        C.due("40 new", -2, new LineEnds().worst());
        LineEnds y = Check.made("class a wide 4;class w wide 9;", "aaaw", 8);
        C.due("40 the last one", 3, y.worst());
    }

    private static void costMarked() {
        LineEnds x = Check.made("class a wide 4;", "aaa", 8);
        C.due("41 as it is", 0, x.costMarked(1, 0));
        C.due("41 MARK 1", 40, x.costMarked(0, 1));
        C.due("41 MARK 1 where it ends anyway", 0, x.costMarked(1, 1));
        C.due("41 MARK 2", 40, x.costMarked(1, 2));
        C.due("41 MARK 2 at the last", 0, x.costMarked(2, 2));
        C.due("41 nothing changes", "000", Check.marks(x));
        C.due("41 no ACT", 1, x.count(4));
        x.mark(0, 1);
        C.due("41 back to 0", 0, x.costMarked(0, 0));
        C.due("41 both", 80, x.costMarked(1, 1));
        C.due("41 no MARK", -1, x.costMarked(0, 3));
        C.due("41 no MARK", -1, x.costMarked(0, -1));
        C.due("41 no SIGN", -1, x.costMarked(3, 0));
        C.due("41 no SIGN", -1, x.costMarked(-1, 0));
        C.due("41 far off", -1, x.costMarked(MAX, MIN));
    }

    private static void costBy() {
        LineEnds x = Check.made("class a wide 4;", "aaaa", 8);
        int[] wants = {0, 30, 60, 90, 0, 10, 20, 30, 0, 10, 20, 30, 0, 0};
        for (int width = 4; width < 18; width++) {
            C.due("42 costBy(" + width + ")", wants[width - 4], x.costBy(width));
        }
        C.due("42 most", 0, x.costBy(80));
        C.due("42 below", -1, x.costBy(3));
        C.due("42 above", -1, x.costBy(81));
        C.due("42 far off", -1, x.costBy(MIN));
        C.due("42 WIDTH stays", 8, x.count(3));
        C.due("42 LINES stay", "aa|aa", Check.spelt(x, 1));
        C.due("42 no ACT", 1, x.count(4));
        C.due("42 without SIGNS", 0, new LineEnds().costBy(4));
        C.due("42 TOO LONG", 2000, Check.made("class w wide 9;", "ww", 20).costBy(8));
    }

    private static void widthFor() {
        LineEnds x = Check.made("class a wide 4;", "aaaa", 5);
        int[] wants = {16, 8, 8, 4, 4};
        for (int n = 1; n <= 5; n++) {
            C.due("43 widthFor(" + n + ")", wants[n - 1], x.widthFor(n));
        }
        C.due("43 far off", 4, x.widthFor(MAX));
        C.due("43 n below 1", -1, x.widthFor(0));
        C.due("43 n below 1", -1, x.widthFor(MIN));
        C.due("43 WIDTH stays", 5, x.count(3));
        Check.paragraph(x, "a".repeat(40));
        C.due("43 by none", -2, x.widthFor(1));
        C.due("43 by the most", 80, x.widthFor(2));
        C.due("43 no SIGNS", -2, new LineEnds().widthFor(1));
        C.due("43 no SIGNS, n below 1", -1, new LineEnds().widthFor(0));
        C.due("43 TOO LONG, but one", 4, Check.made("class w wide 9;", "w", 20).widthFor(1));
    }

    private static void bestWidth() {
        C.due("44 of several the least", 4, Check.made("class a wide 4;", "aaaa", 20).bestWidth());
        LineEnds x = Check.made("class w wide 9 squeeze 2 rank 1;", "ww", 7);
        C.due("44 the least COST", 9, x.bestWidth());
        C.due("44 WIDTH stays", 7, x.count(3));
        C.due("44 no ACT", 1, x.count(4));
        C.due("44 as one LINE", 7, Check.made("class a wide 4;class b wide 3;", "ba", 20).bestWidth());
        C.due("44 the most", 80, Check.made("class w wide 9 shy end;class v wide 8;", "w".repeat(8) + "v", 20).bestWidth());
        C.due("44 without SIGNS", 4, new LineEnds().bestWidth());
    }

    private static void atEnds() {
        LineEnds x = Check.made("class a wide 4;class b wide 3;class c wide 1;", "aabab", 8);
        for (int kind = 0; kind < 4; kind++) {
            C.due("35 kind " + kind, "aa|ba|b", Check.spelt(x, kind));
            C.due("45 begin with a", 1, x.atEnds(kind, 0, false));
            C.due("45 end with a", 2, x.atEnds(kind, 0, true));
            C.due("45 begin with b", 2, x.atEnds(kind, 1, false));
            C.due("45 end with b", 1, x.atEnds(kind, 1, true));
            C.due("45 none", 0, x.atEnds(kind, 2, true));
        }
        C.due("45 no CLASS", -1, x.atEnds(0, 3, true));
        C.due("45 no CLASS", -1, x.atEnds(0, -1, true));
        C.due("45 no kind", -1, x.atEnds(4, 0, true));
        C.due("45 no kind", -1, x.atEnds(-1, 0, false));
        C.due("45 far off", -1, x.atEnds(MAX, MIN, false));
    }

    private static void count() {
        LineEnds x = Check.made("class a wide 4;class b wide 3 shy begin;class e wide 2 shy end;keep a a;keep b e;", "abbaaeba", 9);
        x.mark(6, 2);
        x.mark(5, 1);
        x.mark(0, 2);
        x.weigh(0, 3);
        x.weigh(1, 4);
        x.weigh(2, 5);
        Check.say(x, "abc");
        int[] wants = {3, 2, 8, 9, 7, 3, 4, 3, 3, 4, 5, 1, 2};
        for (int what = 0; what < wants.length; what++) {
            C.due("46 count(" + what + ")", wants[what], x.count(what));
        }
        C.due("46 no what", -1, x.count(13));
        C.due("46 no what", -1, x.count(-1));
        C.due("46 far off", -1, x.count(MIN));
        LineEnds y = Check.made("class e wide 2 shy end;", "eeeee", 9);
        C.due("46 LEGAL ends", 1, y.count(6));
        C.due("46 from the first SIGN on", 5, y.count(7));
        y.mark(1, 1);
        C.due("46 LEGAL ends", 2, y.count(6));
        C.due("46 from behind a LEGAL end on", 3, y.count(7));
        y.mark(0, 1);
        C.due("46 the first SIGN's end counts", 3, y.count(6));
        y.mark(1, 0);
        y.mark(0, 0);
        y.mark(0, 1);
        C.due("46 from behind the first SIGN on", 4, y.count(7));
        y.delete(0, 5);
        C.due("46 without SIGNS", 0, y.count(7));
    }
}
