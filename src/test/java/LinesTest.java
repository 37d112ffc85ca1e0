/** Promises 25 to 36: LINES by kind, how they are filled, where SIGNS lie, what is spelt. */
public final class LinesTest {
    private static final Check C = new Check();
    private static final int MAX = Integer.MAX_VALUE;
    private static final int MIN = Integer.MIN_VALUE;
    private static final int FULL = 0;
    private static final int BEST = 1;
    private static final int PLAIN = 2;
    private static final int EVEN = 3;

    public static void main(String[] args) {
        taking();
        opening();
        hanging();
        tooLong();
        forced();
        breaks();
        best();
        plain();
        even();
        lines();
        line();
        lineOf();
        place();
        at();
        common();
        same();
        dearest();
        units();
        river();
        spell();
        spellTable();
        mostSigns();
        C.end();
    }

    private static void taking() {
        LineEnds x = Check.made("class a wide 3 squeeze 2 rank 1;class b wide 3 squeeze 2 rank 2;class c wide 3 squeeze 1 rank 3;",
            "abcabc", 18);
        String[] wants = {"abcabc", "a,bcabc", "a,bca,bc", "a,,bca,bc", "a,,bca,,bc", "a,,b,ca,,bc", "a,,b,ca,,b,c",
            "a,,b,,ca,,b,c", "a,,b,,ca,,b,,c", "a,,b,,c,a,,b,,c", "a,,b,,c,a,,b,,c,"};
        int[] costs = {0, 1, 2, 3, 4, 6, 8, 10, 12, 15, 18};
        for (int less = 0; less < wants.length; less++) {
            x.width(18 - less);
            C.due("35 taken away " + less, wants[less], Check.spelt(x, FULL));
            C.due("25 COST of " + less, costs[less], x.lines(FULL, 1));
            C.due("25 units of " + less, less, x.lines(FULL, 4));
        }
        x.width(7);
        C.due("35 more can't be", "a,,b,,ca,,b,,|c", Check.spelt(x, FULL));
        LineEnds y = Check.made("class a wide 4;class t wide 4 trim 1 squeeze 3 rank 1;", "atatt", 13);
        C.due("35 an end gives as well as others", "at,,at,,t,,", Check.spelt(y, FULL));
        y.width(12);
        C.due("35 the end's SQUEEZE less TRIM", "at,,,at,,t,,", Check.spelt(y, FULL));
        y.width(11);
        C.due("35 all that can be", "at,,,at,,,t,,", Check.spelt(y, FULL));
        y.width(10);
        C.due("35 another end, its TRIM", "at,,,at,,|t", Check.spelt(y, FULL));
    }

    private static void opening() {
        LineEnds x = Check.made("class a wide 2 open 2 rank 1;class b wide 2 open 3 rank 2;class z wide 9;", "ababz", 8);
        x.mark(3, 1);
        String[] wants = {"abab", "a.bab", "a.ba.b", "a..ba.b", "a..ba..b", "a..b.a..b", "a..b..a..b", "a..b...a..b", "a..b...a..b"};
        int[] costs = {0, 1, 2, 3, 4, 6, 8, 10, 20};
        for (int more = 0; more < wants.length; more++) {
            x.width(8 + more);
            C.due("35 put in " + more, wants[more] + "/", Check.spelt(x, FULL, 0));
            C.due("26 COST of " + more, costs[more], x.line(FULL, 0, 2));
            C.due("26 units of " + more, Math.min(more, 7), x.line(FULL, 0, 7));
            C.due("26 LEFT of " + more, Math.max(more - 7, 0), x.line(FULL, 0, 8));
        }
        x.width(30);
        C.due("35 the last LINE is not opened", "z", Check.spelt(x, FULL, 1));
        C.due("26 nothing is LEFT there", 0, x.line(FULL, 1, 8));
        x.delete(4, 1);
        C.due("35 nor if it has a MARK 1", "abab/", Check.spelt(x, FULL));
        C.due("25 nothing is LEFT", 0, x.lines(FULL, 6));
        C.due("25 COST", 0, x.lines(FULL, 1));
    }

    private static void hanging() {
        LineEnds x = Check.made("class a wide 4 open 3 rank 1;class p wide 4 shy begin hang trim 1;", "aapa", 9);
        C.due("35 HUNG and opened", "a.aP|a", Check.spelt(x, FULL));
        C.due("26 COST", 3, x.line(FULL, 0, 2));
        x.width(10);
        C.due("35 the gap ahead of it, too", "a.a.P|a", Check.spelt(x, FULL));
        x.width(8);
        C.due("35 just HUNG", "aaP|a", Check.spelt(x, FULL));
        x.width(11);
        C.due("35 not HUNG", "aap|a", Check.spelt(x, FULL));
        x.width(7);
        C.due("35 too much though HUNG", "a|ap|a", Check.spelt(x, FULL));
        LineEnds y = Check.made("class a wide 4 squeeze 1 rank 3;class p wide 3 hang squeeze 2 rank 1;", "aap", 7);
        C.due("35 HUNG gives nothing", "a,aP", Check.spelt(y, FULL));
        C.due("26 COST", 5, y.line(FULL, 0, 2));
        y.width(10);
        C.due("35 HUNG ahead of all else", "aaP", Check.spelt(y, FULL));
        C.due("26 COST", 2, y.line(FULL, 0, 2));
        y.width(11);
        C.due("35 no need", "aap", Check.spelt(y, FULL));
        LineEnds z = Check.made("class p wide 9 hang squeeze 2 rank 1;", "p", 8);
        C.due("35 the only one isn't HUNG", "p,", Check.spelt(z, FULL));
    }

    private static void tooLong() {
        LineEnds x = Check.made("class p wide 9 shy end squeeze 2 rank 1;", "ppp", 6);
        for (int kind = 0; kind < 4; kind++) {
            C.due("35 TOO LONG " + kind, "p!|p!|p", Check.spelt(x, kind));
            C.due("25 COST " + kind, 5000, x.lines(kind, 1));
            C.due("25 not LEGAL " + kind, 2, x.lines(kind, 2));
            C.due("25 taken away " + kind, 0, x.lines(kind, 4));
            C.due("25 TOO LONG " + kind, 3, x.lines(kind, 7));
        }
        C.due("26 COST", 2000, x.line(FULL, 0, 2));
        C.due("26 COST of the last", 1000, x.line(FULL, 2, 2));
        C.due("26 TOO LONG", 1, x.line(FULL, 0, 10));
        C.due("26 more than WIDTH", 3, x.line(FULL, 0, 4));
        x.width(7);
        C.due("35 not TOO LONG", "p,,!|p,,!|p,,", Check.spelt(x, FULL));
        x.weigh(2, 7);
        x.width(5);
        C.due("25 by WEIGHT 2", 35, x.lines(BEST, 1));
    }

    private static void forced() {
        LineEnds x = Check.made("class a wide 2;class b wide 2 shy begin;", "abbbbab", 6);
        C.due("35 the last LEGAL one, else FORCED", "abb!|bb|ab", Check.spelt(x, FULL));
        C.due("25 not LEGAL", 1, x.lines(FULL, 2));
        C.due("26 LEGAL", 0, x.line(FULL, 0, 9));
        C.due("26 LEGAL", 1, x.line(FULL, 1, 9));
        x.mark(0, 2);
        x.mark(4, 2);
        C.due("35 by MARK 2", "abb!|bba!|b", Check.spelt(x, FULL));
    }

    private static void breaks() {
        LineEnds x = Check.made("class a wide 2;class b wide 2 shy begin;", "ababab", 12);
        C.due("35 one LINE", "ababab", Check.spelt(x, FULL));
        x.mark(2, 1);
        for (int kind = 0; kind < 4; kind++) {
            C.due("35 none goes on over a MARK 1, kind " + kind, "aba/|bab", Check.spelt(x, kind));
            C.due("25 LINES that end there, kind " + kind, 1, x.lines(kind, 8));
        }
        x.mark(0, 1);
        x.mark(5, 1);
        C.due("35 at the first SIGN, at the last", "a/|ba/|bab/", Check.spelt(x, FULL));
        C.due("25 LINES that end there", 3, x.lines(FULL, 8));
        C.due("25 LEFT", 10 + 8, x.lines(FULL, 6));
        x.width(5);
        C.due("25 LINES that end elsewhere", "a/|ba/|b|ab/", Check.spelt(x, FULL));
    }

    private static void best() {
        String two = "class a wide 2;class b wide 4;";
        LineEnds x = Check.made(two, "aabb", 7);
        C.due("35 of the same COST the later end", "aa|b|b", Check.spelt(x, BEST));
        C.due("25 COST", 60, x.lines(BEST, 1));
        LineEnds y = Check.made(two, "aab", 4);
        C.due("35 all fit", "aa|b", Check.spelt(y, BEST));
        LineEnds z = Check.made("class a wide 3 squeeze 2 rank 3;class b wide 3;", "aaab", 9);
        C.due("35 FULL takes what it can", "a,a,a,b", Check.spelt(z, FULL));
        C.due("25 FULL's COST", 9, z.lines(FULL, 1));
        C.due("35 BEST what COSTS least", "aaa|b", Check.spelt(z, BEST));
        z.width(6);
        C.due("35 FULL squeezes", "a,,a,,a,,b", Check.spelt(z, FULL));
        C.due("25 FULL's COST", 18, z.lines(FULL, 1));
        C.due("35 BEST doesn't", "aa|ab", Check.spelt(z, BEST));
        C.due("25 BEST's COST", 0, z.lines(BEST, 1));
        LineEnds f = Check.made("class a wide 2 open 3 rank 1;", "aaaa", 4);
        C.due("35 fewest LINES", "aa|aa", Check.spelt(f, BEST));
        LineEnds g = Check.made("class a wide 4;class s wide 4 squeeze 2 rank 1;", "ss", 6);
        C.due("35 COST ahead of the number of LINES", "s,s,", Check.spelt(g, BEST));
        g.width(5);
        C.due("35 one COSTS 3, two 10", "s,,s,", Check.spelt(g, BEST));
        g.weigh(1, 2);
        C.due("35 one COSTS 3, two 2", "s|s", Check.spelt(g, BEST));
        g.weigh(1, 3);
        C.due("35 of the same COST the fewest", "s,,s,", Check.spelt(g, BEST));
        LineEnds t = Check.made("class a wide 2 squeeze 1 rank 1;class b wide 6 hang;", "abaaabb", 9);
        t.weigh(0, 4);
        t.weigh(1, 3);
        C.due("35 two LINES ahead of a,ba,a,|ab|b, which COSTS 6 too", "a,ba|a,abB", Check.spelt(t, BEST));
        C.due("25 COST", 6, t.lines(BEST, 1));
        LineEnds h = Check.made("class e wide 3 shy end;class a wide 3;", "eea", 7);
        h.weigh(2, 5);
        C.due("35 ends that aren't LEGAL by their COST", "ee!|a", Check.spelt(h, BEST));
        C.due("25 COST", 15, h.lines(BEST, 1));
    }

    private static void plain() {
        LineEnds x = Check.made("class a wide 3 squeeze 1 rank 1;class p wide 3 hang squeeze 1 rank 1;class e wide 3 shy end;", "aaaa", 8);
        C.due("35 FULL squeezes", "a,a,a,a,", Check.spelt(x, FULL));
        C.due("35 PLAIN doesn't", "aa|aa", Check.spelt(x, PLAIN));
        Check.paragraph(x, "aaapa");
        x.width(9);
        C.due("35 PLAIN hangs", "aaaP|a", Check.spelt(x, PLAIN));
        x.width(8);
        C.due("35 HUNG alone isn't enough", "aa|ap|a", Check.spelt(x, PLAIN));
        Check.paragraph(x, "eeea");
        C.due("35 FULL, FORCED", "ee!|ea", Check.spelt(x, FULL));
        C.due("35 no LEGAL end so: as FULL", "ee!|ea", Check.spelt(x, PLAIN));
        Check.paragraph(x, "eaa");
        x.width(5);
        C.due("35 a LEGAL end by squeezing ahead of a forced one", "ea,|a", Check.spelt(x, PLAIN));
    }

    private static void even() {
        LineEnds x = Check.made("class o wide 4 shy end squeeze 2 rank 2;", "ooooooo", 12);
        C.due("35 BEST", "o,o,o,o,!|ooo", Check.spelt(x, BEST));
        C.due("35 EVEN: the greatest COST is least", "ooo!|o,o,o,o,", Check.spelt(x, EVEN));
        LineEnds y = Check.made("class a wide 3;class b wide 2;", "aabbba", 7);
        C.due("35 EVEN as BEST", "aa|bbb|a", Check.spelt(y, EVEN));
        LineEnds z = Check.made("class a wide 1;", "aaaaaaa", 5);
        z.mark(6, 1);
        C.due("35 EVEN as BEST where peaks are the same", "aaaaa|aa/", Check.spelt(z, EVEN));
        LineEnds w = Check.made("class a wide 4 open 1 rank 1;class b wide 2;", "babbaa", 7);
        C.due("35 BEST has a LINE that COSTS 50", "b|a.b|ba|a", Check.spelt(w, BEST));
        C.due("25 in all", 61, w.lines(BEST, 1));
        C.due("35 EVEN has none above 30", "ba|bb|a|a", Check.spelt(w, EVEN));
        C.due("25 in all more", 70, w.lines(EVEN, 1));
    }

    private static void lines() {
        LineEnds x = Check.made("class a wide 4 squeeze 1 rank 2 open 1 rank 3;class p wide 3 hang;class e wide 5 shy end;", "aapeeaaaa", 9);
        x.mark(7, 1);
        C.due("35 FULL", "a.aP|e!|ea|a.a/|a", Check.spelt(x, FULL));
        int[] sums = {5, 3 + 2 + 40 + 1000 + 3, 1, 1, 0, 2, 4, 0, 1};
        for (int what = 0; what < 9; what++) {
            C.due("25 lines(0, " + what + ")", sums[what], x.lines(FULL, what));
        }
        C.due("25 no what", -1, x.lines(FULL, 9));
        C.due("25 no what", -1, x.lines(FULL, -1));
        C.due("25 no kind", -1, x.lines(4, 0));
        C.due("25 no kind", -1, x.lines(-1, 0));
        C.due("25 far off", -1, x.lines(MAX, MIN));
    }

    private static void line() {
        LineEnds x = Check.made("class a wide 4 squeeze 1 rank 2 open 1 rank 3;class p wide 3 hang;class e wide 5 shy end;", "aapeeaaaa", 9);
        x.mark(7, 1);
        int[][] wants = {
            {0, 2, 5, 11, 2, 1, 0, 1, 0, 1, 0},
            {3, 3, 1040, 5, -4, 0, 0, 0, 4, 0, 0},
            {4, 5, 0, 9, 0, 0, 0, 0, 0, 1, 0},
            {6, 7, 3, 8, -1, 0, 0, 1, 0, 1, 0},
            {8, 8, 0, 4, -5, 0, 0, 0, 0, 1, 0},
        };
        for (int line = 0; line < 5; line++) {
            for (int what = 0; what < 11; what++) {
                C.due("26 line(0, " + line + ", " + what + ")", wants[line][what], x.line(FULL, line, what));
            }
        }
        for (int what = -1; what < 12; what++) {
            int none = what == 4 ? -100 : -1;
            C.due("26 no LINE, " + what, none, x.line(FULL, 5, what));
            C.due("26 no LINE, " + what, none, x.line(FULL, -1, what));
            C.due("26 no kind, " + what, none, x.line(4, 0, what));
            C.due("26 no kind, " + what, none, x.line(-1, 0, what));
        }
        C.due("26 no what", -1, x.line(FULL, 0, 11));
        C.due("26 no what", -1, x.line(FULL, 0, -1));
        C.due("26 far off", -1, x.line(MIN, MAX, MIN));
        x.width(7);
        C.due("26 taken away", 1, x.line(FULL, 0, 6));
        C.due("26 its first SIGN", 3, x.line(FULL, 1, 0));
    }

    private static void lineOf() {
        LineEnds x = Check.made("class a wide 4;", "aaaaa", 8);
        int[] wants = {0, 0, 1, 1, 2};
        for (int kind = 0; kind < 4; kind++) {
            for (int i = 0; i < 5; i++) {
                C.due("27 lineOf(" + kind + ", " + i + ")", wants[i], x.lineOf(kind, i));
            }
        }
        C.due("27 no SIGN", -1, x.lineOf(0, 5));
        C.due("27 no SIGN", -1, x.lineOf(0, -1));
        C.due("27 no kind", -1, x.lineOf(4, 0));
        C.due("27 no kind", -1, x.lineOf(-1, 0));
    }

    private static void place() {
        LineEnds x = Check.made("class a wide 4 squeeze 2 rank 1 open 1 rank 1;class b wide 3 open 2 rank 2;class p wide 4 hang trim 3;", "ababpaaab", 17);
        x.mark(4, 1);
        C.due("35 opened", "a.ba.bp/|aaab", Check.spelt(x, FULL));
        C.due("28 left edge", 0, x.place(FULL, 0, 0));
        C.due("28 left edge", 5, x.place(FULL, 1, 0));
        C.due("28 left edge", 8, x.place(FULL, 2, 0));
        C.due("28 left edge", 13, x.place(FULL, 3, 0));
        C.due("28 left edge", 16, x.place(FULL, 4, 0));
        C.due("28 units taken away", 0, x.place(FULL, 0, 1));
        C.due("28 put in behind", 1, x.place(FULL, 0, 2));
        C.due("28 the next LINE's first", 0, x.place(FULL, 5, 0));
        C.due("28 the next LINE's third", 8, x.place(FULL, 7, 0));
        x.width(12);
        C.due("35 HUNG and taken away", "a,ba,bP/|a,a,a,b", Check.spelt(x, FULL));
        int[] lefts = {0, 3, 6, 9, 12, 0, 3, 6, 9};
        int[] taken = {1, 0, 1, 0, 0, 1, 1, 1, 0};
        for (int i = 0; i < 9; i++) {
            C.due("28 place(0, " + i + ", 0)", lefts[i], x.place(FULL, i, 0));
            C.due("28 place(0, " + i + ", 1)", taken[i], x.place(FULL, i, 1));
            C.due("28 place(0, " + i + ", 2)", 0, x.place(FULL, i, 2));
        }
        C.due("28 no what", -1, x.place(FULL, 0, 3));
        C.due("28 no what", -1, x.place(FULL, 0, -1));
        C.due("28 no SIGN", -1, x.place(FULL, 9, 0));
        C.due("28 no SIGN", -1, x.place(FULL, -1, 0));
        C.due("28 no kind", -1, x.place(4, 0, 0));
        C.due("28 no kind", -1, x.place(-1, 0, 0));
    }

    private static void at() {
        LineEnds x = Check.made("class a wide 2 squeeze 1 rank 1 open 2 rank 1;class t wide 4 hang trim 1;", "aatat", 8);
        x.mark(2, 1);
        C.due("35 opened", "a.at/|at", Check.spelt(x, FULL));
        int[] wants = {0, 0, 0, 1, 1, 2, 2, 2, -2, -2};
        for (int at = 0; at < wants.length; at++) {
            C.due("29 at(0, 0, " + at + ")", wants[at], x.at(FULL, 0, at));
        }
        int[] others = {3, 3, 4, 4, 4, -2};
        for (int at = 0; at < others.length; at++) {
            C.due("29 at(0, 1, " + at + ")", others[at], x.at(FULL, 1, at));
        }
        x.width(4);
        C.due("35 HUNG", "aaT/|aT", Check.spelt(x, FULL));
        int[] hung = {0, 0, 1, 1, 2, 2, 2, -2};
        for (int at = 0; at < hung.length; at++) {
            C.due("29 HUNG at(0, 0, " + at + ")", hung[at], x.at(FULL, 0, at));
        }
        C.due("29 far off", -2, x.at(FULL, 0, MAX));
        C.due("29 below 0", -1, x.at(FULL, 0, -1));
        C.due("29 below 0", -1, x.at(FULL, 0, MIN));
        C.due("29 no LINE", -1, x.at(FULL, 2, 0));
        C.due("29 no LINE", -1, x.at(FULL, -1, 0));
        C.due("29 no kind", -1, x.at(4, 0, 0));
        LineEnds y = Check.made("class a wide 3 squeeze 2 rank 1;class s wide 5 trim 1 squeeze 3 rank 2;", "as", 4);
        C.due("35 taken away", "a,,s,", Check.spelt(y, FULL));
        int[] taken = {0, 1, 1, 1, -2};
        for (int at = 0; at < taken.length; at++) {
            C.due("29 taken away, at(0, 0, " + at + ")", taken[at], y.at(FULL, 0, at));
        }
        LineEnds z = Check.made("class w wide 9 trim 2;", "w", 5);
        C.due("29 TOO LONG, within", 0, z.at(FULL, 0, 6));
        C.due("29 TOO LONG, behind TRIM", -2, z.at(FULL, 0, 7));
    }

    private static void common() {
        LineEnds x = Check.made("class a wide 3 squeeze 2 rank 3;class b wide 3;", "aaabbaaab", 6);
        C.due("35 FULL", "a,,a,,a,,b|ba,,a,,a,,|b", Check.spelt(x, FULL));
        C.due("35 BEST", "aa|ab|ba|aa|b", Check.spelt(x, BEST));
        C.due("30 how many", 3, x.common(-1));
        C.due("30 the first", 3, x.common(0));
        C.due("30 the second", 7, x.common(1));
        C.due("30 the third", 8, x.common(2));
        C.due("30 not so many", -2, x.common(3));
        C.due("30 far off", -2, x.common(MAX));
        C.due("30 below NONE", -1, x.common(-2));
        C.due("30 below NONE", -1, x.common(MIN));
        C.due("30 without SIGNS", 0, new LineEnds().common(-1));
        LineEnds y = Check.made("class a wide 4;", "aaaaa", 8);
        C.due("30 three", 3, y.common(-1));
        C.due("30 first", 1, y.common(0));
        C.due("30 second", 3, y.common(1));
    }

    private static void same() {
        LineEnds x = Check.made("class a wide 3 squeeze 2 rank 3;class b wide 3;", "aaabba", 6);
        x.mark(3, 1);
        C.due("35 FULL", "a,,a,,a,,b/|ba", Check.spelt(x, FULL));
        C.due("35 BEST", "aa|ab/|ba", Check.spelt(x, BEST));
        C.due("31 same", 1, x.same(FULL, BEST));
        C.due("31 same", 1, x.same(BEST, FULL));
        C.due("31 PLAIN is as BEST", 3, x.same(PLAIN, BEST));
        for (int kind = 0; kind < 4; kind++) {
            C.due("31 of one kind", kind == FULL ? 2 : 3, x.same(kind, kind));
        }
        C.due("31 no kind", -1, x.same(0, 4));
        C.due("31 no kind", -1, x.same(-1, 0));
        C.due("31 without SIGNS", 0, new LineEnds().same(0, 1));
    }

    private static void dearest() {
        LineEnds x = Check.made("class a wide 4;class b wide 3;", "abababa", 5);
        C.due("35 LINES", "a|b|a|b|a|b|a", Check.spelt(x, FULL));
        C.due("32 of several the first", 1, x.dearest(FULL));
        x.change(4, 1);
        x.mark(0, 2);
        C.due("32 not LEGAL", 0, x.dearest(FULL));
        C.due("32 no kind", -1, x.dearest(4));
        C.due("32 no kind", -1, x.dearest(-1));
        C.due("32 no SIGNS", -2, new LineEnds().dearest(EVEN));
        C.due("32 no SIGNS, no kind", -1, new LineEnds().dearest(4));
        C.due("32 all COST nothing", 0, Check.made("class a wide 4;", "aaa", 4).dearest(BEST));
    }

    private static void units() {
        LineEnds x = Check.made("class a wide 3 squeeze 2 rank 1 open 1 rank 3;class b wide 3 squeeze 2 rank 2 open 2 rank 2;class c wide 3 squeeze 1 rank 3;",
            "abcabc", 9);
        C.due("35 FULL", "a,,b,,c,a,,b,,c", Check.spelt(x, FULL));
        int[] taken = {4, 4, 1};
        for (int rank = 1; rank <= 3; rank++) {
            C.due("33 taken by " + rank, taken[rank - 1], x.units(FULL, rank, true));
            C.due("33 put in by " + rank, 0, x.units(FULL, rank, false));
        }
        x.mark(2, 1);
        x.width(12);
        C.due("35 FULL", "a.b..c/|abc", Check.spelt(x, FULL));
        int[] put = {0, 2, 1};
        for (int rank = 1; rank <= 3; rank++) {
            C.due("33 put in by " + rank, put[rank - 1], x.units(FULL, rank, false));
            C.due("33 taken by " + rank, 0, x.units(FULL, rank, true));
        }
        C.due("33 no rank", -1, x.units(FULL, 0, true));
        C.due("33 no rank", -1, x.units(FULL, 4, false));
        C.due("33 no kind", -1, x.units(4, 1, true));
        C.due("33 no kind", -1, x.units(-1, 1, true));
    }

    private static int river(String rows) {
        String[] lines = rows.split("/");
        LineEnds x = Check.made("class a wide 2 open 9 rank 1;class b wide 3 open 9 rank 1;class c wide 1 open 9 rank 1;",
            String.join("", lines) + "a", 6);
        int end = -1;
        for (String line : lines) {
            end += line.length();
            x.mark(end, 1);
        }
        return x.river(FULL);
    }

    private static void river() {
        C.due("34 over one place", 3, river("aa/ba/aa/"));
        C.due("34 over one place", 3, river("aa/ab/aa/"));
        C.due("34 not over one place all", 2, river("aa/ab/ba/"));
        C.due("34 side by side isn't over", 1, river("ab/ba/"));
        C.due("34 a LINE without a gap between", 1, river("aa/bb/aa/"));
        C.due("34 behind it more", 2, river("aa/bb/aa/aa/"));
        C.due("34 two gaps a LINE", 4, river("ccc/aa/ccc/ca/"));
        C.due("34 no gap", 0, river("bb/"));
        C.due("34 none in the last LINE", 0, Check.made("class a wide 2 open 9 rank 1;", "aa", 9).river(BEST));
        LineEnds w = Check.made("class a wide 9;class b wide 7 open 1 rank 1;class p wide 9 hang;", "aaaaaaaabpa", 80);
        w.mark(9, 1);
        C.due("35 a gap at the very end", "aaaaaaaab.P/|a", Check.spelt(w, FULL));
        C.due("34 a gap at the very end", 1, w.river(FULL));
        C.due("34 without SIGNS", 0, new LineEnds().river(0));
        C.due("34 no kind", -1, new LineEnds().river(4));
        C.due("34 no kind", -1, new LineEnds().river(-1));
    }

    private static void spell() {
        LineEnds x = Check.made("class a wide 4 open 1 rank 1;class p wide 4 hang;class e wide 4 shy end;", "aapee", 9);
        C.due("35 FULL", "a.aP|ee", Check.spelt(x, FULL));
        int[] wants = {4, 'a', '.', 'a', 'P', -2};
        for (int i = -1; i < 5; i++) {
            C.due("35 spell(0, 0, " + i + ")", wants[i + 1], x.spell(FULL, 0, i));
        }
        x.mark(2, 2);
        x.mark(3, 1);
        C.due("35 ! and /", "a.a|pe/|e", Check.spelt(x, FULL));
        x.mark(1, 2);
        C.due("35 !", "a|a.p!|e/|e", Check.spelt(x, FULL));
        x.mark(0, 2);
        C.due("35 HUNG and !", "a.aP!|e/|e", Check.spelt(x, FULL));
        x.mark(4, 1);
        C.due("35 / at the last", "e/", Check.spelt(x, FULL, 2));
        C.due("35 far off", -2, x.spell(FULL, 0, MAX));
        C.due("35 below NONE", -1, x.spell(FULL, 0, -2));
        C.due("35 no LINE", -1, x.spell(FULL, 3, 0));
        C.due("35 no LINE", -1, x.spell(FULL, -1, 0));
        C.due("35 no LINE, not so many", -1, x.spell(FULL, 3, MAX));
        C.due("35 no kind", -1, x.spell(4, 0, 0));
        C.due("35 no kind", -1, x.spell(-1, 0, -1));
    }

    /** As many SIGNS, and LINES, as there can be. */
    private static void mostSigns() {
        LineEnds x = Check.made("class a wide 4 squeeze 1 rank 1 open 1 rank 1;class z wide 2;keep z z;", "az".repeat(20), 4);
        for (int i = 0; i < 40; i++) {
            x.mark(i, 1);
        }
        for (int kind = 0; kind < 4; kind++) {
            C.due("25 LINES", 40, x.lines(kind, 0));
            C.due("25 LEFT", 19 * 2, x.lines(kind, 6));
            C.due("25 MARK 1", 40, x.lines(kind, 8));
            C.due("26 the last LINE", 39, x.line(kind, 39, 0));
            C.due("26 none behind it", -1, x.line(kind, 40, 0));
            C.due("27 the last SIGN", 39, x.lineOf(kind, 39));
            C.due("28 the last SIGN", 0, x.place(kind, 39, 0));
            C.due("29 the last SIGN", 39, x.at(kind, 39, 1));
            C.due("31 all LINES", 40, x.same(kind, BEST));
            C.due("32 the first of several", 1, x.dearest(kind));
            C.due("33 none", 0, x.units(kind, 1, false));
            C.due("34 none", 0, x.river(kind));
            C.due("35 the last LINE", "z/", Check.spelt(x, kind, 39));
            C.due("45 end with z", 20, x.atEnds(kind, 25, true));
        }
        C.due("30 all", 40, x.common(-1));
        C.due("30 the last one", 39, x.common(39));
        C.due("30 none behind it", -2, x.common(40));
        C.due("37 one WAY", 1, x.ways());
        C.due("38 its LINES", 40, x.fewest());
        C.due("39 its LINES", 40, x.way(0, -1));
        C.due("39 its last end", 39, x.way(0, 39));
        C.due("40 worst", 1, x.worst());
        C.due("41 without a MARK", 19 * 20, x.costMarked(39, 0));
        C.due("42 by WIDTH 5", 20 * 10 + 19 * 30, x.costBy(5));
        C.due("43 by none", -2, x.widthFor(39));
        C.due("43 by the least", 4, x.widthFor(40));
        C.due("44 the least", 4, x.bestWidth());
        C.due("46 LEGAL ends", 40, x.count(6));
        C.due("46 the most SIGNS", 1, x.count(7));
        C.due("10 all", 20, x.replace(0, 25));
        C.due("9 to the other end", true, x.shift(0, 39, 1));
        C.due("7 all", true, x.delete(0, 40));
        C.due("16 undo", true, x.undo() > 0);
        C.due("21 the last SIGN", 25, x.sign(39));
    }

    private static void spellTable() {
        LineEnds x = new LineEnds();
        Check.table(x, " class  z wide 9 shy begin shy end hang trim 8 squeeze 7 rank 3 open 9 rank 2 ;keep z z ;class b wide 1 trim 0 "
            + "squeeze 0 rank 3 open 0 rank 2;keep z b;keep b z;class m wide 5 open 1 rank 1; keep z b;keep b b;");
        String all = "class b wide 1;class m wide 5 open 1 rank 1;"
            + "class z wide 9 shy begin shy end hang trim 8 squeeze 7 rank 3 open 9 rank 2;"
            + "keep b b;keep b z;keep z b;keep z z;";
        C.due("36 TEXT", all, Check.speltTable(x));
        C.due("36 how many", all.length(), x.spellTable(-1));
        C.due("36 not so many", -2, x.spellTable(all.length()));
        C.due("36 far off", -2, x.spellTable(MAX));
        C.due("36 below NONE", -1, x.spellTable(-2));
        C.due("36 below NONE", -1, x.spellTable(MIN));
        x.shy(25, false);
        x.shy(1, true);
        x.pair(25, 1);
        x.pair(12, 12);
        C.due("36 as now", "class b wide 1 shy end;class m wide 5 open 1 rank 1;"
            + "class z wide 9 shy end hang trim 8 squeeze 7 rank 3 open 9 rank 2;"
            + "keep b b;keep b z;keep m m;keep z z;", Check.speltTable(x));
        C.due("36 without CLASSES", 0, new LineEnds().spellTable(-1));
        C.due("36 without CLASSES", -2, new LineEnds().spellTable(0));
        longest();
    }

    /** The longest TABLE is longer than a tape: acts add what can't be told at once. */
    private static void longest() {
        LineEnds x = new LineEnds();
        StringBuilder text = new StringBuilder();
        for (char letter = 'a'; letter < 'k'; letter++) {
            text.append("class ").append(letter).append(" wide 9 trim 1 squeeze 1 rank 1 open 1 rank 1;".substring(0, letter < 'h' ? 46 : 7));
            text.append(letter < 'h' ? "" : ";");
        }
        C.due("36 ten CLASSES", 10, Check.table(x, text.toString()));
        for (int letter = 0; letter < 10; letter++) {
            x.shy(letter, false);
            x.shy(letter, true);
        }
        for (int i = 0; i < 12; i++) {
            x.pair(i / 10, i % 10);
        }
        C.due("36 how many", text.length() + 10 * 18 + 12 * 9, x.spellTable(-1));
        C.due("36 the last one", ';', x.spellTable(x.spellTable(-1) - 1));
    }
}
