/** What the terms say of the first, the last, the only SIGN, and of no SIGNS: a sentence of the document, then what holds it. */
public final class BoundsTermsTest {
    private static final Check C = new Check();
    private static final int NONE = LineEnds.NONE;
    private static final int FULL = 0;
    private static final int BEST = 1;
    private static final int PLAIN = 2;
    private static final int EVEN = 3;
    private static final int KINDS = 4;

    public static void main(String[] args) {
        legal();
        legalAtTheEnds();
        upToMarkOne();
        asWideAsWidth();
        hung();
        hungNot();
        takenAway();
        endGives();
        endGivesNothing();
        putIn();
        lastLine();
        tooLong();
        costs();
        full();
        fullOneSign();
        best();
        plain();
        even();
        noSigns();
        onlySign();
        fortySigns();
        waysOrder();
        river();
        C.end();
    }

    private static void lines(Scene x, int kind, String want) {
        C.due("LINES of kind " + kind, want, x.lines(kind));
    }

    private static void allLines(Scene x, String want) {
        for (int kind = 0; kind < KINDS; kind++) {
            lines(x, kind, want);
        }
    }

    private static void facts(Scene x, int line, int... wants) {
        for (int i = 0; i < wants.length; i++) {
            int what = i;
            C.due("line(FULL, " + line + ", " + what + ")", wants[i], x.ask(y -> y.line(FULL, line, what)));
        }
    }

    private static void legal() {
        C.sentence("LEGAL is an end behind SIGN i (not the last of the PARAGRAPH), if its MARK is 1, or it is 0, its CLASS isn't SHY of the end, "
            + "that of SIGN i and 1 isn't SHY of the begin, and these two are no PAIR");
        for (int mark = 0; mark <= 2; mark++) {
            for (int bits = 0; bits < 8; bits++) {
                String table = "class a wide 1" + ((bits & 1) > 0 ? " shy end" : "") + ";class b wide 1" + ((bits & 2) > 0 ? " shy begin" : "") + ";"
                    + ((bits & 4) > 0 ? "keep a b;" : "");
                Scene x = Scene.of(table + "class c wide 1;", "cabc").withMarks("0" + mark);
                int want = mark == 1 || mark == 0 && bits == 0 ? 1 : 0;
                C.due("legal(1), MARK " + mark + ", " + table, want, x.ask(y -> y.legal(1)));
            }
        }
        String touchy = "class a wide 1 shy begin;class b wide 1 shy end;class c wide 1;keep a b;keep c a;";
        C.due("SHY of the begin is no matter at an end", 1, Scene.of(touchy, "cac").ask(y -> y.legal(1)));
        C.due("SHY of the end is no matter at a begin", 1, Scene.of(touchy, "ccb").ask(y -> y.legal(1)));
        C.due("a PAIR ahead is no matter", 1, Scene.of("class a wide 1;class c wide 1;keep c a;", "cac").ask(y -> y.legal(1)));
        C.due("a PAIR behind is no matter", 1, Scene.of("class a wide 1;class c wide 1;keep a c;", "aac").ask(y -> y.legal(0)));
        C.due("the other order is no PAIR", 1, Scene.of("class a wide 1;class b wide 1;keep a b;", "ba").ask(y -> y.legal(0)));
        C.due("a PAIR with itself", 0, Scene.of("class a wide 1;keep a a;", "aa").ask(y -> y.legal(0)));
        C.due("the MARK of the next one is no matter", 1, Scene.of("class a wide 1;", "aaa").withMarks("02").ask(y -> y.legal(0)));
    }

    private static void legalAtTheEnds() {
        C.sentence("LEGAL: behind the last one always");
        String shy = "class a wide 1 shy begin shy end;keep a a;";
        for (int i = 0; i <= 2; i++) {
            int mark = i;
            C.due("the only one, MARK " + mark, 1, Scene.of(shy, "a").withMarks("" + mark).ask(y -> y.legal(0)));
            C.due("the last one, MARK " + mark, 1, Scene.of(shy, "aa").withMarks("0" + mark).ask(y -> y.legal(1)));
            C.due("the first of two, MARK " + mark, mark == 1 ? 1 : 0, Scene.of(shy, "aa").withMarks("" + mark).ask(y -> y.legal(0)));
            C.due("the 40th, MARK " + mark, 1, Scene.of(shy, "a".repeat(40)).then(y -> y.mark(39, mark)).ask(y -> y.legal(39)));
            C.due("the 39th, MARK " + mark, mark == 1 ? 1 : 0, Scene.of(shy, "a".repeat(40)).then(y -> y.mark(38, mark)).ask(y -> y.legal(38)));
        }
        C.due("the last one from now on", 1, Scene.of(shy, "aa").then(y -> y.delete(1, 1) ? 1 : 0).ask(y -> y.legal(0)));
        C.due("not the last one any more", 0, Scene.of(shy, "a").then(y -> y.insert(1, 0) ? 1 : 0).ask(y -> y.legal(0)));
    }

    private static void upToMarkOne() {
        C.sentence("Ends of a LINE that begins with a SIGN are looked for up to the first MARK 1 from there on alone (for all kinds of LINES, for WAYS)");
        Scene x = Scene.of("class a wide 2;", "aaaa").withWidth(8);
        allLines(x, "aaaa");
        allLines(x.withMarks("1"), "a/|aaa");
        allLines(x.withMarks("001"), "aaa/|a");
        allLines(x.withMarks("11"), "a/|a/|aa");
        allLines(x.withMarks("1111"), "a/|a/|a/|a/");
        allLines(x.withMarks("0001"), "aaaa/");
        C.due("WAYS", 8, x.ask(LineEnds::ways));
        C.due("WAYS, MARK 1 at the first", 4, x.withMarks("1").ask(LineEnds::ways));
        C.due("WAYS, MARK 1 at the last", 8, x.withMarks("0001").ask(LineEnds::ways));
        C.due("WAYS, MARK 1 at each", 1, x.withMarks("1111").ask(LineEnds::ways));
        C.due("the fewest LINES", 2, x.withMarks("01").ask(LineEnds::fewest));
    }

    private static void asWideAsWidth() {
        C.sentence("FILLED: what the LINE has more, or less, than WIDTH");
        Scene x = Scene.of("class a wide 3 squeeze 1 rank 1 open 1 rank 1;class p wide 2 hang;", "aap aap").withMarks("001");
        allLines(x.withWidth(8), "aap/|aap");
        facts(x.withWidth(8), 0, 0, 2, 0, 8, 0, 0, 0, 0, 0, 1, 0);
        lines(x.withWidth(7), FULL, "a.aP/|aaP");
        facts(x.withWidth(7), 0, 0, 2, 3, 8, 1, 1, 0, 1, 0, 1, 0);
        allLines(x.withWidth(9), "a.ap/|aap");
        facts(x.withWidth(9), 0, 0, 2, 1, 8, -1, 0, 0, 1, 0, 1, 0);
    }

    private static void hung() {
        C.sentence("if its last SIGN HANGS, and it isn't the LINE's only one, it is HUNG: its WIDE doesn't count any more (the LINE may have less than WIDTH then)");
        Scene x = Scene.of("class a wide 4 squeeze 1 rank 3 open 3 rank 1;class p wide 5 shy begin hang trim 1 squeeze 3 rank 1 open 9 rank 1;class q wide 1 shy begin;", "apa")
            .withMarks("01").then(y -> y.weigh(0, 7));
        int[] widths = {8, 7, 6, 5, 4};
        String[] firsts = {"ap", "a...P", "a..P", "a.P", "aP"};
        int[] costs = {0, 10, 9, 8, 7};
        for (int i = 0; i < widths.length; i++) {
            Scene narrow = x.withWidth(widths[i]);
            lines(narrow, FULL, firsts[i] + "/|a");
            C.due("COST at " + widths[i], costs[i], narrow.ask(y -> y.cost(0, 1)));
            C.due("HUNG at " + widths[i], i == 0 ? 0 : 1, narrow.ask(y -> y.line(FULL, 0, 5)));
        }
        C.sentence("else, or if it still has more, so many units are taken away; A SIGN that is HUNG gives nothing");
        Scene two = Scene.of("class a wide 4 squeeze 1 rank 3 open 3 rank 1;class p wide 5 shy begin hang trim 1 squeeze 3 rank 1;", "aapaa");
        C.due("HUNG, as wide as WIDTH", 2, two.withWidth(8).ask(y -> y.cost(0, 2)));
        C.due("one more", 2 + 3, two.withWidth(7).ask(y -> y.cost(0, 2)));
        C.due("all that the others give", 2 + 6, two.withWidth(6).ask(y -> y.cost(0, 2)));
        C.due("TOO LONG: the HUNG one gives nothing", -2, two.withWidth(5).ask(y -> y.cost(0, 2)));
        lines(two.withWidth(7), FULL, "a,aP|a,a");
        C.due("units of the HUNG one", 0, two.withWidth(7).ask(y -> y.place(FULL, 2, 1)));
        C.sentence("the gap ahead of it is one of those that are opened");
        C.due("units put in", 3, x.withWidth(7).ask(y -> y.place(FULL, 0, 2)));
        C.due("none behind it", 0, x.withWidth(7).ask(y -> y.place(FULL, 1, 2)));
    }

    private static void hungNot() {
        C.sentence("and it isn't the LINE's only one");
        String table = "class p wide 6 hang squeeze 2 rank 1;";
        for (int kind = 0; kind < KINDS; kind++) {
            lines(Scene.of(table, "p").withWidth(6), kind, "p");
            lines(Scene.of(table, "p").withWidth(5), kind, "p,");
            lines(Scene.of(table, "p").withWidth(4), kind, "p,,");
            lines(Scene.of(table, "pp").withWidth(4).withMarks("1"), kind, "p,,/|p,,");
        }
        C.due("COST", 2, Scene.of(table, "p").withWidth(4).ask(y -> y.cost(0, 0)));
        C.due("not HUNG", 0, Scene.of(table, "p").withWidth(4).ask(y -> y.lines(FULL, 3)));
        C.due("the second one of two is", 2 + 2, Scene.of(table, "pp").withWidth(4).ask(y -> y.cost(0, 1)));
        C.sentence("its last SIGN HANGS: no other one");
        C.due("the first one of two", -2, Scene.of(table + "class a wide 5;", "pa").withWidth(8).ask(y -> y.cost(0, 1)));
        C.due("the first one of two gives", 2, Scene.of(table + "class a wide 5;", "pa").withWidth(9).ask(y -> y.cost(0, 1)));
    }

    private static void takenAway() {
        C.sentence("taken away rank by rank, 1 first, unit by unit, each time from that SIGN of the rank that has given least (of several the first), as long as it may");
        Scene x = Scene.of("class a wide 5 squeeze 3 rank 2;class b wide 5 squeeze 1 rank 1;class c wide 5 squeeze 2 rank 3;class d wide 5;", "dacabacd");
        String[] wants = {"dacabacd", "dacab,acd", "da,cab,acd", "da,ca,b,acd", "da,ca,b,a,cd", "da,,ca,b,a,cd", "da,,ca,,b,a,cd", "da,,ca,,b,a,,cd",
            "da,,,ca,,b,a,,cd", "da,,,ca,,,b,a,,cd", "da,,,ca,,,b,a,,,cd", "da,,,c,a,,,b,a,,,cd", "da,,,c,a,,,b,a,,,c,d", "da,,,c,,a,,,b,a,,,c,d",
            "da,,,c,,a,,,b,a,,,c,,d"};
        int cost = 0;
        for (int less = 0; less < wants.length; less++) {
            int width = 40 - less;
            cost += less == 0 ? 0 : less == 1 ? 1 : less <= 10 ? 2 : 3;
            allOfFull(x.withWidth(width), wants[less], cost, less);
        }
        C.sentence("if all can't be taken: TOO LONG");
        C.due("the last that can be", cost, x.withWidth(26).ask(y -> y.cost(0, 7)));
        C.due("one more", -2, x.withWidth(25).ask(y -> y.cost(0, 7)));
    }

    private static void allOfFull(Scene x, String want, int cost, int taken) {
        lines(x, FULL, want);
        C.due("COST", cost, x.ask(y -> y.lines(FULL, 1)));
        C.due("units", taken, x.ask(y -> y.lines(FULL, 4)));
    }

    private static void endGives() {
        C.sentence("TRIM: so much of it goes where it ends a line; SQUEEZE where it ends a LINE n less TRIM, 0 at least");
        int[][] cases = {{3, 1}, {3, 2}, {3, 3}, {3, 4}, {0, 0}, {0, 3}, {3, 0}, {1, 1}};
        for (int[] of : cases) {
            Scene x = Scene.of("class a wide 8;class t wide 7 trim " + of[1] + " squeeze " + of[0] + " rank 1;", "at");
            int natural = 15 - of[1];
            int gives = Math.max(of[0] - of[1], 0);
            C.due("NATURAL", natural, x.ask(y -> y.natural(0, 1)));
            C.due("as wide as WIDTH", 0, x.withWidth(natural).ask(y -> y.cost(0, 1)));
            C.due("all it gives", gives, x.withWidth(natural - gives).ask(y -> y.cost(0, 1)));
            C.due("one more", -2, x.withWidth(natural - gives - 1).ask(y -> y.cost(0, 1)));
            Scene within = Scene.of("class a wide 8;class t wide 7 trim " + of[1] + " squeeze " + of[0] + " rank 1;", "ta");
            C.due("within, all it gives", of[0], within.withWidth(15 - of[0]).ask(y -> y.cost(0, 1)));
            C.due("within, one more", -2, within.withWidth(14 - of[0]).ask(y -> y.cost(0, 1)));
        }
    }

    /** One that ends a LINE and gives less than nothing takes nothing from what the others give. */
    private static void endGivesNothing() {
        C.sentence("0 at least");
        Scene x = Scene.of("class a wide 8 squeeze 2 rank 1;class t wide 7 trim 3;class u wide 7 trim 5 squeeze 1 rank 1;", "at");
        C.due("without SQUEEZE", 2, x.withWidth(10).ask(y -> y.cost(0, 1)));
        C.due("without SQUEEZE, one more", -2, x.withWidth(9).ask(y -> y.cost(0, 1)));
        C.due("TRIM above SQUEEZE", 2, x.then(y -> y.change(1, 20)).withWidth(8).ask(y -> y.cost(0, 1)));
        C.due("TRIM above SQUEEZE, one more", -2, x.then(y -> y.change(1, 20)).withWidth(7).ask(y -> y.cost(0, 1)));
    }

    private static void putIn() {
        C.sentence("It has less: so many units are put into gaps behind its SIGNS, but for the last one, likewise by OPEN; what can't be put in is LEFT");
        Scene x = Scene.of("class a wide 2 open 3 rank 2;class b wide 2 open 1 rank 1;class c wide 2 open 2 rank 3;class d wide 2;", "dacabacbd").withMarks("00000001");
        String[] wants = {"dacabacb", "dacab.acb", "da.cab.acb", "da.ca.b.acb", "da.ca.b.a.cb", "da..ca.b.a.cb", "da..ca..b.a.cb", "da..ca..b.a..cb",
            "da...ca..b.a..cb", "da...ca...b.a..cb", "da...ca...b.a...cb", "da...c.a...b.a...cb", "da...c.a...b.a...c.b", "da...c..a...b.a...c.b",
            "da...c..a...b.a...c..b", "da...c..a...b.a...c..b"};
        int cost = 0;
        for (int more = 0; more < wants.length; more++) {
            Scene wide = x.withWidth(16 + more);
            cost += more == 0 ? 0 : more == 1 ? 1 : more <= 10 ? 2 : more <= 14 ? 3 : 10;
            C.due("LINE at " + (16 + more), wants[more] + "/", Check.spelt(wide.made(), FULL, 0));
            C.due("COST at " + (16 + more), cost, wide.ask(y -> y.line(FULL, 0, 2)));
            C.due("put in at " + (16 + more), Math.min(more, 14), wide.ask(y -> y.line(FULL, 0, 7)));
            C.due("LEFT at " + (16 + more), Math.max(more - 14, 0), wide.ask(y -> y.line(FULL, 0, 8)));
        }
        C.sentence("but for the last one: a LINE of one SIGN has no gap");
        Scene one = Scene.of("class a wide 2 open 9 rank 1;", "aa").withMarks("1").withWidth(5);
        allLines(one, "a/|a");
        facts(one, 0, 0, 0, 30, 2, -3, 0, 0, 0, 3, 1, 0);
        Scene gap = Scene.of("class a wide 2 open 9 rank 1;", "aaaa").withMarks("001").withWidth(9);
        allLines(gap, "a..a.a/|a");
        allLines(gap.then(Scene::askAll, y -> y.mark(0, 1)), "a/|a.....a/|a");
        allLines(gap.then(Scene::askAll, y -> y.mark(1, 1)), "a.....a/|a/|a");
        C.sentence("(A LINE that ends at a MARK 1 is filled as others.)");
        Scene two = Scene.of("class a wide 2 open 9 rank 1;", "aaa").withMarks("01").withWidth(5);
        allLines(two, "a.a/|a");
    }

    private static void lastLine() {
        C.sentence("The last LINE of the PARAGRAPH is not opened (all it has less is no matter: nothing is LEFT)");
        for (String marks : new String[] {"", "0001", "0002"}) {
            Scene x = Scene.of("class a wide 2 open 1 rank 1;", "aaaa").withMarks(marks).withWidth(80);
            String end = marks.endsWith("1") ? "/" : "";
            allLines(x, "aaaa" + end);
            facts(x, 0, 0, 3, 0, 8, -72, 0, 0, 0, 0, 1, 0);
            C.due("COST of its end", 0, x.ask(y -> y.cost(3, 3)));
            C.due("COST ahead of it", 780, x.ask(y -> y.cost(2, 2)));
        }
        C.sentence("The last LINE is squeezed and HUNG as others");
        Scene x = Scene.of("class a wide 4 squeeze 1 rank 2;class p wide 4 hang;", "aap");
        lines(x.withWidth(8), FULL, "aaP");
        C.due("COST", 2, x.withWidth(8).ask(y -> y.lines(FULL, 1)));
        C.due("HUNG, has less, is not opened", 2, Scene.of("class a wide 4 open 9 rank 1;class p wide 4 hang;", "aap").withWidth(11).ask(y -> y.lines(FULL, 1)));
        C.due("squeezed", 4 + 2, x.withWidth(6).ask(y -> y.cost(0, 2)));
        C.due("TOO LONG", -2, x.withWidth(5).ask(y -> y.cost(0, 2)));
    }

    private static void tooLong() {
        C.sentence("if there is none: one SIGN (FORCED, but if it is LEGAL; TOO LONG: nothing is HUNG, taken away, put in; COST is WEIGHT 2, and once more if its end isn't LEGAL)");
        String table = "class w wide 9 hang squeeze 2 rank 1 open 3 rank 1;class e wide 9 shy end hang squeeze 2 rank 1;";
        for (int weight : new int[] {1, 1000, 9999}) {
            Scene x = Scene.of(table, "weew").withWidth(6).then(y -> y.weigh(2, weight));
            allLines(x, "w|e!|e!|w");
            for (int i = 0; i < KINDS; i++) {
                int kind = i;
                C.due("COST", 6 * weight, x.ask(y -> y.lines(kind, 1)));
                C.due("TOO LONG", 4, x.ask(y -> y.lines(kind, 7)));
                C.due("not LEGAL", 2, x.ask(y -> y.lines(kind, 2)));
                C.due("HUNG", 0, x.ask(y -> y.lines(kind, 3)));
                C.due("taken away", 0, x.ask(y -> y.lines(kind, 4)));
                C.due("put in", 0, x.ask(y -> y.lines(kind, 5)));
                C.due("LEFT", 0, x.ask(y -> y.lines(kind, 6)));
            }
            facts(x, 0, 0, 0, weight, 9, 3, 0, 0, 0, 0, 1, 1);
            facts(x, 1, 1, 1, 2 * weight, 9, 3, 0, 0, 0, 0, 0, 1);
            facts(x, 3, 3, 3, weight, 9, 3, 0, 0, 0, 0, 1, 1);
        }
        allLines(Scene.of(table.replace(" hang", ""), "weew").withWidth(7), "w,,|e,,!|e,,!|w,,");
        allLines(Scene.of(table, "ww").withWidth(6).withMarks("1"), "w/|w");
        allLines(Scene.of(table, "w").withWidth(6), "w");
        C.due("the only one, COST", 1000, Scene.of(table, "e").withWidth(6).ask(y -> y.lines(EVEN, 1)));
    }

    private static void costs() {
        C.sentence("HUNG, each unit LEFT, an end that isn't LEGAL cost by WEIGHTS 0 (0 .. 9; 2 at first), 1 (1 .. 99; 10), 2 (1 .. 9,999; 1,000)");
        Scene x = Scene.of("class a wide 4;class p wide 3 shy end hang;", "apa").withWidth(6);
        C.due("at first", 2 + 2 * 10 + 1000, x.ask(y -> y.cost(0, 1)));
        C.due("least", 2 + 1, x.then(y -> y.weigh(0, 0), y -> y.weigh(1, 1), y -> y.weigh(2, 1)).ask(y -> y.cost(0, 1)));
        C.due("most", 9 + 2 * 99 + 9999, x.then(y -> y.weigh(0, 9), y -> y.weigh(1, 99), y -> y.weigh(2, 9999)).ask(y -> y.cost(0, 1)));
        Scene most = Scene.of("class w wide 9 shy end;", "w".repeat(40)).withWidth(4).then(y -> y.weigh(2, 9999));
        for (int i = 0; i < KINDS; i++) {
            int kind = i;
            C.due("the most of all", 79 * 9999, most.ask(y -> y.lines(kind, 1)));
        }
        Scene left = Scene.of("class a wide 1 shy end;", "a".repeat(40)).withWidth(80).then(y -> y.weigh(1, 99), y -> y.weigh(2, 9999));
        Scene marked = left;
        for (int i = 0; i < 40; i++) {
            int at = i;
            marked = marked.then(y -> y.mark(at, 1));
        }
        C.due("the most LEFT", 39 * 79 * 99, marked.ask(y -> y.lines(BEST, 1)));
    }

    private static void full() {
        C.sentence("FULL LINES: of all ends that are LEGAL and whose LINE isn't TOO LONG the last one");
        String table = "class a wide 2;class b wide 2 shy begin;class s wide 2 squeeze 1 rank 3;class p wide 2 hang;";
        lines(Scene.of(table, "aaaaa").withWidth(4), FULL, "aa|aa|a");
        lines(Scene.of(table, "aaaaa").withWidth(5), FULL, "aa|aa|a");
        lines(Scene.of(table, "aaaaa").withWidth(10), FULL, "aaaaa");
        lines(Scene.of(table, "aaaaa").withWidth(9), FULL, "aaaa|a");
        lines(Scene.of(table, "abbaa").withWidth(8), FULL, "abba|a");
        lines(Scene.of(table, "aabba").withWidth(6), FULL, "a|abb|a");
        lines(Scene.of(table, "sssss").withWidth(4), FULL, "s,s,s,s,|s");
        lines(Scene.of(table, "sspp").withWidth(4), FULL, "s,s,pP");
        lines(Scene.of(table, "ppp").withWidth(4), FULL, "ppP");
        lines(Scene.of("class t wide 4 trim 3;", "tttt").withWidth(5), FULL, "tt|tt");
        C.sentence("if there is none, of all ends whose LINE isn't TOO LONG the last one (it is FORCED)");
        lines(Scene.of(table, "abbbbb").withWidth(4), FULL, "ab!|bb!|bb");
        lines(Scene.of(table, "abbbbb").withWidth(11), FULL, "abbbb!|b");
        lines(Scene.of(table, "abbbbb").withWidth(12), FULL, "abbbbb");
        lines(Scene.of(table, "ab").withWidth(4).withMarks("2"), FULL, "ab");
        lines(Scene.of("class a wide 3;", "aa").withWidth(5).withMarks("2"), FULL, "a!|a");
        C.due("ends that aren't LEGAL", 2, Scene.of(table, "abbbbb").withWidth(4).ask(y -> y.lines(FULL, 2)));
        C.due("COST of a FORCED one", 1000, Scene.of(table, "abbbbb").withWidth(4).ask(y -> y.line(FULL, 0, 2)));
        lines(Scene.of("class e wide 2 shy end;class p wide 2 shy end hang;class a wide 2;", "eepea").withWidth(4), FULL, "eeP!|ea");
    }

    private static void fullOneSign() {
        C.sentence("one SIGN (FORCED, but if it is LEGAL)");
        Scene x = Scene.of("class a wide 4;class w wide 9;class e wide 9 shy end;", "awea");
        lines(x.withWidth(8), FULL, "a|w|e!|a");
        lines(x.withWidth(8), PLAIN, "a|w|e!|a");
        lines(x.withWidth(9), FULL, "a|w|e!|a");
        C.due("TOO LONG", 2, x.withWidth(8).ask(y -> y.lines(FULL, 7)));
        C.due("not TOO LONG any more", 0, x.withWidth(9).ask(y -> y.lines(FULL, 7)));
        lines(x.withWidth(13), FULL, "aw|ea");
    }

    private static void best() {
        C.sentence("BEST LINES: the ends by which the COSTS of all LINES, one SIGN at least each, are least together");
        lines(Scene.of("class a wide 3;class b wide 2;", "aab").withWidth(5), BEST, "a|ab");
        C.due("COST", 20, Scene.of("class a wide 3;class b wide 2;", "aab").withWidth(5).ask(y -> y.lines(BEST, 1)));
        C.sentence("of several the fewest LINES");
        Scene fewest = Scene.of("class s wide 4 squeeze 2 rank 1;", "ss").withWidth(5).then(y -> y.weigh(1, 3));
        lines(fewest, BEST, "s,,s,");
        lines(fewest.then(y -> y.weigh(1, 2)), BEST, "s|s");
        lines(Scene.of("class a wide 2;", "aaaaaa").withWidth(4), BEST, "aa|aa|aa");
        lines(fewestNotLater(), BEST, "bb|ba,,A");
        C.due("COST, as bbb,,|a|a has", 4, fewestNotLater().ask(y -> y.lines(BEST, 1)));
        lines(Scene.of("class a wide 3 squeeze 2 rank 1;", "aaaa").withWidth(5), BEST, "a,a|a,a");
        C.sentence("of several the first end that differs is the later one");
        lines(Scene.of("class a wide 2;class b wide 4;", "aabb").withWidth(7), BEST, "aa|b|b");
        Scene later = Scene.of("class a wide 1 open 9 rank 1;", "aaaaaaa").withWidth(4).withMarks("00001");
        lines(later, BEST, "a.aa|a..a/|aa");
        lines(Scene.of("class a wide 3;", "aaaa").withWidth(7).withMarks("222"), BEST, "aa!|aa");
        C.sentence("(LINES TOO LONG of more than one SIGN are none; of one SIGN COST as in FULL LINES.)");
        lines(Scene.of("class w wide 9;", "www").withWidth(4).withMarks("22").then(y -> y.weigh(2, 1)), BEST, "w!|w!|w");
        C.due("COST", 5, Scene.of("class w wide 9;", "www").withWidth(4).withMarks("22").then(y -> y.weigh(2, 1)).ask(y -> y.lines(BEST, 1)));
    }

    /** Two LINES and three COST 4; the three have the later first end. */
    private static Scene fewestNotLater() {
        return Scene.of("class a wide 4 hang squeeze 3 rank 1 open 3 rank 1;class b wide 2 squeeze 1 rank 2 open 3 rank 3;", "bbbaa").withWidth(4);
    }

    private static void plain() {
        C.sentence("PLAIN LINES: ahead of all else of all ends that are LEGAL and whose LINE has no more than WIDTH (it may be HUNG for that; nothing is taken away) the last one");
        String table = "class s wide 4 squeeze 2 rank 1;class p wide 4 hang squeeze 2 rank 1;class e wide 4 shy end squeeze 2 rank 1;";
        lines(Scene.of(table, "ssss").withWidth(8), PLAIN, "ss|ss");
        lines(Scene.of(table, "ssss").withWidth(11), PLAIN, "ss|ss");
        lines(Scene.of(table, "ssss").withWidth(12), PLAIN, "sss|s");
        lines(Scene.of(table, "sspss").withWidth(8), PLAIN, "ssP|ss");
        lines(Scene.of(table, "sspss").withWidth(9), PLAIN, "ssP|ss");
        lines(Scene.of(table, "sspss").withWidth(7), PLAIN, "s|sP|s|s");
        C.sentence("PLAIN LINES: as FULL ones");
        lines(Scene.of(table, "esss").withWidth(7), PLAIN, "e,,s,,s,|s");
        lines(Scene.of(table, "eses").withWidth(7), PLAIN, "e,s|e,s");
        lines(Scene.of(table, "eses").withWidth(7), FULL, "e,s|e,s");
        lines(Scene.of(table, "eeee").withWidth(7), PLAIN, "e,,e,,e,!|e");
        lines(Scene.of(table, "ee").withWidth(4), PLAIN, "e,,e,,");
        lines(Scene.of("class w wide 9 shy end;", "ww").withWidth(4), PLAIN, "w!|w");
        lines(Scene.of(table, "ss").withWidth(8).withMarks("1"), PLAIN, "s/|s");
    }

    private static void even() {
        C.sentence("EVEN LINES: of the ends of LINES as for BEST ones those by which the greatest COST of a LINE is least");
        Scene x = Scene.of("class a wide 4 open 1 rank 1;class b wide 2;", "babbaa").withWidth(7);
        lines(x, BEST, "b|a.b|ba|a");
        lines(x, EVEN, "ba|bb|a|a");
        C.due("the greatest of BEST", 50, x.ask(y -> y.line(BEST, 0, 2)));
        C.due("the greatest of EVEN", 30, x.ask(y -> y.line(EVEN, y.dearest(EVEN), 2)));
        lines(Scene.of("class a wide 4;class w wide 9;", "aaw").withWidth(8), EVEN, "aa|w");
        lines(Scene.of("class a wide 4;class e wide 9 shy end;", "aaea").withWidth(8), EVEN, "aa|e!|a");
        lines(Scene.of("class a wide 4 shy end;class b wide 4;class w wide 9;", "bbaw").withMarks("01").withWidth(8), EVEN, "bb/|a!|w");
        C.sentence("of several as for BEST LINES");
        Scene cheaper = Scene.of("class a wide 5 squeeze 3 rank 2;class b wide 5 hang;", "abab").withWidth(7);
        lines(cheaper, BEST, "aB|aB");
        lines(cheaper, EVEN, "a|ba,,,|b");
        C.due("COST, two LINES of the same peak COST 28", 26, cheaper.ask(y -> y.lines(EVEN, 1)));
        lines(fewestNotLater(), EVEN, "bb|ba,,A");
        Scene laterEnd = Scene.of("class a wide 4 hang;class b wide 2;", "baaa").withWidth(5);
        lines(laterEnd, BEST, "bA|aA");
        lines(laterEnd, EVEN, "b|aA|a");
        Scene later = Scene.of("class a wide 1 open 9 rank 1;", "aaaaaaa").withWidth(4).withMarks("00001");
        lines(later, EVEN, "a.aa|a..a/|aa");
        lines(Scene.of("class a wide 2;", "aaaaaa").withWidth(4), EVEN, "aa|aa|aa");
        lines(Scene.of("class w wide 9;", "www").withWidth(4), EVEN, "w|w|w");
        lines(Scene.of("class a wide 1;class w wide 9;", "waaaa").withWidth(5), EVEN, "w|aaaa");
        C.due("COST", 1000, Scene.of("class a wide 1;class w wide 9;", "waaaa").withWidth(5).ask(y -> y.lines(EVEN, 1)));
    }

    private static void noSigns() {
        C.sentence("Nothing is told of LINES without SIGNS (0 LINES)");
        Scene[] none = {Scene.fresh(), Scene.of("class a wide 4;", ""), Scene.of("class a wide 4;", "aaa").then(y -> y.lines(1, 0), y -> y.delete(0, 3) ? 1 : 0)};
        for (Scene x : none) {
            for (int i = 0; i < KINDS; i++) {
                int kind = i;
                for (int k = 0; k <= 8; k++) {
                    int what = k;
                    C.due("lines(" + kind + ", " + what + ")", 0, x.ask(y -> y.lines(kind, what)));
                }
                for (int k = 0; k <= 10; k++) {
                    int what = k;
                    C.due("line(" + kind + ", 0, " + what + ")", what == 4 ? -100 : NONE, x.ask(y -> y.line(kind, 0, what)));
                }
                C.due("lineOf", NONE, x.ask(y -> y.lineOf(kind, 0)));
                C.due("place", NONE, x.ask(y -> y.place(kind, 0, 0)));
                C.due("at", NONE, x.ask(y -> y.at(kind, 0, 0)));
                C.due("same", 0, x.ask(y -> y.same(kind, kind)));
                C.due("dearest", -2, x.ask(y -> y.dearest(kind)));
                C.due("units", 0, x.ask(y -> y.units(kind, 1, true)));
                C.due("units", 0, x.ask(y -> y.units(kind, 3, false)));
                C.due("river", 0, x.ask(y -> y.river(kind)));
                C.due("spell", NONE, x.ask(y -> y.spell(kind, 0, NONE)));
                C.due("spell", NONE, x.ask(y -> y.spell(kind, 0, 0)));
            }
            C.due("common(NONE)", 0, x.ask(y -> y.common(NONE)));
            C.due("common(0)", -2, x.ask(y -> y.common(0)));
            C.due("ways", 0, x.ask(LineEnds::ways));
            C.due("fewest", -2, x.ask(LineEnds::fewest));
            C.due("way(0, NONE)", -2, x.ask(y -> y.way(0, NONE)));
            C.due("worst", -2, x.ask(LineEnds::worst));
            C.due("costBy(4)", 0, x.ask(y -> y.costBy(4)));
            C.due("costMarked(0, 0)", NONE, x.ask(y -> y.costMarked(0, 0)));
            C.due("widthFor(1)", -2, x.ask(y -> y.widthFor(1)));
            C.due("bestWidth", 4, x.ask(LineEnds::bestWidth));
        }
        C.due("atEnds", 0, none[1].ask(y -> y.atEnds(0, 0, true)));
        C.due("atEnds without CLASSES", NONE, none[0].ask(y -> y.atEnds(0, 0, true)));
    }

    private static void onlySign() {
        C.sentence("the only SIGN is the first and the last");
        Scene x = Scene.of("class p wide 6 shy begin shy end hang trim 1 squeeze 3 rank 2 open 9 rank 1;keep p p;", "p").withMarks("2").withWidth(4);
        allLines(x, "p,");
        facts(x, 0, 0, 0, 2, 5, 1, 0, 1, 0, 0, 1, 0);
        C.due("ways", 1, x.ask(LineEnds::ways));
        C.due("fewest", 1, x.ask(LineEnds::fewest));
        C.due("way(0, 0)", 0, x.ask(y -> y.way(0, 0)));
        C.due("worst", 0, x.ask(LineEnds::worst));
        C.due("bestWidth", 5, x.ask(LineEnds::bestWidth));
        C.due("LEGAL ends", 1, x.ask(y -> y.count(6)));
        C.due("the most SIGNS", 1, x.ask(y -> y.count(7)));
        C.due("begins", 1, x.ask(y -> y.atEnds(FULL, 15, false)));
        C.due("ends", 1, x.ask(y -> y.atEnds(FULL, 15, true)));
        C.due("common", 0, x.ask(y -> y.common(0)));
    }

    private static void fortySigns() {
        C.sentence("SIGNS 0, 1 .. (at most 40)");
        Scene x = Scene.of("class a wide 2;class b wide 1 open 9 rank 3;", "ab".repeat(20));
        allLines(x.withWidth(60), "ab".repeat(20));
        allLines(x.withWidth(80), "ab".repeat(20));
        lines(x.withWidth(59), FULL, "ab".repeat(19) + "a|b");
        C.due("LINES at WIDTH 4", 20, x.withWidth(4).ask(y -> y.lines(FULL, 0)));
        Scene marked = x.withWidth(4);
        for (int i = 0; i < 40; i++) {
            int at = i;
            marked = marked.then(y -> y.mark(at, 1));
        }
        allLines(marked, "a/|b/|".repeat(20).substring(0, 119));
        C.due("the 40th LINE", 39, marked.ask(y -> y.line(EVEN, 39, 0)));
        C.due("a 41st", NONE, marked.ask(y -> y.line(EVEN, 40, 0)));
        Scene wide = Scene.of("class w wide 9 shy end squeeze 8 rank 3;", "w".repeat(40)).withWidth(40);
        allLines(wide.then(y -> y.weigh(2, 9999)), "w,,,,,,,,".repeat(40));
        C.due("COST", 40 * 8 * 3, wide.ask(y -> y.cost(0, 39)));
    }

    private static void waysOrder() {
        C.sentence("WAYS: all rows of LEGAL ends by which no LINE is TOO LONG (a LINE of one SIGN, too), in the order of the first end that differs, the lesser one first");
        Scene x = Scene.of("class a wide 3;class w wide 9;", "aaa").withWidth(6);
        String[] wants = {"0 1 2", "0 2", "1 2"};
        C.due("ways", wants.length, x.ask(LineEnds::ways));
        for (int k = 0; k < wants.length; k++) {
            C.due("WAY " + k, wants[k], way(x.made(), k));
        }
        C.due("one end isn't LEGAL", 1, x.withMarks("2").ask(LineEnds::ways));
        C.due("that WAY", "1 2", way(x.withMarks("2").made(), 0));
        C.due("no ends are LEGAL", 0, x.withMarks("22").ask(LineEnds::ways));
        C.due("no ends are LEGAL, but the last", 1, x.withMarks("22").withWidth(9).ask(LineEnds::ways));
        C.due("one SIGN TOO LONG, the first", 0, x.then(y -> y.change(0, 22)).ask(LineEnds::ways));
        C.due("one SIGN TOO LONG, the last", 0, x.then(y -> y.change(2, 22)).ask(LineEnds::ways));
        C.due("it isn't any more", 2, x.then(y -> y.change(2, 22)).withWidth(9).ask(LineEnds::ways));
    }

    private static String way(LineEnds x, int k) {
        StringBuilder text = new StringBuilder();
        for (int i = 0; i < x.way(k, NONE); i++) {
            text.append(i == 0 ? "" : " ").append(x.way(k, i));
        }
        return text.toString();
    }

    private static void river() {
        C.sentence("RIVER: LINES one behind the other that have an opened gap each over one place all of them: the gap behind a SIGN lies from that SIGN's right edge on, "
            + "so many units as were put in");
        String table = "class a wide 2 open 1 rank 1;class b wide 3 open 1 rank 1;class c wide 1 open 2 rank 1;class d wide 6;class e wide 4;class f wide 3;";
        int[][] rivers = {
            {3, 'a', 'f', 'a', 'f', 'a', 'f'},
            {1, 'a', 'f', 'b', 'a', 'a', 'f'},
            {1, 'a', 'f', 'd', 0, 'a', 'f'},
            {2, 'd', 0, 'a', 'f', 'a', 'f'},
            {2, 'c', 'f', 'a', 'f', 'b', 'a'},
            {0, 'd', 0, 'd', 0, 'd', 0},
            {1, 'd', 0, 'd', 0, 'b', 'a'},
            {1, 'c', 'f', 'b', 'a', 'c', 'f'},
        };
        for (int[] of : rivers) {
            StringBuilder signs = new StringBuilder();
            StringBuilder marks = new StringBuilder();
            for (int i = 1; i < of.length; i += 2) {
                signs.append((char) of[i]).append(of[i + 1] == 0 ? "" : "" + (char) of[i + 1]);
                marks.append(of[i + 1] == 0 ? "1" : "01");
            }
            Scene x = Scene.of(table, signs + "d").withMarks(marks.toString()).withWidth(6);
            for (int i = 0; i < KINDS; i++) {
                int kind = i;
                C.due("river of " + x.lines(kind), of[0], x.ask(y -> y.river(kind)));
            }
        }
    }
}
