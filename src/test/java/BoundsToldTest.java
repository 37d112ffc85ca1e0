/** Promises 1 to 5 at their bounds, with each FAULT of a TABLE's TEXT: a sentence of the document, then what holds it. */
public final class BoundsToldTest {
    private static final Check C = new Check();
    private static final int NONE = LineEnds.NONE;
    private static final int MAX = Integer.MAX_VALUE;
    private static final int MIN = Integer.MIN_VALUE;
    private static final int BLANKS = 0x20202020;
    private static final String TEN = classes(10);

    public static void main(String[] args) {
        newObject();
        feedBytes();
        feedBound();
        back();
        tableAnswers();
        tableEmptiesTheTape();
        tableClears();
        tableFaultStays();
        classesMost();
        numbers();
        pairsMost();
        order();
        toldOnce();
        words();
        blanks();
        glued();
        endsTooEarly();
        paragraphAnswers();
        paragraphFaults();
        paragraphStays();
        C.end();
    }

    private static String classes(int n) {
        StringBuilder text = new StringBuilder();
        for (int i = 0; i < n; i++) {
            text.append("class ").append((char) ('a' + i)).append(" wide 1;");
        }
        return text.toString();
    }

    /** Keeps of the CLASSES a .. j: a a, a b and so on. */
    private static String keeps(int n) {
        StringBuilder text = new StringBuilder();
        for (int i = 0; i < n; i++) {
            text.append("keep ").append((char) ('a' + i / 10)).append(' ').append((char) ('a' + i % 10)).append(';');
        }
        return text.toString();
    }

    private static int feedBlanks(LineEnds x) {
        return x.feed(BLANKS, BLANKS, BLANKS, BLANKS, BLANKS);
    }

    private static Scene withTape(Scene scene, String text) {
        return scene.said(text);
    }

    private static void table(String text, int want) {
        C.due("table \"" + text + "\"", want, Scene.fresh().ask(x -> Check.table(x, text)));
    }

    /** The text has a bar ahead of the byte that is its FAULT. */
    private static void fault(String barred) {
        table(barred.replace("|", ""), -4 - barred.indexOf('|'));
    }

    private static void faults(String ahead, String... barred) {
        for (String text : barred) {
            fault(ahead + text);
        }
    }

    private static void newObject() {
        C.sentence("1 No CLASSES, PAIRS, SIGNS; WIDTH 20");
        Scene x = Scene.fresh();
        int[] wants = {0, 0, 0, 20, 0, 0, 0, 0, 2, 10, 1000, 0, 0};
        for (int i = 0; i < wants.length; i++) {
            int what = i;
            x.stays(C, "count(" + what + ")", wants[what], y -> y.count(what));
        }
        for (int i = 0; i < 26; i++) {
            int letter = i;
            C.due("of(" + letter + ", 0)", NONE, x.ask(y -> y.of(letter, 0)));
            C.due("isPair(" + letter + ", " + letter + ")", NONE, x.ask(y -> y.isPair(letter, letter)));
        }
        C.due("sign(0)", NONE, x.ask(y -> y.sign(0)));
        C.due("spellTable(NONE)", 0, x.ask(y -> y.spellTable(NONE)));
        C.due("undo", NONE, x.ask(LineEnds::undo));
    }

    private static void feedBytes() {
        C.sentence("2 Twenty bytes, the highest of a first, come behind the tape: how many it has");
        Scene x = Scene.of(TEN, "");
        Scene.Call letters = y -> y.feed(0x61626364, 0x65666768, 0x696A6A69, 0x68676665, 0x64636261);
        C.due("onto an empty tape", 20, x.ask(letters));
        C.due("their order", "abcdefghijjihgfedcba", x.then(letters, LineEnds::paragraph).signs());
        C.due("behind one byte", 21, withTape(x, "j").ask(letters));
        C.due("behind it", "jabcdefghijjihgfedcba", withTape(x, "j").then(letters, LineEnds::paragraph).signs());
        for (int i = 0; i < 20; i++) {
            for (int value : new int[] {0, 1, 31, 33, 127, 128, 255}) {
                int[] f = Check.packed(" ".repeat(i) + (char) value, 0);
                C.due("a byte " + value + " at " + i, -4 - i, x.then(y -> y.feed(f[0], f[1], f[2], f[3], f[4])).ask(LineEnds::paragraph));
            }
        }
        LineEnds y = new LineEnds();
        for (int n = 20; n <= 500; n += 20) {
            C.due("feed to " + n, n, y.feed(MIN, MAX, -1, 0, 1));
        }
        C.due("count(5)", 500, y.count(5));
    }

    private static void feedBound() {
        C.sentence("2 NONE, and nothing comes, if it would have more than 500");
        String signs = "ab".repeat(20);
        Scene told = Scene.busy();
        Scene full = withTape(told, " ".repeat(460) + signs);
        C.due("500 bytes", 500, full.ask(x -> x.count(5)));
        full.stays(C, "feed at 500", NONE, x -> x.feed(-1, -1, -1, -1, -1));
        full.stays(C, "feed of blanks at 500", NONE, BoundsToldTest::feedBlanks);
        C.due("the last 40 are there", signs, full.then(BoundsToldTest::feedBlanks, LineEnds::paragraph).signs());
        for (int i = 1; i < 20; i++) {
            int less = i;
            C.due("feed at " + (500 - less), NONE, full.then(x -> x.back(less)).ask(BoundsToldTest::feedBlanks));
        }
        full.then(x -> x.back(19)).stays(C, "feed at 481", NONE, BoundsToldTest::feedBlanks);
        C.due("feed at 480", 500, full.then(x -> x.back(20)).ask(BoundsToldTest::feedBlanks));
        C.due("feed at 479", 499, full.then(x -> x.back(21)).ask(BoundsToldTest::feedBlanks));
        C.due("feed at 480, what it has", "ab".repeat(10), full.then(x -> x.back(20), BoundsToldTest::feedBlanks, LineEnds::paragraph).signs());
        LineEnds again = full.made();
        again.paragraph();
        for (int n = 20; n <= 500; n += 20) {
            C.due("anew to " + n, n, feedBlanks(again));
        }
        C.due("anew beyond", NONE, feedBlanks(again));
    }

    private static void back() {
        Scene empty = Scene.busy();
        Scene some = withTape(empty, "abcab");
        Scene full = withTape(empty, "ab".repeat(20) + " ".repeat(460));
        C.sentence("3 The last n bytes of the tape go: how many it has");
        C.due("back(0), empty", 0, empty.ask(x -> x.back(0)));
        some.stays(C, "back(0) of 5", 5, x -> x.back(0));
        for (int i = 0; i <= 5; i++) {
            int n = i;
            C.due("back(" + n + ") of 5", 5 - n, some.ask(x -> x.back(n)));
            C.due("back(" + n + ") of 5, what is left", "abcab".substring(0, 5 - n), some.then(x -> x.back(n), LineEnds::paragraph).signs());
        }
        some.then(x -> x.back(5)).looksAs(C, "back(5) of 5", empty);
        C.due("back(500) of 500", 0, full.ask(x -> x.back(500)));
        full.then(x -> x.back(500)).looksAs(C, "back(500) of 500", empty);
        C.due("back(499) of 500", 1, full.ask(x -> x.back(499)));
        C.sentence("3 NONE, and nothing goes, if it has not so many");
        empty.stays(C, "back(1), empty", NONE, x -> x.back(1));
        some.stays(C, "back(6) of 5", NONE, x -> x.back(6));
        some.stays(C, "back of the most", NONE, x -> x.back(MAX));
        full.stays(C, "back(501) of 500", NONE, x -> x.back(501));
        C.sentence("3 NONE, and nothing goes, if .. n is below 0");
        empty.stays(C, "back(-1), empty", NONE, x -> x.back(-1));
        some.stays(C, "back(-1) of 5", NONE, x -> x.back(-1));
        full.stays(C, "back(-1) of 500", NONE, x -> x.back(-1));
        some.stays(C, "back of the least", NONE, x -> x.back(MIN));
    }

    private static void tableAnswers() {
        C.sentence("4 The tape is the TABLE: how many CLASSES");
        table("", 0);
        table(" ", 0);
        table(" ".repeat(500), 0);
        for (int n = 1; n <= 10; n++) {
            table(classes(n), n);
            C.due("count(0) of " + n, n, Scene.of(classes(n), "").ask(x -> x.count(0)));
        }
        table(TEN + " ".repeat(500 - TEN.length()), 10);
        table(" ".repeat(500 - TEN.length()) + TEN, 10);
        C.sentence("4 -4 less its FAULT");
        fault("|x");
        fault(" |x");
        fault(" ".repeat(499) + "|x");
        fault(" ".repeat(498) + "|xx");
        fault(" ".repeat(495) + "class|");
        fault("class" + " ".repeat(495) + "|");
        fault(TEN + " ".repeat(499 - TEN.length()) + "|\u00ff");
    }

    private static void tableEmptiesTheTape() {
        C.sentence("4 The tape (empty then, behind a FAULT, too)");
        for (String text : new String[] {"", "class a wide 1;", "wrong", "class a wide 1", "class a wide 1;keep a b;", " ".repeat(499) + "x"}) {
            Scene x = Scene.busy().then(y -> Check.table(y, text));
            C.due("count(5) behind \"" + text + "\"", 0, x.ask(y -> y.count(5)));
            C.due("back(1) behind \"" + text + "\"", NONE, x.ask(y -> y.back(1)));
            C.due("an empty TABLE behind \"" + text + "\"", 0, x.ask(LineEnds::table));
            C.due("another one behind \"" + text + "\"", 1, x.ask(y -> Check.table(y, "class q wide 1;")));
        }
    }

    private static void tableClears() {
        Scene same = Scene.busy().then(x -> Check.table(x, "class a wide 4;class q wide 2 shy begin;keep q a;"));
        C.sentence("4 no SIGNS, nothing can be undone then");
        C.due("SIGNS", 0, same.ask(x -> x.count(2)));
        C.due("SIGNS of a", 0, same.ask(x -> x.of(0, 9)));
        C.due("SIGNS with MARK 1", 0, same.ask(x -> x.count(11)));
        C.due("SIGNS with MARK 2", 0, same.ask(x -> x.count(12)));
        C.due("LEGAL ends", 0, same.ask(x -> x.count(6)));
        C.due("sign(0)", NONE, same.ask(x -> x.sign(0)));
        for (int i = 0; i < 4; i++) {
            int kind = i;
            C.due("LINES of kind " + kind, 0, same.ask(x -> x.lines(kind, 0)));
            C.due("LINES of kind " + kind + ", asked for ahead", 0,
                Scene.busy().then(x -> x.lines(kind, 0), x -> Check.table(x, "class a wide 4;")).ask(x -> x.lines(kind, 0)));
        }
        C.due("WAYS, asked for ahead", 0, Scene.of("class a wide 1;", "aaa").then(LineEnds::ways, x -> Check.table(x, "class a wide 1;")).ask(LineEnds::ways));
        C.due("ACTS", 0, same.ask(x -> x.count(4)));
        C.due("undo", NONE, same.ask(LineEnds::undo));
        same.stays(C, "undo", NONE, LineEnds::undo);
        C.due("an ACT then is the only one", 0, same.then(x -> x.width(40)).ask(LineEnds::undo));
        C.due("behind 12 ACTS", NONE, twelveActs().then(LineEnds::table).ask(LineEnds::undo));
        Scene.busy().then(Scene::askAll, x -> Check.table(x, "class a wide 4;class q wide 2 shy begin;keep q a;")).looksAs(C, "asked ahead", same);
        C.sentence("4 the TABLE: CLASSES, SHY, PAIRS of the one before are none any more");
        C.due("TABLE", "class a wide 4;class q wide 2 shy begin;keep q a;", same.table());
        C.due("CLASSES", 2, same.ask(x -> x.count(0)));
        C.due("PAIRS", 1, same.ask(x -> x.count(1)));
        C.due("none", "", Scene.busy().then(LineEnds::table).table());
        C.due("no PAIRS", 0, Scene.busy().then(LineEnds::table).ask(x -> x.count(1)));
        C.sentence("4 WIDTH, WEIGHTS stay");
        int[] wants = {11, 3, 7, 500};
        int[] whats = {3, 8, 9, 10};
        for (int i = 0; i < 4; i++) {
            int what = whats[i];
            C.due("count(" + what + ")", wants[i], same.ask(x -> x.count(what)));
            C.due("count(" + what + ") behind an empty one", wants[i], Scene.busy().then(LineEnds::table).ask(x -> x.count(what)));
        }
    }

    private static Scene twelveActs() {
        Scene x = Scene.of("class a wide 1;", "aa");
        for (int i = 0; i < 12; i++) {
            int width = 30 + i;
            x = x.then(y -> y.width(width));
        }
        return x;
    }

    private static void tableFaultStays() {
        C.sentence("4 -4 less its FAULT, and all else stays");
        String[] barred = {"|x", "class a wide 9;class b wide 1;keep b|", "class q wide 1 shy begin shy end hang;keep q q;keep q |a;",
            "class a wide 1;|;", TEN + "class |k wide 1;", TEN + keeps(12) + "keep |b c;", "class a wide 3 trim |3;",
            "class z wide 5 shy end hang squeeze 1 rank |4;", "class|"};
        for (String told : barred) {
            String text = told.replace("|", "");
            C.due("\"" + text + "\"", -4 - told.indexOf('|'), Scene.busy().ask(x -> Check.table(x, text)));
            Scene.busy().then(x -> Check.table(x, text)).looksAs(C, "\"" + text + "\"", Scene.busy());
        }
        Scene.forty().then(x -> Check.table(x, "class a wide 1")).looksAs(C, "40 SIGNS", Scene.forty());
        twelveActs().then(x -> Check.table(x, "class a wide 0;")).looksAs(C, "12 ACTS", twelveActs());
    }

    private static void classesMost() {
        C.sentence("CLASSES: small letters, 10 at most");
        for (char letter = 'a'; letter <= 'z'; letter++) {
            table("class " + letter + " wide 1;", 1);
        }
        faults("", "class |` wide 1;", "class |{ wide 1;", "class |A wide 1;", "class |Z wide 1;", "class |0 wide 1;", "class |aa wide 1;");
        C.sentence("FAULT: an 11th CLASS at it");
        table(TEN, 10);
        fault(TEN + "class |k wide 1;");
        fault(TEN + "class  |z wide 1;");
        fault(TEN + "class |k");
        fault(TEN + "class |k wide 0;");
        fault(TEN + "class|");
        fault(TEN + "class |kk wide 1;");
        fault(TEN + "keep a j;class |k wide 1;");
        table(TEN + "keep j j;keep a a;", 10);
    }

    private static void numbers() {
        C.sentence("each WIDE (1 .. 9 units)");
        fault("class a wide |0;");
        for (int n = 1; n <= 9; n++) {
            table("class a wide " + n + ";", 1);
            C.due("of(0, 0)", n, Scene.of("class a wide " + n + ";", "").made().of(0, 0));
        }
        faults("", "class a wide |/;", "class a wide |:;", "class a wide 1|0;", "class a wide |-1;");
        for (int i = 1; i <= 9; i++) {
            for (int n = 0; n <= 9; n++) {
                heldAgainstWide(i, n);
            }
        }
        C.sentence("OPEN n rank r (n 0 .. 9; 0 and 1 without)");
        for (int n = 0; n <= 9; n++) {
            LineEnds x = Scene.of("class a wide 1 open " + n + " rank 2;", "").made();
            C.due("OPEN of(0, 7)", n, x.of(0, 7));
            C.due("OPEN's rank of(0, 8)", 2, x.of(0, 8));
        }
        faults("class a wide 1 open ", "1|0 rank 1;", "|/ rank 1;", "|: rank 1;");
        C.sentence("r 1 .. 3");
        for (String what : new String[] {"squeeze", "open"}) {
            String ahead = "class a wide 9 " + what + " 1 rank ";
            faults(ahead, "|0;", "|4;", "|9;", "1|1;", "|a;", "|;");
            for (int r = 1; r <= 3; r++) {
                C.due(ahead + r, r, Scene.of(ahead + r + ";", "").made().of(0, what.equals("open") ? 8 : 6));
            }
        }
        C.sentence("0 without; 0 and 1 without");
        LineEnds x = Scene.of("class a wide 9;", "").made();
        int[] wants = {9, 0, 0, 0, 0, 0, 1, 0, 1, 0};
        for (int what = 0; what < 10; what++) {
            C.due("of(0, " + what + ")", wants[what], x.of(0, what));
        }
    }

    private static void heldAgainstWide(int wide, int n) {
        C.sentence("N of trim, squeeze are held against WIDE (0 .. WIDE less 1)");
        String trim = "class a wide " + wide + " trim ";
        String squeeze = "class a wide " + wide + " trim 0 squeeze ";
        if (n < wide) {
            C.due(trim + n, n, Scene.of(trim + n + ";", "").made().of(0, 4));
            C.due(squeeze + n, n, Scene.of(squeeze + n + " rank 1;", "").made().of(0, 5));
        } else {
            fault(trim + "|" + n + ";");
            fault(squeeze + "|" + n + " rank 1;");
        }
    }

    private static void pairsMost() {
        C.sentence("PAIRS (12 at most); FAULT: a 13th PAIR at its first letter");
        for (int n = 0; n <= 12; n++) {
            table(TEN + keeps(n), 10);
            C.due("PAIRS", n, Scene.of(TEN + keeps(n), "").ask(x -> x.count(1)));
        }
        fault(TEN + keeps(12) + "keep |b c;");
        fault(TEN + keeps(12) + "keep   |j j  ;");
        fault(TEN + keeps(12) + "keep |b c");
        fault(TEN + keeps(12) + "keep |b c x");
        fault(TEN + keeps(12) + "keep b |k;");
        fault(TEN + keeps(12) + "keep b|;");
        fault(TEN + keeps(12) + "keep |k b;");
        C.sentence("a PAIR told twice is one");
        table(TEN + keeps(12) + keeps(12), 10);
        C.due("PAIRS told twice", 12, Scene.of(TEN + keeps(12) + keeps(12), "").ask(x -> x.count(1)));
        fault(TEN + keeps(12) + "keep a a;keep |j a;");
        fault(TEN + keeps(12) + "keep a a|");
        C.due("one", 1, Scene.of("class a wide 1;keep a a;keep a a;keep a a;", "").ask(x -> x.count(1)));
        C.due("the other order is another one", 2, Scene.of("class a wide 1;class b wide 1;keep a b;keep b a;", "").ask(x -> x.count(1)));
    }

    private static void order() {
        C.sentence("class L wide N [shy begin] [shy end] [hang] [trim N] [squeeze N rank N] [open N rank N] ;, these in this order");
        String[] parts = {"shy begin", "shy end", "hang", "trim 1", "squeeze 1 rank 1", "open 1 rank 1"};
        String ahead = "class a wide 2 ";
        for (int i = 0; i < parts.length; i++) {
            table(ahead + parts[i] + ";", 1);
            for (int k = 0; k < parts.length; k++) {
                if (i < k) {
                    table(ahead + parts[i] + " " + parts[k] + ";", 1);
                } else if (i == 0) {
                    fault(ahead + "shy begin shy |begin;");
                } else {
                    fault(ahead + parts[i] + " |" + parts[k] + ";");
                }
            }
        }
        table(ahead + String.join(" ", parts) + ";", 1);
        fault(ahead + String.join(" ", parts) + " |" + parts[5] + ";");
        faults("", "class a |shy begin wide 2;", "class a |hang wide 2;", "class |wide 2 a;", "|wide 2 class a;",
            "class a wide 2 |wide 2;", "class a wide 2 |rank 1;", "class a wide 2 squeeze 1 |open 1 rank 1;", "class a wide 2 open 1 |;",
            "class a wide 2 |keep a a;", "class a wide 2 |class b wide 2;", "class a wide 2 shy |shy end;", "class a wide 2 shy |trim 1;",
            "class a wide 2 |rank;", "|hang;", "|shy begin;", "|;", "class a wide 2;|;", "class a wide 2;|hang;");
        C.due("all of it", "class a wide 2 shy begin shy end hang trim 1 squeeze 1 rank 1 open 1 rank 1;",
            Scene.of(ahead + String.join(" ", parts) + ";", "").table());
    }

    private static void toldOnce() {
        C.sentence("each CLASS told once; FAULT: a letter told already, at it");
        faults("class a wide 1;", "class |a wide 1;", "class b wide 2;class |a wide 1;", "class b wide 2;class |b wide 2;", "keep a a;class |a wide 1;");
        C.sentence("ahead of where it stands in keep; FAULT: a letter not told, at it");
        faults("", "keep |a a;class a wide 1;", "class a wide 1;keep a |b;class b wide 1;", "class a wide 1;keep |b a;class b wide 1;",
            "class a wide 1;keep |z z;", "class b wide 1;keep |a b;", "class b wide 1;keep |c b;", "class b wide 1;keep b |a;", "class b wide 1;keep b |c;");
        table("class a wide 1;keep a a;class b wide 1;keep a b;keep b a;", 2);
        fault("class a wide 1;keep a a;keep a |b;class b wide 1;");
    }

    private static void words() {
        C.sentence("FAULT: the first byte that can't stand there (a WORD's first one)");
        faults("", "|classs a wide 1;", "|clas a wide 1;", "|Class a wide 1;", "keep|", "|kee", "|k", "|c", "|z", "|`", "|{", "|0", "|\u00ff", "|\u0000");
        fault("class|S a wide 1;");
        fault("class |wide 1;");
        faults("class a ", "|wid 1;", "|widee 1;", "|Wide 1;", "|a 1;", "|1;", "|;", "wide|.1;", "wide |x;", "wide |;", "wide 1 |x;", "wide 1 |hanging;",
            "wide 1 |han;", "wide 1 |shyly;", "wide 1 shy |beg;", "wide 1 shy |begins;", "wide 1 shy |ends;", "wide 1 |trims 0;", "wide 1 trim |x;",
            "wide 1 trim |;", "wide 1 |squeezes 0 rank 1;", "wide 1 squeeze 0 |ranks 1;", "wide 1 squeeze 0|;", "wide 1 squeeze |rank 1;", "wide 1 |opens 0 rank 1;",
            "wide 1 open 0 |ran 1;", "wide 1 open |rank 1;", "wide 1 shy begin |end;", "wide 1|,;", "wide 1 |,;", "wide 1 |9;");
        faults("class a wide 1;", "|keeps a a;", "|kee a a;", "keep |aa;", "keep |aa a;", "keep a |aa;", "keep |A a;", "keep a |A;", "keep |1 a;", "keep a |1;",
            "keep a a |a;", "keep a a |1;", "keep |;", "keep a |;", "keep a a|,", "|a", "|1", "|wide 1;");
        for (String word : new String[] {"class", "wide", "shy", "begin", "end", "hang", "trim", "squeeze", "rank", "open", "keep"}) {
            String whole = "class a wide 4 shy begin shy end hang trim 3 squeeze 3 rank 1 open 1 rank 1;keep a a;";
            int at = (" " + whole.replace(';', ' ')).indexOf(" " + word + " ");
            for (int i = 0; i < word.length(); i++) {
                for (int other : new int[] {word.charAt(i) - 1, word.charAt(i) + 1, word.charAt(i) - 32}) {
                    table(whole.substring(0, at + i) + (char) other + whole.substring(at + i + 1), -4 - at);
                }
            }
        }
        C.sentence("WORDS: small letters as far as they go on; L one of one letter; N one digit");
        faults("", "class |ab wide 1;", "class a wide 1|1;", "class a wide |01;", "|classa wide 1;", "class |awide 1;");
    }

    private static void blanks() {
        C.sentence("Blanks (32) where one likes");
        table("class a wide 2 trim 1 squeeze 1 rank 1;keep a a;", 1);
        table("   class   a   wide   2   trim   1   squeeze   1   rank   1   ;   keep   a   a   ;   ", 1);
        table("class a wide 2;class b wide 2 ;keep a b;keep b a ; ", 2);
        for (int value : new int[] {0, 9, 10, 13, 31, 33, 160}) {
            char off = (char) value;
            faults("", "|" + off + "class a wide 1;", "class|" + off + "a wide 1;", "class |" + off + "a wide 1;", "class a wide 1|" + off + ";",
                "class a wide 1;|" + off, "class a wide 1;keep a|" + off + "a;");
        }
    }

    private static void glued() {
        C.sentence("one at least between two WORDS, or a WORD and N, N and a WORD, two N (else the second one can't stand there)");
        faults("", "class a wide|2;", "class a wide 2|shy end;", "class a wide 2|hang;", "class a wide 2|trim 1;", "class a wide 2 trim|1;",
            "class a wide 2 trim 1|squeeze 1 rank 1;", "class a wide 2 squeeze|1 rank 1;", "class a wide 2 squeeze 1|rank 1;",
            "class a wide 2 squeeze 1 rank|1;", "class a wide 2 squeeze 1 rank 1|open 1 rank 1;", "class a wide 2 open|1 rank 1;",
            "class a wide 2 open 1|rank 1;", "class a wide 2 open 1 rank|1;", "class a wide 2|2;", "class a wide 2 trim 1|1;",
            "class a wide 2 shy |endhang;", "class a wide 2 shy |beginshy end;", "class a wide 2 |shybegin;", "class a wide 2 |hangtrim 1;");
        faults("class a wide 1;", "|keepa a;", "keep |aa;", "keep a a|1;");
        C.sentence("none is wanted at a ;");
        table("class a wide 2 hang;class b wide 2 shy end;keep a b;keep b a;", 2);
    }

    /** Every beginning of a TEXT: a cut WORD can't stand there, else the TEXT ends too early, or is one. */
    private static void endsTooEarly() {
        C.sentence("FAULT: the TEXT's length, if it ends too early");
        String text = "class a wide 4 shy begin shy end hang trim 3 squeeze 2 rank 1 open 9 rank 3;keep a a; class b wide 1 ;";
        for (int length = 0; length <= text.length(); length++) {
            String cut = text.substring(0, length);
            boolean within = length > 0 && length < text.length() && isLetter(text, length - 1) && isLetter(text, length);
            boolean whole = cut.isBlank() || cut.trim().endsWith(";");
            if (within) {
                table(cut, -4 - (cut.lastIndexOf(' ') > cut.lastIndexOf(';') ? cut.lastIndexOf(' ') + 1 : cut.lastIndexOf(';') + 1));
            } else if (whole) {
                table(cut, cut.contains("b wide 1 ;") ? 2 : cut.contains(";") ? 1 : 0);
            } else {
                table(cut, -4 - length);
                table(cut + "   ", -4 - length - 3);
            }
        }
    }

    private static boolean isLetter(String text, int i) {
        return text.charAt(i) >= 'a' && text.charAt(i) <= 'z';
    }

    private static void paragraphAnswers() {
        Scene told = Scene.of("class a wide 4;class b wide 3;class z wide 1;", "");
        C.sentence("5 The tape (empty then, behind a FAULT, too) is the PARAGRAPH");
        for (String text : new String[] {"", "a", "abz", "x", "a".repeat(41), "a1"}) {
            C.due("count(5) behind \"" + text + "\"", 0, told.then(x -> Check.paragraph(x, text)).ask(x -> x.count(5)));
            C.due("an empty one behind \"" + text + "\"", 0, told.then(x -> Check.paragraph(x, text)).ask(LineEnds::paragraph));
        }
        C.sentence("5 letters of CLASSES alone, blanks where one likes: how many SIGNS");
        for (int i = 0; i <= 40; i++) {
            String text = "z".repeat(i);
            C.due(i + " SIGNS", i, told.ask(x -> Check.paragraph(x, text)));
            C.due(i + " SIGNS, count(2)", i, told.then(x -> Check.paragraph(x, text)).ask(x -> x.count(2)));
        }
        C.due("blanks alone", 0, told.ask(x -> Check.paragraph(x, "     ")));
        C.due("500 blanks", 0, told.ask(x -> Check.paragraph(x, " ".repeat(500))));
        C.due("blanks", "abz", told.then(x -> Check.paragraph(x, "  a  b z  ")).signs());
        C.due("40 at the end of 500", 40, told.ask(x -> Check.paragraph(x, " ".repeat(460) + "ab".repeat(20))));
        C.due("40 at the begin of 500", 40, told.ask(x -> Check.paragraph(x, "ab".repeat(20) + " ".repeat(460))));
        C.due("0 in place of some", 0, Scene.busy().then(LineEnds::paragraph).ask(x -> x.count(2)));
        C.due("without CLASSES", 0, Scene.fresh().ask(LineEnds::paragraph));
        C.sentence("5 nothing can be undone then");
        C.due("undo", NONE, Scene.busy().then(LineEnds::paragraph).ask(LineEnds::undo));
        C.due("ACTS", 0, Scene.busy().then(LineEnds::paragraph).ask(x -> x.count(4)));
        C.due("undo behind 12 ACTS", NONE, twelveActs().then(x -> Check.paragraph(x, "a")).ask(LineEnds::undo));
        C.sentence("A SIGN has a MARK: 0 none (at first)");
        C.due("MARKS", "0".repeat(12), Scene.busy().then(x -> Check.paragraph(x, "abcabzacbbza")).marks());
        C.sentence("5 the PARAGRAPH alone is another one");
        Scene other = Scene.busy().then(x -> Check.paragraph(x, "z"));
        C.due("TABLE", Scene.busy().table(), other.table());
        Scene.busy().then(Scene::askAll, x -> Check.paragraph(x, "z")).looksAs(C, "asked ahead", other);
        int[] wants = {4, 3, 1, 11, 0, 0, 1, 1, 3, 7, 500, 0, 0};
        for (int i = 0; i < wants.length; i++) {
            int what = i;
            C.due("count(" + what + ")", wants[i], other.ask(x -> x.count(what)));
        }
    }

    private static void paragraphFaults() {
        Scene told = Scene.of("class a wide 4;class y wide 3;", "");
        C.sentence("5 -4 less its FAULT (the first byte that is none)");
        for (int value = 0; value < 256; value++) {
            String text = "a " + (char) value;
            int want = value == 'a' || value == 'y' ? 2 : value == ' ' ? 1 : -6;
            C.due("a byte " + value, want, told.ask(x -> Check.paragraph(x, text)));
        }
        C.due("the first byte", -4, told.ask(x -> Check.paragraph(x, "zaa")));
        C.due("the first of two", -5, told.ask(x -> Check.paragraph(x, "azbaa")));
        C.due("the 500th byte", -503, told.ask(x -> Check.paragraph(x, " ".repeat(499) + "b")));
        C.due("without CLASSES", -6, Scene.fresh().ask(x -> Check.paragraph(x, "  a")));
        C.sentence("5 -4 less its FAULT (a 41st SIGN)");
        C.due("the 41st", -44, told.ask(x -> Check.paragraph(x, "a".repeat(41))));
        C.due("the 41st, not the 42nd", -44, told.ask(x -> Check.paragraph(x, "a".repeat(60))));
        C.due("the 41st behind blanks", -54, told.ask(x -> Check.paragraph(x, "a".repeat(40) + " ".repeat(10) + "y")));
        C.due("the 41st at the 500th byte", -503, told.ask(x -> Check.paragraph(x, "a".repeat(40) + " ".repeat(459) + "a")));
        C.due("ahead of it a byte that is none", -43, told.ask(x -> Check.paragraph(x, "a".repeat(39) + "1aa")));
        C.due("behind it a byte that is none", -44, told.ask(x -> Check.paragraph(x, "a".repeat(41) + "1")));
    }

    private static void paragraphStays() {
        C.sentence("5 -4 less its FAULT, and all else stays");
        for (String text : new String[] {"x", "a1", "zzd", "a".repeat(41), "ab ".repeat(20) + "c", " ".repeat(499) + "y"}) {
            Scene.busy().then(x -> Check.paragraph(x, text)).looksAs(C, "\"" + text + "\"", Scene.busy());
        }
        twelveActs().then(x -> Check.paragraph(x, "ab")).looksAs(C, "12 ACTS", twelveActs());
        Scene.forty().then(x -> Check.paragraph(x, "c")).looksAs(C, "40 SIGNS", Scene.forty());
        Scene.fresh().then(x -> Check.paragraph(x, "a")).looksAs(C, "a new object", Scene.fresh());
    }
}
