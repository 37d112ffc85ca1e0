/** Promises 1 to 5: a new object, the tape, the TABLE's TEXT, the PARAGRAPH. */
public final class ToldTest {
    private static final Check C = new Check();

    public static void main(String[] args) {
        newObject();
        feed();
        back();
        tables();
        faultsOfTables();
        faultsOfPairs();
        tableLeaves();
        paragraphs();
        C.end();
    }

    private static void newObject() {
        LineEnds x = new LineEnds();
        int[] wants = {0, 0, 0, 20, 0, 0, 0, 0, 2, 10, 1000, 0, 0};
        for (int what = 0; what < wants.length; what++) {
            C.due("1 count(" + what + ")", wants[what], x.count(what));
        }
        C.due("1 spellTable(NONE)", 0, x.spellTable(LineEnds.NONE));
        for (int letter = 0; letter < 26; letter++) {
            C.due("1 of(" + letter + ", 0)", -1, x.of(letter, 0));
        }
        for (int kind = 0; kind < 4; kind++) {
            C.due("1 lines(" + kind + ", 0)", 0, x.lines(kind, 0));
        }
        C.due("1 NONE", -1, LineEnds.NONE);
    }

    private static void feed() {
        LineEnds x = new LineEnds();
        Check.table(x, "class a wide 1;class b wide 1;class c wide 1;class d wide 1;class e wide 1;");
        C.due("2 feed", 20, x.feed(0x61626364, 0x65656565, 0x64636261, 0x62206220, 0x61616165));
        C.due("2 paragraph", 18, x.paragraph());
        C.due("2 bytes, the highest first", "abcdeeeedcbabbaaae", Check.signs(x));
        x.feed(0x61616161, 0x61E96161, -1, 0, 0);
        C.due("2 a byte above 127", -9, x.paragraph());
        x.feed(0x61616161, 0x61616161, 0x616161FF, 0, 0);
        C.due("2 the lowest byte", -15, x.paragraph());
        x.feed(-1, 0x61616161, 0x61616161, 0x61616161, 0x61616161);
        C.due("2 the highest byte", -4, x.paragraph());
        for (int n = 20; n <= 500; n += 20) {
            C.due("2 feed to " + n, n, x.feed(0, 0, 0, 0, 0));
        }
        C.due("2 feed beyond 500", -1, x.feed(0, 0, 0, 0, 0));
        C.due("2 nothing came", 500, x.count(5));
        x.back(19);
        C.due("2 feed at 481", -1, x.feed(0, 0, 0, 0, 0));
        C.due("2 nothing came at 481", 481, x.count(5));
        x.back(1);
        C.due("2 feed at 480", 500, x.feed(0, 0, 0, 0, 0));
    }

    private static void back() {
        LineEnds x = new LineEnds();
        C.due("3 back(0), empty", 0, x.back(0));
        C.due("3 back(1), empty", -1, x.back(1));
        Check.table(x, "class a wide 1;class b wide 1;");
        x.feed(0x61616262, 0x61616262, 0x62626262, 0x62626262, 0x62626262);
        C.due("3 back(21)", -1, x.back(21));
        C.due("3 back(-1)", -1, x.back(-1));
        C.due("3 back least int", -1, x.back(Integer.MIN_VALUE));
        C.due("3 nothing went", 20, x.count(5));
        C.due("3 back(15)", 5, x.back(15));
        C.due("3 back(0)", 5, x.back(0));
        C.due("3 the last ones went", 5, x.paragraph());
        C.due("3 signs", "aabba", Check.signs(x));
        x.feed(0, 0, 0, 0, 0);
        C.due("3 back(20)", 0, x.back(20));
    }

    private static void table(String text, int want) {
        LineEnds x = new LineEnds();
        C.due("4 table \"" + text + "\"", want, Check.table(x, text));
        C.due("4 the tape is empty", 0, x.count(5));
    }

    private static void tables() {
        table("", 0);
        table("   ", 0);
        table("class a wide 1;", 1);
        table("  class  a  wide  9  ;  ", 1);
        table("class z wide 4 shy begin shy end hang trim 3 squeeze 3 rank 3 open 9 rank 3;", 1);
        table("class z wide 4 shy begin hang squeeze 3 rank 1;class y wide 4 shy end trim 0 open 0 rank 1;", 2);
        table("class a wide 4;keep a a;class b wide 3;keep a b;keep b a;keep a b;", 2);
        table("class a wide 1 trim 0 squeeze 0 rank 2;", 1);
        LineEnds x = new LineEnds();
        Check.table(x, "class q wide 7 hang trim 6 squeeze 5 rank 2 open 4 rank 3;class b wide 2 shy begin;keep q b;keep q b;");
        int[] q = {7, 0, 0, 1, 6, 5, 2, 4, 3, 0};
        int[] b = {2, 1, 0, 0, 0, 0, 1, 0, 1, 0};
        for (int what = 0; what < 10; what++) {
            C.due("4 of q " + what, q[what], x.of(16, what));
            C.due("4 of b " + what, b[what], x.of(1, what));
        }
        C.due("4 a PAIR told twice is one", 1, x.count(1));
    }

    /** Each text has a bar ahead of the byte that is its FAULT. */
    private static void fault(String barred) {
        int at = barred.indexOf('|');
        table(barred.replace("|", ""), -4 - at);
    }

    private static void faultsOfTables() {
        for (String text : new String[] {
            "|x", "|clas a wide 4;", "|klass a wide 4;", "|clas", "class|", "|;", "|4", "|Class a wide 4;", "|\tclass a wide 4;", "|a", "|classa wide 4;",
            "class |", "class|4", "class   |", "class |ab wide 4;", "class |A wide 4;", "class |wide 4;", "class |;",
            "class a|", "class a |", "class a |wid 4;", "class a |wider 4;", "class a|; wide 4;", "class a|4 wide 4;",
            "class a wide|", "class a wide |", "class a wide |0;", "class a wide |x;", "class a wide|4;", "class a wide |;",
            "class a wide 4|", "class a wide 4 |", "class a wide 1|2;", "class a wide 4 |5;", "class a wide 4|hang;",
            "class a wide 4 |keep;", "class a wide 4 |class b wide 3;", "class a wide 4 |begin;", "class a wide 4|.",
            "class a wide 4 shy|", "class a wide 4 shy|;", "class a wide 4 shy |hang;", "class a wide 4 shy begin |begin;",
            "class a wide 4 shy begin shy |begin;", "class a wide 4 shy end |shy begin;", "class a wide 4 shy end |shy end;",
            "class a wide 4 hang |shy end;", "class a wide 4 hang |hang;", "class a wide 4 hang|4;", "class a wide 4 trim 1 |hang;",
            "class a wide 4 trim |4;", "class a wide 4 trim|3;", "class a wide 4 trim |x;", "class a wide 4 trim 3|3;",
            "class a wide 1 trim |1;", "class a wide 4 trim|;", "class a wide 4 trim 2|squeeze 1 rank 1;",
            "class a wide 4 squeeze |4 rank 1;", "class a wide 4 squeeze 3|;", "class a wide 4 squeeze 3 |trim 1;",
            "class a wide 4 squeeze 3 rank |0;", "class a wide 4 squeeze 3 rank |4;", "class a wide 4 squeeze 3|rank 1;",
            "class a wide 4 squeeze 3 rank|1;", "class a wide 4 squeeze 3 rank 1|open 1 rank 1;", "class a wide 4 squeeze 3 rank|",
            "class a wide 4 squeeze 1 rank 1 |squeeze 1 rank 1;", "class a wide 4 squeeze 1 rank 1 |trim 1;",
            "class a wide 4 open 9|;", "class a wide 4 open 9 rank |0;", "class a wide 4 open 9 rank |4;", "class a wide 4 open 1|0 rank 1;",
            "class a wide 4 open |x rank 1;", "class a wide 4 open 9 rank 3|", "class a wide 4 open 9 rank 3 |hang;",
            "class a wide 4 open 1 rank 1 |squeeze 1 rank 1;", "class a wide 4;|;", "class a wide 4;|4", "class a wide 4;|a",
            "class a wide 4;class |a wide 4;", "class a wide 4; |trim 1;", "class a wide 4 |,;", "class a wide 4;|\u00e9",
        }) {
            fault(text);
        }
        StringBuilder ten = new StringBuilder();
        for (char letter = 'a'; letter < 'k'; letter++) {
            ten.append("class ").append(letter).append(" wide 1;");
        }
        table(ten.toString(), 10);
        fault(ten + "class |k wide 1;");
        fault(ten + "class |k");
        fault(ten + "class |a wide 1;");
        table(ten + "keep a j;", 10);
    }

    private static void faultsOfPairs() {
        String four = "class a wide 1;class b wide 1;class c wide 1;class d wide 1;";
        for (String text : new String[] {
            "keep |", "keep|", "|keeps a b;", "keep |e a;", "keep a |e;", "keep |ab;", "keep a|", "keep a|;", "keep a |4;", "keep|4",
            "keep a b|", "keep a b |c;", "keep a b|4;", "keep a b;|;", "keep a|4;", "keep |A b;", "keep a |B;",
        }) {
            fault(four + text);
        }
        fault("keep |a a;class a wide 1;");
        fault("class a wide 1;keep a |b;class b wide 1;");
        StringBuilder twelve = new StringBuilder(four);
        for (char first = 'a'; first < 'd'; first++) {
            for (char second = 'a'; second <= 'd'; second++) {
                twelve.append("keep ").append(first).append(' ').append(second).append(';');
            }
        }
        table(twelve.toString(), 4);
        fault(twelve + "keep |d a;");
        fault(twelve + "keep |d a");
        fault(twelve + "keep d |e;");
        fault(twelve + "keep d |");
        table(twelve + "keep a a;keep c d;", 4);
        fault(twelve + "keep a a|");
    }

    private static void tableLeaves() {
        LineEnds x = Check.made("class a wide 4 shy end;class b wide 3;keep a b;", "abab", 17);
        x.weigh(1, 11);
        x.mark(0, 1);
        String table = Check.speltTable(x);
        C.due("4 a FAULT", -4, Check.table(x, "wrong"));
        C.due("4 the TABLE stays", table, Check.speltTable(x));
        C.due("4 the SIGNS stay", "abab", Check.signs(x));
        C.due("4 the MARKS stay", "1000", Check.marks(x));
        C.due("4 ACTS stay", 3, x.count(4));
        C.due("4 a half told TABLE leaves no trace", -26, Check.table(x, "class b wide 9;keep b z;"));
        C.due("4 the TABLE stays as it was", table, Check.speltTable(x));
        C.due("4 LINES ahead of a new TABLE", true, x.lines(0, 0) > 0 && x.ways() > 0);
        C.due("4 a new TABLE", 1, Check.table(x, "class c wide 2;"));
        C.due("4 no LINES", 0, x.lines(0, 0));
        C.due("4 no WAYS", 0, x.ways());
        C.due("4 it alone", "class c wide 2;", Check.speltTable(x));
        C.due("4 no PAIRS", 0, x.count(1));
        C.due("4 no SIGNS", 0, x.count(2));
        C.due("4 WIDTH stays", 17, x.count(3));
        C.due("4 no ACTS", 0, x.count(4));
        C.due("4 nothing can be undone", -1, x.undo());
        C.due("4 WEIGHTS stay", 11, x.count(9));
        C.due("4 an empty TABLE", 0, x.table());
        C.due("4 no CLASSES", 0, x.count(0));
    }

    private static void paragraphs() {
        LineEnds x = Check.made("class a wide 4;class b wide 3;", "", 9);
        C.due("5 empty", 0, x.count(2));
        C.due("5 no LINES", 0, x.lines(0, 0));
        C.due("5 blanks", 3, Check.paragraph(x, "  a b  b "));
        C.due("5 LINES", 2, x.lines(0, 0));
        C.due("5 signs", "abb", Check.signs(x));
        C.due("5 the tape is empty", 0, x.count(5));
        C.due("5 nothing can be undone", -1, x.undo());
        x.mark(1, 2);
        C.due("5 a letter not told", -6, Check.paragraph(x, "abc"));
        C.due("5 the tape is empty behind a FAULT", 0, x.count(5));
        C.due("5 the SIGNS stay", "abb", Check.signs(x));
        C.due("5 the MARKS stay", "020", Check.marks(x));
        C.due("5 ACTS stay", 1, x.count(4));
        C.due("5 a capital", -4, Check.paragraph(x, "A"));
        C.due("5 a digit", -7, Check.paragraph(x, "a a1"));
        C.due("5 a 41st", -45, Check.paragraph(x, " " + "ab".repeat(20) + "a"));
        C.due("5 a 41st behind blanks", -54, Check.paragraph(x, "ab".repeat(20) + " ".repeat(10) + "ba"));
        C.due("5 40 and blanks", 40, Check.paragraph(x, "ab".repeat(20) + " ".repeat(10)));
        C.due("5 MARKS are 0", "0".repeat(40), Check.marks(x));
        C.due("5 WIDTH stays", 9, x.count(3));
        C.due("5 none", 0, Check.paragraph(x, "  "));
        C.due("5 none", 0, x.count(2));
        C.due("5 without CLASSES", -4, Check.paragraph(new LineEnds(), "a"));
    }
}
