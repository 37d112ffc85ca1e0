/** What the tests share: answers held against those that are due, texts fed to a tape. */
final class Check {
    private int wrong = 0;
    private int held = 0;
    private String sentence = "";

    /** The words of the document that the answers from here on are held against, the promise's number ahead. */
    void sentence(String words) {
        sentence = words + ": ";
    }

    void due(String call, long want, long got) {
        held++;
        if (got != want) {
            wrong++;
            System.out.println(sentence + call + " answered " + got + ", due is " + want);
        }
    }

    void due(String call, boolean want, boolean got) {
        due(call, want ? 1 : 0, got ? 1 : 0);
    }

    void due(String call, String want, String got) {
        held++;
        if (!want.equals(got)) {
            wrong++;
            System.out.println(sentence + call + " answered \"" + got + "\", due is \"" + want + "\"");
        }
    }

    void end() {
        System.out.println(held + " answers, " + wrong + " not as due");
        if (wrong != 0) {
            System.exit(1);
        }
    }

    /** The five numbers that feed takes for twenty bytes of a text from a place on, blanks behind it. */
    static int[] packed(String text, int from) {
        int[] fives = new int[5];
        for (int i = 0; i < 20; i++) {
            int value = from + i < text.length() ? text.charAt(from + i) & 255 : ' ';
            fives[i / 4] = fives[i / 4] << 8 | value;
        }
        return fives;
    }

    /** Puts a text behind the tape, no byte more. */
    static void say(LineEnds x, String text) {
        for (int from = 0; from < text.length(); from += 20) {
            int[] f = packed(text, from);
            x.feed(f[0], f[1], f[2], f[3], f[4]);
        }
        x.back((20 - text.length() % 20) % 20);
    }

    static int table(LineEnds x, String text) {
        say(x, text);
        return x.table();
    }

    static int paragraph(LineEnds x, String text) {
        say(x, text);
        return x.paragraph();
    }

    /** A new object with a table, a paragraph and a width. */
    static LineEnds made(String table, String paragraph, int width) {
        LineEnds x = new LineEnds();
        table(x, table);
        paragraph(x, paragraph);
        x.width(width);
        return x;
    }

    static String spelt(LineEnds x, int kind, int line) {
        StringBuilder text = new StringBuilder();
        int length = x.spell(kind, line, -1);
        for (int i = 0; i < length; i++) {
            text.append((char) x.spell(kind, line, i));
        }
        return text.toString();
    }

    /** All lines of a kind, a bar between two. */
    static String spelt(LineEnds x, int kind) {
        StringBuilder text = new StringBuilder();
        int lines = x.lines(kind, 0);
        for (int line = 0; line < lines; line++) {
            text.append(line == 0 ? "" : "|").append(spelt(x, kind, line));
        }
        return text.toString();
    }

    static String speltTable(LineEnds x) {
        StringBuilder text = new StringBuilder();
        int length = x.spellTable(-1);
        for (int i = 0; i < length; i++) {
            text.append((char) x.spellTable(i));
        }
        return text.toString();
    }

    static String signs(LineEnds x) {
        StringBuilder text = new StringBuilder();
        int signs = x.count(2);
        for (int i = 0; i < signs; i++) {
            text.append((char) ('a' + x.sign(i)));
        }
        return text.toString();
    }

    static String marks(LineEnds x) {
        StringBuilder text = new StringBuilder();
        int signs = x.count(2);
        for (int i = 0; i < signs; i++) {
            text.append(x.marked(i));
        }
        return text.toString();
    }
}
