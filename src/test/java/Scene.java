import java.util.ArrayList;
import java.util.List;

/**
 * How an object came to be: a run of calls that can be made again. Each look at it has a new object of its own, as
 * the document says nothing of an object's answers behind its 512th call.
 */
final class Scene {
    private static final int NONE = LineEnds.NONE;
    private static final int ACTS = 12;
    private static final int KINDS = 4;

    /** A call, or several; a boolean counts 1 or 0. */
    interface Call {
        int on(LineEnds x);
    }

    private interface Look {
        String at(LineEnds x);
    }

    private final List<Call> calls;

    private Scene(List<Call> calls) {
        this.calls = calls;
    }

    static Scene fresh() {
        return new Scene(List.of());
    }

    static Scene of(String table, String paragraph) {
        return fresh().then(x -> Check.table(x, table), x -> Check.paragraph(x, paragraph));
    }

    /** Something of all there is, so that what a call touches beyond its own shows. */
    static Scene busy() {
        return of("class a wide 4 shy end squeeze 1 rank 2 open 2 rank 1;class b wide 3 hang trim 1 open 1 rank 3;"
            + "class c wide 2 shy begin trim 1;class z wide 5 squeeze 4 rank 1;keep a b;keep z a;", "abcabzacbbza")
            .then(x -> x.width(11), x -> x.mark(4, 1), x -> x.mark(7, 2), x -> x.weigh(0, 3), x -> x.weigh(1, 7),
                x -> x.weigh(2, 500), x -> x.shy(25, true), x -> x.pair(2, 2));
    }

    /** Forty SIGNS, twenty of them a, every fourth with a MARK, and so ten ACTS. */
    static Scene forty() {
        Scene all = of("class a wide 3 squeeze 1 rank 1;class b wide 2 open 1 rank 2;", "ab".repeat(20));
        for (int i = 3; i < 40; i += 4) {
            int at = i;
            all = all.then(x -> x.mark(at, 1 + at / 4 % 2));
        }
        return all;
    }

    Scene then(Call... more) {
        List<Call> all = new ArrayList<>(calls);
        all.addAll(List.of(more));
        return new Scene(all);
    }

    Scene said(String text) {
        return then(x -> {
            Check.say(x, text);
            return 0;
        });
    }

    Scene withWidth(int width) {
        return then(x -> x.width(width));
    }

    /** The MARKS of the first SIGNS, a digit each. */
    Scene withMarks(String marks) {
        Scene all = this;
        for (int i = 0; i < marks.length(); i++) {
            int at = i;
            all = all.then(x -> x.mark(at, marks.charAt(at) - '0'));
        }
        return all;
    }

    LineEnds made() {
        LineEnds x = new LineEnds();
        calls.forEach(call -> call.on(x));
        return x;
    }

    int ask(Call call) {
        return call.on(made());
    }

    String signs() {
        return Check.signs(made());
    }

    String marks() {
        return Check.marks(made());
    }

    String table() {
        return Check.speltTable(made());
    }

    String lines(int kind) {
        return Check.spelt(made(), kind);
    }

    /** A call's answer, and that nothing that can be seen is another than it was. */
    void stays(Check check, String call, int want, Call made) {
        check.due(call, want, ask(made));
        then(made).looksAs(check, call, this);
    }

    /** A call's answer, that it is an ACT, that undo takes back all of it, and that what was asked ahead is no matter. */
    void acts(Check check, String call, int want, Call made) {
        check.due(call, want, ask(made));
        int acts = ask(x -> x.count(4));
        check.due(call + ", ACTS", Math.min(acts + 1, ACTS), then(made).ask(x -> x.count(4)));
        then(Scene::askAll, made).looksAs(check, call + ", asked ahead", then(made));
        if (acts < ACTS) {
            then(made, LineEnds::undo).looksAs(check, call + ", undone", this);
            then(made, Scene::askAll, LineEnds::undo).looksAs(check, call + ", asked and undone", this);
        }
    }

    /** Calls that find LINES and WAYS: what they found is no matter once something has changed. */
    static int askAll(LineEnds x) {
        for (int kind = 0; kind < KINDS; kind++) {
            x.lines(kind, 1);
            x.river(kind);
        }
        return x.ways() + x.natural(0, 0) + x.worst() + x.bestWidth() + x.spellTable(NONE);
    }

    void looksAs(Check check, String call, Scene other) {
        List<Look> looks = looks();
        for (int i = 0; i < looks.size(); i++) {
            check.due(call + ", look " + i, looks.get(i).at(other.made()), looks.get(i).at(made()));
        }
    }

    private static List<Look> looks() {
        List<Look> looks = new ArrayList<>(List.of(Scene::counts, Scene::classes, Scene::pairs, Scene::signsAndCosts,
            Scene::ways, Scene::tapeAsParagraph, Scene::tapeAsTable));
        for (int kind = 0; kind < KINDS; kind++) {
            int of = kind;
            looks.add(x -> linesOf(x, of));
        }
        for (int depth = 1; depth <= ACTS; depth++) {
            int deep = depth;
            looks.add(x -> undone(x, deep));
        }
        return looks;
    }

    private static String counts(LineEnds x) {
        StringBuilder text = new StringBuilder("counts");
        for (int what = 0; what <= 12; what++) {
            text.append(' ').append(x.count(what));
        }
        return text.toString();
    }

    private static String classes(LineEnds x) {
        StringBuilder text = new StringBuilder("classes");
        for (int letter = 0; letter < 26; letter++) {
            for (int what = 0; what < 10; what++) {
                text.append(' ').append(x.of(letter, what));
            }
        }
        return text.append(' ').append(x.spellTable(NONE)).toString();
    }

    private static String pairs(LineEnds x) {
        StringBuilder text = new StringBuilder("pairs");
        List<Integer> told = new ArrayList<>();
        for (int letter = 0; letter < 26; letter++) {
            if (x.of(letter, 0) != NONE) {
                told.add(letter);
            }
        }
        for (int first : told) {
            for (int second : told) {
                text.append(x.isPair(first, second) == 1 ? " " + first + "-" + second : "");
            }
        }
        return text.toString();
    }

    private static String signsAndCosts(LineEnds x) {
        StringBuilder text = new StringBuilder("signs");
        int signs = x.count(2);
        for (int i = 0; i < signs; i++) {
            text.append(' ').append(x.sign(i)).append('/').append(x.marked(i)).append('/').append(x.legal(i));
            text.append('/').append(x.natural(0, i)).append('/').append(x.cost(0, i)).append('/').append(x.cost(i, signs - 1));
        }
        return text.toString();
    }

    private static String ways(LineEnds x) {
        return "ways " + x.ways() + " " + x.fewest() + " " + x.way(0, NONE) + " " + x.common(NONE) + " " + x.worst()
            + " " + x.bestWidth() + " " + x.widthFor(1) + " " + x.costBy(4) + " " + x.costBy(80) + " " + x.costMarked(0, 0);
    }

    /** What the tape holds, as far as paragraph tells it. */
    private static String tapeAsParagraph(LineEnds x) {
        return "tape " + x.paragraph() + " " + Check.signs(x);
    }

    private static String tapeAsTable(LineEnds x) {
        return "tape " + x.table() + " " + x.count(1) + " " + x.spellTable(NONE);
    }

    private static String linesOf(LineEnds x, int kind) {
        StringBuilder text = new StringBuilder("lines of " + kind + ":");
        for (int what = 0; what < 9; what++) {
            text.append(' ').append(x.lines(kind, what));
        }
        int signs = x.count(2);
        for (int i = 0; i < signs; i++) {
            text.append(' ').append(x.lineOf(kind, i)).append('/').append(x.place(kind, i, 0));
            text.append('/').append(x.place(kind, i, 1)).append('/').append(x.place(kind, i, 2));
        }
        return text.append(' ').append(x.river(kind)).append(' ').append(x.dearest(kind)).toString();
    }

    /** What was there some ACTS ago. */
    private static String undone(LineEnds x, int depth) {
        StringBuilder text = new StringBuilder("undone");
        for (int i = 0; i < depth; i++) {
            text.append(' ').append(x.undo());
        }
        text.append(' ').append(counts(x)).append(' ').append(Check.signs(x)).append(' ').append(Check.marks(x));
        for (int letter = 0; letter < 26; letter++) {
            text.append(' ').append(x.of(letter, 1)).append(x.of(letter, 2));
        }
        return text.append(' ').append(x.spellTable(NONE)).toString();
    }
}
