import java.util.Arrays;

/** Lines of block signs whose ends must be legal; the words in capitals are told in DOC.md. */
public final class LineEnds {
    public static final int NONE = -1;

    private static final int LACKING = -2;
    private static final int FAULT_BASE = -4;
    private static final int NO_EXCESS = -100;

    private static final int LETTERS = 26;
    private static final int MOST_CLASSES = 10;
    private static final int MOST_PAIRS = 12;
    private static final int MOST_SIGNS = 40;
    private static final int MOST_ACTS = 12;
    private static final int MOST_TAPE = 500;
    private static final int MOST_SPELT = 1000;
    private static final int MOST_WAYS_TOLD = 1_000_000_000;
    private static final int UNBOUNDED = 1_000_000_000;
    private static final int LEAST_WIDTH = 4;
    private static final int MOST_WIDTH = 80;
    private static final int RANKS = 3;
    private static final int FED = 20;
    private static final int BLANK = 32;

    private static final int KINDS = 4;
    private static final int FULL = 0;
    private static final int BEST = 1;
    private static final int PLAIN = 2;
    private static final int EVEN = 3;

    private static final int BREAK = 1;
    private static final int AVOID = 2;

    // What a CLASS has, by the numbers under which it is asked for.
    private static final int WIDE = 0;
    private static final int SHY_BEGIN = 1;
    private static final int SHY_END = 2;
    private static final int HANGS = 3;
    private static final int TRIM = 4;
    private static final int SQUEEZE = 5;
    private static final int SQUEEZE_RANK = 6;
    private static final int OPEN = 7;
    private static final int OPEN_RANK = 8;
    private static final int SIGNS_OF = 9;
    private static final int CLASS_FACTS = 9;

    // What a LINE has, by the numbers under which it is asked for.
    private static final int FIRST = 0;
    private static final int LAST = 1;
    private static final int COST = 2;
    private static final int NATURAL = 3;
    private static final int EXCESS = 4;
    private static final int HUNG = 5;
    private static final int TAKEN = 6;
    private static final int PUT_IN = 7;
    private static final int LEFT = 8;
    private static final int LEGAL = 9;
    private static final int TOO_LONG = 10;
    private static final int LINE_FACTS = 11;

    private static final int WEIGHTS = 3;
    private static final int[] LEAST_WEIGHTS = {0, 1, 1};
    private static final int[] MOST_WEIGHTS = {9, 99, 9_999};

    private final Bytes tape;
    private final Bytes spelt;
    private final Page page;
    private final Page trial;
    private final History history;
    private final Ruler ruler;
    private final Ruler trialRuler;
    private final Planner planner;
    private final Layout[] layouts;
    private final Ways allWays;
    private Classes told;
    private Classes draft;
    private boolean rulerReady;

    public LineEnds() {
        tape = new Bytes(MOST_TAPE);
        spelt = new Bytes(MOST_SPELT);
        told = new Classes();
        draft = new Classes();
        page = new Page();
        trial = new Page();
        history = new History();
        ruler = new Ruler(told, page);
        trialRuler = new Ruler(told, trial);
        planner = new Planner();
        layouts = new Layout[KINDS];
        for (int kind = 0; kind < KINDS; kind++) {
            layouts[kind] = new Layout();
        }
        allWays = new Ways();
        rulerReady = false;
    }

    // ---- told

    public int feed(int a, int b, int c, int d, int e) {
        if (tape.length > MOST_TAPE - FED) {
            return NONE;
        }
        tape.addFour(a);
        tape.addFour(b);
        tape.addFour(c);
        tape.addFour(d);
        tape.addFour(e);
        return tape.length;
    }

    public int back(int n) {
        if (n < 0 || n > tape.length) {
            return NONE;
        }
        tape.length -= n;
        return tape.length;
    }

    public int table() {
        Reader reader = new Reader(tape, draft);
        int fault = reader.readTable();
        tape.length = 0;
        if (fault != NONE) {
            return FAULT_BASE - fault;
        }
        Classes former = told;
        told = draft;
        draft = former;
        page.beginTable(told);
        history.clear();
        forget();
        return told.count;
    }

    public int paragraph() {
        int fault = paragraphFault();
        if (fault == NONE) {
            page.count = 0;
            for (int i = 0; i < tape.length; i++) {
                if (tape.row[i] != BLANK) {
                    page.putIn(page.count, tape.row[i] - 'a');
                }
            }
            history.clear();
            forget();
        }
        tape.length = 0;
        return fault == NONE ? page.count : FAULT_BASE - fault;
    }

    private int paragraphFault() {
        int signs = 0;
        for (int i = 0; i < tape.length; i++) {
            if (tape.row[i] != BLANK) {
                if (!told.has(tape.row[i] - 'a') || signs == MOST_SIGNS) {
                    return i;
                }
                signs++;
            }
        }
        return NONE;
    }

    // ---- acts

    public boolean insert(int i, int letter) {
        if (i < 0 || i > page.count || page.count >= MOST_SIGNS || !told.has(letter)) {
            return false;
        }
        beginAct();
        page.putIn(i, letter);
        return true;
    }

    public boolean delete(int i, int n) {
        if (!page.hasRun(i, n)) {
            return false;
        }
        beginAct();
        page.takeOut(i, n);
        return true;
    }

    public int change(int i, int letter) {
        if (!page.has(i) || !told.has(letter) || page.signs[i] == letter) {
            return NONE;
        }
        beginAct();
        int former = page.signs[i];
        page.signs[i] = letter;
        return former;
    }

    public boolean shift(int i, int n, int to) {
        if (!page.hasRun(i, n) || to < 0 || to > page.count - n || to == i) {
            return false;
        }
        beginAct();
        trial.copyFrom(page);
        page.moveFrom(trial, i, n, to);
        return true;
    }

    public int replace(int letter, int other) {
        if (!told.has(letter) || !told.has(other) || letter == other) {
            return NONE;
        }
        int found = page.signsOf(letter);
        if (found == 0) {
            return NONE;
        }
        beginAct();
        for (int i = 0; i < page.count; i++) {
            if (page.signs[i] == letter) {
                page.signs[i] = other;
            }
        }
        return found;
    }

    public int mark(int i, int mark) {
        if (!page.has(i) || !isMark(mark) || page.marks[i] == mark) {
            return NONE;
        }
        beginAct();
        int former = page.marks[i];
        page.marks[i] = mark;
        return former;
    }

    public int width(int width) {
        if (!isWidth(width) || page.width == width) {
            return NONE;
        }
        beginAct();
        int former = page.width;
        page.width = width;
        return former;
    }

    public int pair(int first, int second) {
        if (!told.has(first) || !told.has(second)) {
            return NONE;
        }
        boolean there = page.isKept(first, second);
        if (!there && page.pairs >= MOST_PAIRS) {
            return NONE;
        }
        beginAct();
        page.mates[first] ^= 1 << second;
        page.pairs += there ? -1 : 1;
        return there ? 0 : 1;
    }

    public int shy(int letter, boolean end) {
        if (!told.has(letter)) {
            return NONE;
        }
        beginAct();
        int bit = 1 << letter;
        if (end) {
            page.shyEnds ^= bit;
            return bitOf(page.shyEnds, letter);
        }
        page.shyBegins ^= bit;
        return bitOf(page.shyBegins, letter);
    }

    public int weigh(int what, int v) {
        if (what < 0 || what >= WEIGHTS) {
            return NONE;
        }
        if (v < LEAST_WEIGHTS[what] || v > MOST_WEIGHTS[what] || page.weights[what] == v) {
            return NONE;
        }
        beginAct();
        int former = page.weights[what];
        page.weights[what] = v;
        return former;
    }

    public int undo() {
        if (history.count == 0) {
            return NONE;
        }
        history.bringBack(page);
        forget();
        return history.count;
    }

    // ---- asked of CLASSES, SIGNS

    public int of(int letter, int what) {
        if (!told.has(letter)) {
            return NONE;
        }
        if (what == SHY_BEGIN) {
            return bitOf(page.shyBegins, letter);
        }
        if (what == SHY_END) {
            return bitOf(page.shyEnds, letter);
        }
        if (what == SIGNS_OF) {
            return page.signsOf(letter);
        }
        return what >= 0 && what < CLASS_FACTS ? told.facts[what][letter] : NONE;
    }

    public int isPair(int first, int second) {
        if (!told.has(first) || !told.has(second)) {
            return NONE;
        }
        return page.isKept(first, second) ? 1 : 0;
    }

    public int find(int i) {
        if (!page.has(i)) {
            return NONE;
        }
        boolean letters = tape.dropBlanks();
        int length = tape.length;
        tape.length = 0;
        if (!letters || length == 0) {
            return LACKING;
        }
        for (int from = i; from <= page.count - length; from++) {
            if (page.bears(tape, length, from)) {
                return from;
            }
        }
        return LACKING;
    }

    public int marked(int i) {
        return page.has(i) ? page.marks[i] : NONE;
    }

    public int sign(int i) {
        return page.has(i) ? page.signs[i] : NONE;
    }

    public int legal(int i) {
        if (!page.has(i)) {
            return NONE;
        }
        return page.isLegalEnd(i) ? 1 : 0;
    }

    public int natural(int from, int to) {
        if (!page.has(from) || !page.has(to) || from > to) {
            return NONE;
        }
        return currentRuler().naturalWidth(from, to);
    }

    public int cost(int from, int to) {
        if (!page.has(from) || !page.has(to) || from > to) {
            return NONE;
        }
        Ruler measure = currentRuler();
        measure.measure(from, to);
        return measure.tooLong ? LACKING : measure.price;
    }

    // ---- asked of LINES, by kind

    public int lines(int kind, int what) {
        if (!isKind(kind)) {
            return NONE;
        }
        Layout layout = layoutOf(kind);
        switch (what) {
            case 0: return layout.count;
            case 1: return layout.sumOf(COST);
            case 2: return layout.count - layout.sumOf(LEGAL);
            case 3: return layout.sumOf(HUNG);
            case 4: return layout.sumOf(TAKEN);
            case 5: return layout.sumOf(PUT_IN);
            case 6: return layout.sumOf(LEFT);
            case 7: return layout.sumOf(TOO_LONG);
            case 8: return layout.breaksOf(page);
            default: return NONE;
        }
    }

    public int line(int kind, int line, int what) {
        if (what < 0 || what >= LINE_FACTS) {
            return NONE;
        }
        if (!hasLine(kind, line)) {
            return what == EXCESS ? NO_EXCESS : NONE;
        }
        return layoutOf(kind).facts[what][line];
    }

    public int lineOf(int kind, int i) {
        if (!isKind(kind) || !page.has(i)) {
            return NONE;
        }
        return layoutOf(kind).lineWith(i);
    }

    public int place(int kind, int i, int what) {
        if (!isKind(kind) || !page.has(i)) {
            return NONE;
        }
        Layout layout = layoutOf(kind);
        switch (what) {
            case 0: return layout.leftEdge(currentRuler(), i);
            case 1: return layout.given[i];
            case 2: return layout.gaps[i];
            default: return NONE;
        }
    }

    public int at(int kind, int line, int x) {
        if (x < 0 || !hasLine(kind, line)) {
            return NONE;
        }
        Layout layout = layoutOf(kind);
        int last = layout.facts[LAST][line];
        int edge = 0;
        for (int i = layout.facts[FIRST][line]; i <= last; i++) {
            edge += layout.advanceOf(currentRuler(), i);
            if (i == last) {
                edge -= told.facts[TRIM][page.signs[i]];
            }
            if (x < edge) {
                return i;
            }
        }
        return LACKING;
    }

    public int common(int i) {
        if (i < NONE) {
            return NONE;
        }
        Layout full = layoutOf(FULL);
        Layout best = layoutOf(BEST);
        int found = 0;
        for (int line = 0; line < full.count; line++) {
            int last = full.facts[LAST][line];
            if (best.endsAt(last)) {
                if (found == i) {
                    return last;
                }
                found++;
            }
        }
        return i == NONE ? found : LACKING;
    }

    public int same(int kind, int other) {
        if (!isKind(kind) || !isKind(other)) {
            return NONE;
        }
        Layout one = layoutOf(kind);
        Layout two = layoutOf(other);
        int found = 0;
        for (int line = 0; line < one.count; line++) {
            if (two.hasLineOf(one.facts[FIRST][line], one.facts[LAST][line])) {
                found++;
            }
        }
        return found;
    }

    public int dearest(int kind) {
        if (!isKind(kind)) {
            return NONE;
        }
        Layout layout = layoutOf(kind);
        int dearest = LACKING;
        int most = NONE;
        for (int line = 0; line < layout.count; line++) {
            if (layout.facts[COST][line] > most) {
                most = layout.facts[COST][line];
                dearest = line;
            }
        }
        return dearest;
    }

    public int units(int kind, int rank, boolean taken) {
        if (!isKind(kind) || rank < 1 || rank > RANKS) {
            return NONE;
        }
        Layout layout = layoutOf(kind);
        int[] ranks = told.facts[taken ? SQUEEZE_RANK : OPEN_RANK];
        int[] dealt = taken ? layout.given : layout.gaps;
        int sum = 0;
        for (int i = 0; i < page.count; i++) {
            if (ranks[page.signs[i]] == rank) {
                sum += dealt[i];
            }
        }
        return sum;
    }

    public int river(int kind) {
        if (!isKind(kind)) {
            return NONE;
        }
        return layoutOf(kind).longestRiver(currentRuler());
    }

    public int spell(int kind, int line, int i) {
        if (i < NONE || !hasLine(kind, line)) {
            return NONE;
        }
        spellLine(layoutOf(kind), line);
        return spelt.told(i);
    }

    private void spellLine(Layout layout, int line) {
        spelt.length = 0;
        int last = layout.facts[LAST][line];
        for (int i = layout.facts[FIRST][line]; i <= last; i++) {
            boolean capital = i == last && layout.facts[HUNG][line] == 1;
            spelt.add(page.signs[i] + (capital ? 'A' : 'a'));
            spelt.addTimes(',', layout.given[i]);
            spelt.addTimes('.', layout.gaps[i]);
        }
        if (layout.facts[LEGAL][line] == 0) {
            spelt.add('!');
        }
        if (page.marks[last] == BREAK) {
            spelt.add('/');
        }
    }

    public int spellTable(int i) {
        if (i < NONE) {
            return NONE;
        }
        spelt.length = 0;
        for (int letter = 0; letter < LETTERS; letter++) {
            if (told.has(letter)) {
                spellClass(letter);
            }
        }
        for (int first = 0; first < LETTERS; first++) {
            for (int second = 0; second < LETTERS; second++) {
                if (page.isKept(first, second)) {
                    spellPair(first, second);
                }
            }
        }
        return spelt.told(i);
    }

    private void spellClass(int letter) {
        spelt.addText("class ");
        spelt.add('a' + letter);
        spelt.addNumber(" wide ", told.facts[WIDE][letter]);
        if (bitOf(page.shyBegins, letter) == 1) {
            spelt.addText(" shy begin");
        }
        if (bitOf(page.shyEnds, letter) == 1) {
            spelt.addText(" shy end");
        }
        if (told.facts[HANGS][letter] == 1) {
            spelt.addText(" hang");
        }
        if (told.facts[TRIM][letter] > 0) {
            spelt.addNumber(" trim ", told.facts[TRIM][letter]);
        }
        if (told.facts[SQUEEZE][letter] > 0) {
            spelt.addNumber(" squeeze ", told.facts[SQUEEZE][letter]);
            spelt.addNumber(" rank ", told.facts[SQUEEZE_RANK][letter]);
        }
        if (told.facts[OPEN][letter] > 0) {
            spelt.addNumber(" open ", told.facts[OPEN][letter]);
            spelt.addNumber(" rank ", told.facts[OPEN_RANK][letter]);
        }
        spelt.add(';');
    }

    private void spellPair(int first, int second) {
        spelt.addText("keep ");
        spelt.add('a' + first);
        spelt.add(BLANK);
        spelt.add('a' + second);
        spelt.add(';');
    }

    // ---- ways, widths

    public int ways() {
        return (int) Math.min(currentWays().total(), MOST_WAYS_TOLD);
    }

    public int fewest() {
        Ways rows = currentWays();
        return rows.total() == 0 ? LACKING : rows.shortest[0];
    }

    public int way(int k, int i) {
        if (k < 0 || i < NONE) {
            return NONE;
        }
        Ways rows = currentWays();
        return k >= rows.total() ? LACKING : rows.endOf(currentRuler(), k, i);
    }

    public int worst() {
        int worst = LACKING;
        int least = UNBOUNDED;
        for (int i = 0; i < page.count; i++) {
            trial.copyFrom(page);
            trial.takeOut(i, 1);
            int cost = trialCost();
            if (cost < least) {
                least = cost;
                worst = i;
            }
        }
        return worst;
    }

    public int costMarked(int i, int mark) {
        if (!page.has(i) || !isMark(mark)) {
            return NONE;
        }
        trial.copyFrom(page);
        trial.marks[i] = mark;
        return trialCost();
    }

    public int costBy(int width) {
        if (!isWidth(width)) {
            return NONE;
        }
        trial.copyFrom(page);
        trial.width = width;
        return trialCost();
    }

    public int widthFor(int n) {
        if (n < 1) {
            return NONE;
        }
        if (page.count == 0) {
            return LACKING;
        }
        trial.copyFrom(page);
        trialRuler.read(told, trial);
        for (int width = LEAST_WIDTH; width <= MOST_WIDTH; width++) {
            trial.width = width;
            planner.planBest(trialRuler, UNBOUNDED);
            if (planner.lines[0] <= n) {
                return width;
            }
        }
        return LACKING;
    }

    public int bestWidth() {
        trial.copyFrom(page);
        trialRuler.read(told, trial);
        int best = LEAST_WIDTH;
        int least = UNBOUNDED;
        for (int width = LEAST_WIDTH; width <= MOST_WIDTH; width++) {
            trial.width = width;
            planner.planBest(trialRuler, UNBOUNDED);
            if (planner.costs[0] < least) {
                least = planner.costs[0];
                best = width;
            }
        }
        return best;
    }

    public int atEnds(int kind, int letter, boolean end) {
        if (!isKind(kind) || !told.has(letter)) {
            return NONE;
        }
        Layout layout = layoutOf(kind);
        int[] row = layout.facts[end ? LAST : FIRST];
        int found = 0;
        for (int line = 0; line < layout.count; line++) {
            if (page.signs[row[line]] == letter) {
                found++;
            }
        }
        return found;
    }

    public int count(int what) {
        switch (what) {
            case 0: return told.count;
            case 1: return page.pairs;
            case 2: return page.count;
            case 3: return page.width;
            case 4: return history.count;
            case 5: return tape.length;
            case 6: return page.legalEnds();
            case 7: return page.longestStretch();
            case 8: return page.weights[0];
            case 9: return page.weights[1];
            case 10: return page.weights[2];
            case 11: return page.marksOf(BREAK);
            case 12: return page.marksOf(AVOID);
            default: return NONE;
        }
    }

    // ---- what the calls share

    private static boolean isKind(int kind) {
        return kind >= 0 && kind < KINDS;
    }

    private static boolean isMark(int mark) {
        return mark >= 0 && mark <= AVOID;
    }

    private static boolean isWidth(int width) {
        return width >= LEAST_WIDTH && width <= MOST_WIDTH;
    }

    private static int bitOf(int set, int letter) {
        return set >> letter & 1;
    }

    private void beginAct() {
        history.keep(page);
        forget();
    }

    private void forget() {
        rulerReady = false;
        allWays.ready = false;
        for (int kind = 0; kind < KINDS; kind++) {
            layouts[kind].ready = false;
        }
    }

    private Ruler currentRuler() {
        if (!rulerReady) {
            ruler.read(told, page);
            rulerReady = true;
        }
        return ruler;
    }

    private Layout layoutOf(int kind) {
        Layout layout = layouts[kind];
        if (!layout.ready) {
            Ruler measure = currentRuler();
            if (kind == BEST) {
                planner.planBest(measure, UNBOUNDED);
            } else if (kind == EVEN) {
                planner.planBest(measure, planner.leastPeak(measure));
            } else {
                planner.planFull(measure, kind == PLAIN);
            }
            layout.fill(measure, planner.ends);
        }
        return layout;
    }

    private boolean hasLine(int kind, int line) {
        return isKind(kind) && line >= 0 && line < layoutOf(kind).count;
    }

    private Ways currentWays() {
        if (!allWays.ready) {
            allWays.reckon(currentRuler());
        }
        return allWays;
    }

    private int trialCost() {
        trialRuler.read(told, trial);
        planner.planBest(trialRuler, UNBOUNDED);
        return planner.costs[0];
    }

    /** A row of bytes with a bound: the tape, and what is spelt. */
    private static final class Bytes {
        final int[] row;
        int length;

        Bytes(int most) {
            row = new int[Math.max(most, 0)];
            length = 0;
        }

        void add(int value) {
            if (length < row.length) {
                row[length] = value;
                length++;
            }
        }

        void addFour(int four) {
            add(four >>> 24);
            add(four >>> 16 & 255);
            add(four >>> 8 & 255);
            add(four & 255);
        }

        void addTimes(int value, int times) {
            for (int i = 0; i < times; i++) {
                add(value);
            }
        }

        void addText(String text) {
            for (int i = 0; i < text.length(); i++) {
                add(text.charAt(i));
            }
        }

        void addNumber(String text, int digit) {
            addText(text);
            add('0' + digit);
        }

        int told(int i) {
            if (i < 0) {
                return length;
            }
            return i < length ? row[i] : LACKING;
        }

        /** Whether there are small letters and blanks alone; the letters' numbers are left then. */
        boolean dropBlanks() {
            int letters = 0;
            for (int i = 0; i < length; i++) {
                int value = row[i];
                if (value >= 'a' && value <= 'z') {
                    row[letters] = value - 'a';
                    letters++;
                } else if (value != BLANK) {
                    return false;
                }
            }
            length = letters;
            return true;
        }
    }

    /** The CLASSES of a TABLE as they were told; what acts can change of them lives on in the Page. */
    private static final class Classes {
        final int[][] facts = new int[CLASS_FACTS][LETTERS];
        final int[] mates = new int[LETTERS];
        int shyBegins;
        int shyEnds;
        int pairs;
        int count;

        boolean has(int letter) {
            return letter >= 0 && letter < LETTERS && facts[WIDE][letter] > 0;
        }

        void clear() {
            for (int what = 0; what < CLASS_FACTS; what++) {
                Arrays.fill(facts[what], 0);
            }
            Arrays.fill(facts[SQUEEZE_RANK], 1);
            Arrays.fill(facts[OPEN_RANK], 1);
            Arrays.fill(mates, 0);
            shyBegins = 0;
            shyEnds = 0;
            pairs = 0;
            count = 0;
        }
    }

    /** Reads a TABLE's TEXT into CLASSES; the first FAULT stays, whatever is read behind it. */
    private static final class Reader {
        private static final int START = 0;
        private static final int WORD = 1;
        private static final int NUMBER = 2;
        private static final int STOP = 3;
        private static final int OTHER = 4;
        private static final int END = 5;

        private final Bytes text;
        private final Classes classes;
        private int kind;
        private int from;
        private int behind;
        private int fault;

        Reader(Bytes text, Classes classes) {
            this.text = text;
            this.classes = classes;
            kind = START;
            from = 0;
            behind = 0;
            fault = NONE;
        }

        int readTable() {
            classes.clear();
            next();
            for (int i = 0; i <= text.length && fault == NONE && kind != END; i++) {
                if (isText("class")) {
                    readClass();
                } else {
                    readPair();
                }
            }
            return fault;
        }

        private void readClass() {
            next();
            int letter = readNewLetter();
            expect("wide");
            int wide = readNumber(1, 9);
            if (fault != NONE) {
                return;
            }
            classes.facts[WIDE][letter] = wide;
            classes.count++;
            readShy(letter);
            if (takes("hang")) {
                classes.facts[HANGS][letter] = 1;
            }
            if (takes("trim")) {
                classes.facts[TRIM][letter] = readNumber(0, wide - 1);
            }
            if (takes("squeeze")) {
                classes.facts[SQUEEZE][letter] = readNumber(0, wide - 1);
                expect("rank");
                classes.facts[SQUEEZE_RANK][letter] = readNumber(1, RANKS);
            }
            if (takes("open")) {
                classes.facts[OPEN][letter] = readNumber(0, 9);
                expect("rank");
                classes.facts[OPEN_RANK][letter] = readNumber(1, RANKS);
            }
            expectStop();
        }

        private void readShy(int letter) {
            if (!takes("shy")) {
                return;
            }
            boolean more = true;
            if (takes("begin")) {
                classes.shyBegins |= 1 << letter;
                more = takes("shy");
            }
            if (more) {
                expect("end");
                classes.shyEnds |= 1 << letter;
            }
        }

        private void readPair() {
            expect("keep");
            int firstFrom = from;
            int first = readToldLetter();
            int second = readToldLetter();
            if (fault != NONE) {
                return;
            }
            if (bitOf(classes.mates[first], second) == 0) {
                if (classes.pairs == MOST_PAIRS) {
                    fault = firstFrom;
                    return;
                }
                classes.mates[first] |= 1 << second;
                classes.pairs++;
            }
            expectStop();
        }

        private int readNewLetter() {
            int letter = letterHere();
            if (letter == NONE || classes.has(letter) || classes.count >= MOST_CLASSES) {
                fail();
                return 0;
            }
            next();
            return letter;
        }

        private int readToldLetter() {
            int letter = letterHere();
            if (!classes.has(letter)) {
                fail();
                return 0;
            }
            next();
            return letter;
        }

        private int letterHere() {
            boolean single = kind == WORD && behind == from + 1 && from < text.length;
            return single ? text.row[from] - 'a' : NONE;
        }

        private int readNumber(int least, int most) {
            int value = kind == NUMBER && from < text.length ? text.row[from] - '0' : NONE;
            if (value < least || value > most) {
                fail();
                return least;
            }
            next();
            return value;
        }

        private void expect(String word) {
            if (isText(word)) {
                next();
            } else {
                fail();
            }
        }

        private void expectStop() {
            if (kind == STOP) {
                next();
            } else {
                fail();
            }
        }

        private boolean takes(String word) {
            if (fault != NONE || !isText(word)) {
                return false;
            }
            next();
            return true;
        }

        private void fail() {
            if (fault == NONE) {
                fault = from;
            }
        }

        private boolean isText(String word) {
            if (kind != WORD || behind - from != word.length()) {
                return false;
            }
            for (int i = 0; i < word.length(); i++) {
                if (text.row[from + i] != word.charAt(i)) {
                    return false;
                }
            }
            return true;
        }

        /** A WORD or N that touches the WORD or N ahead of it is none: it can't stand there. */
        private void next() {
            boolean touchy = isWordOrNumber();
            int former = behind;
            from = behind;
            while (from < text.length && text.row[from] == BLANK) {
                from++;
            }
            behind = Math.min(from + 1, text.length);
            kind = from < text.length ? kindOf(text.row[from]) : END;
            if (kind == WORD) {
                while (behind < text.length && kindOf(text.row[behind]) == WORD) {
                    behind++;
                }
            }
            if (touchy && from == former && isWordOrNumber()) {
                kind = OTHER;
            }
        }

        private boolean isWordOrNumber() {
            return kind == WORD || kind == NUMBER;
        }

        private static int kindOf(int value) {
            if (value >= 'a' && value <= 'z') {
                return WORD;
            }
            if (value >= '0' && value <= '9') {
                return NUMBER;
            }
            return value == ';' ? STOP : OTHER;
        }
    }

    /** All that acts can change: so a copy of it is all that undoing needs. */
    private static final class Page {
        final int[] signs = new int[MOST_SIGNS];
        final int[] marks = new int[MOST_SIGNS];
        final int[] mates = new int[LETTERS];
        final int[] weights = {2, 10, 1_000};
        int count;
        int width = 20;
        int shyBegins;
        int shyEnds;
        int pairs;

        void copyFrom(Page other) {
            System.arraycopy(other.signs, 0, signs, 0, MOST_SIGNS);
            System.arraycopy(other.marks, 0, marks, 0, MOST_SIGNS);
            System.arraycopy(other.mates, 0, mates, 0, LETTERS);
            System.arraycopy(other.weights, 0, weights, 0, WEIGHTS);
            count = other.count;
            width = other.width;
            shyBegins = other.shyBegins;
            shyEnds = other.shyEnds;
            pairs = other.pairs;
        }

        void beginTable(Classes classes) {
            System.arraycopy(classes.mates, 0, mates, 0, LETTERS);
            shyBegins = classes.shyBegins;
            shyEnds = classes.shyEnds;
            pairs = classes.pairs;
            count = 0;
        }

        boolean has(int i) {
            return i >= 0 && i < count;
        }

        boolean hasRun(int i, int n) {
            return has(i) && n >= 1 && n <= count - i;
        }

        void putIn(int i, int letter) {
            if (i < 0 || i > count || count >= MOST_SIGNS) {
                return;
            }
            for (int to = count; to > i; to--) {
                signs[to] = signs[to - 1];
                marks[to] = marks[to - 1];
            }
            signs[i] = letter;
            marks[i] = 0;
            count++;
        }

        void takeOut(int i, int n) {
            if (!hasRun(i, n)) {
                return;
            }
            for (int from = i + n; from < count; from++) {
                signs[from - n] = signs[from];
                marks[from - n] = marks[from];
            }
            count -= n;
        }

        void moveFrom(Page former, int i, int n, int to) {
            for (int now = 0; now < count; now++) {
                int from;
                if (now >= to && now < to + n) {
                    from = i + now - to;
                } else {
                    int rest = now < to ? now : now - n;
                    from = rest < i ? rest : rest + n;
                }
                if (former.has(from)) {
                    signs[now] = former.signs[from];
                    marks[now] = former.marks[from];
                }
            }
        }

        boolean isKept(int first, int second) {
            return bitOf(mates[first], second) == 1;
        }

        boolean isLegalEnd(int i) {
            if (i == count - 1 || marks[i] == BREAK) {
                return true;
            }
            if (marks[i] == AVOID) {
                return false;
            }
            int first = signs[i];
            int second = signs[i + 1];
            return bitOf(shyEnds, first) == 0 && bitOf(shyBegins, second) == 0
                && bitOf(mates[first], second) == 0;
        }

        int legalEnds() {
            int found = 0;
            for (int i = 0; i < count; i++) {
                if (isLegalEnd(i)) {
                    found++;
                }
            }
            return found;
        }

        int longestStretch() {
            int longest = 0;
            int begin = 0;
            for (int i = 0; i < count; i++) {
                if (isLegalEnd(i)) {
                    longest = Math.max(longest, i + 1 - begin);
                    begin = i + 1;
                }
            }
            return longest;
        }

        int signsOf(int letter) {
            int found = 0;
            for (int i = 0; i < count; i++) {
                if (signs[i] == letter) {
                    found++;
                }
            }
            return found;
        }

        int marksOf(int mark) {
            int found = 0;
            for (int i = 0; i < count; i++) {
                if (marks[i] == mark) {
                    found++;
                }
            }
            return found;
        }

        boolean bears(Bytes letters, int length, int from) {
            for (int i = 0; i < length; i++) {
                if (!has(from + i) || signs[from + i] != letters.row[i]) {
                    return false;
                }
            }
            return true;
        }
    }

    /** The pages as they were ahead of the latest acts, in a ring. */
    private static final class History {
        private final Page[] pages;
        private int next;
        int count;

        History() {
            pages = new Page[MOST_ACTS];
            for (int i = 0; i < MOST_ACTS; i++) {
                pages[i] = new Page();
            }
            next = 0;
            count = 0;
        }

        void clear() {
            count = 0;
        }

        void keep(Page page) {
            pages[next].copyFrom(page);
            next = next + 1 < MOST_ACTS ? next + 1 : 0;
            count = Math.min(count + 1, MOST_ACTS);
        }

        void bringBack(Page page) {
            if (count > 0) {
                next = next > 0 ? next - 1 : MOST_ACTS - 1;
                page.copyFrom(pages[next]);
                count--;
            }
        }
    }

    /**
     * Measures LINES of a page. Sums over all SIGNS ahead of each one make what a LINE has in all
     * a difference of two: a LINE's COST asks for no unit by unit dealing.
     */
    private static final class Ruler {
        private Classes classes;
        private Page page;
        private final int[] wides = new int[MOST_SIGNS + 1];
        private final int[] tights = new int[MOST_SIGNS + 1];
        private final int[][] squeezes = new int[RANKS + 1][MOST_SIGNS + 1];
        private final int[][] opens = new int[RANKS + 1][MOST_SIGNS + 1];
        private final int[] trims = new int[MOST_SIGNS];
        private final int[] endRooms = new int[MOST_SIGNS];
        private final int[] endRanks = new int[MOST_SIGNS];
        private final boolean[] hangs = new boolean[MOST_SIGNS];
        private final boolean[] legals = new boolean[MOST_SIGNS];

        // What the LINE measured last takes.
        boolean hung;
        boolean tooLong;
        boolean mayBeBest;
        int taken;
        int putIn;
        int left;
        int price;

        Ruler(Classes classes, Page page) {
            this.classes = classes;
            this.page = page;
        }

        void read(Classes newClasses, Page newPage) {
            classes = newClasses;
            page = newPage;
            for (int i = 0; i < page.count; i++) {
                trims[i] = factOf(TRIM, i);
                endRooms[i] = Math.max(factOf(SQUEEZE, i) - trims[i], 0);
                endRanks[i] = factOf(SQUEEZE_RANK, i);
                hangs[i] = factOf(HANGS, i) == 1;
                legals[i] = page.isLegalEnd(i);
                addToSums(i);
            }
        }

        private void addToSums(int i) {
            int wide = factOf(WIDE, i);
            int squeeze = factOf(SQUEEZE, i);
            int open = factOf(OPEN, i);
            int openRank = factOf(OPEN_RANK, i);
            wides[i + 1] = wides[i] + wide;
            tights[i + 1] = tights[i] + wide - squeeze;
            for (int rank = 1; rank <= RANKS; rank++) {
                squeezes[rank][i + 1] = squeezes[rank][i] + (endRanks[i] == rank ? squeeze : 0);
                opens[rank][i + 1] = opens[rank][i] + (openRank == rank ? open : 0);
            }
        }

        int signs() {
            return page.count;
        }

        int factOf(int what, int i) {
            return classes.facts[what][page.signs[i]];
        }

        boolean isLegal(int i) {
            return legals[i];
        }

        int naturalWidth(int from, int to) {
            return wides[to + 1] - wides[from] - trims[to];
        }

        int excess(int from, int to) {
            return naturalWidth(from, to) - page.width;
        }

        /**
         * The last end worth a look: none goes on over a MARK 1; and where the SIGNS ahead of an
         * end are too much however squeezed, all later ends are TOO LONG too, HUNG or not.
         */
        int reach(int from) {
            int to = from;
            while (to < page.count - 1 && page.marks[to] != BREAK
                    && tights[to + 1] - tights[from] <= page.width) {
                to++;
            }
            return to;
        }

        void measure(int from, int to) {
            hung = false;
            tooLong = false;
            taken = 0;
            putIn = 0;
            left = 0;
            price = 0;
            int more = wides[to + 1] - wides[from] - trims[to] - page.width;
            if (more > 0 && to > from && hangs[to]) {
                hung = true;
                price = page.weights[0];
                more = wides[to] - wides[from] - page.width;
            }
            if (more > 0) {
                takeAway(from, to, more);
            } else if (more < 0 && to < page.count - 1) {
                openGaps(from, to, -more);
            }
            if (!legals[to]) {
                price += page.weights[2];
            }
            mayBeBest = !tooLong || to == from;
        }

        private void takeAway(int from, int to, int more) {
            int rest = more;
            for (int rank = 1; rank <= RANKS; rank++) {
                int most = squeezes[rank][to] - squeezes[rank][from];
                if (endRanks[to] == rank && !hung) {
                    most += endRooms[to];
                }
                int now = Math.min(most, rest);
                price += now * rank;
                rest -= now;
            }
            taken = more;
            if (rest > 0) {
                hung = false;
                tooLong = true;
                taken = 0;
                price = page.weights[2];
            }
        }

        private void openGaps(int from, int to, int less) {
            int rest = less;
            for (int rank = 1; rank <= RANKS; rank++) {
                int now = Math.min(opens[rank][to] - opens[rank][from], rest);
                price += now * rank;
                rest -= now;
            }
            putIn = less - rest;
            left = rest;
            price += rest * page.weights[1];
        }

        /** What the last SIGN of the LINE measured last may give. */
        int endGives(int to) {
            return hung ? 0 : endRooms[to];
        }
    }

    /** The LINES of one kind, with what each SIGN gives and each gap gets. */
    private static final class Layout {
        final int[][] facts = new int[LINE_FACTS][MOST_SIGNS];
        final int[] given = new int[MOST_SIGNS];
        final int[] gaps = new int[MOST_SIGNS];
        private final int[] rooms = new int[MOST_SIGNS];
        private final int[] ranks = new int[MOST_SIGNS];
        private final int[] runs = new int[MOST_WIDTH];
        int count;
        boolean ready;

        void fill(Ruler ruler, int[] ends) {
            count = 0;
            int first = 0;
            while (first < ruler.signs() && count < MOST_SIGNS) {
                int last = Math.max(first, ends[first]);
                ruler.measure(first, last);
                note(ruler, first, last);
                dealTaken(ruler, first, last);
                dealPutIn(ruler, first, last);
                count++;
                first = last + 1;
            }
            ready = true;
        }

        private void note(Ruler ruler, int first, int last) {
            facts[FIRST][count] = first;
            facts[LAST][count] = last;
            facts[COST][count] = ruler.price;
            facts[NATURAL][count] = ruler.naturalWidth(first, last);
            facts[EXCESS][count] = ruler.excess(first, last);
            facts[HUNG][count] = ruler.hung ? 1 : 0;
            facts[TAKEN][count] = ruler.taken;
            facts[PUT_IN][count] = ruler.putIn;
            facts[LEFT][count] = ruler.left;
            facts[LEGAL][count] = ruler.isLegal(last) ? 1 : 0;
            facts[TOO_LONG][count] = ruler.tooLong ? 1 : 0;
        }

        private void dealTaken(Ruler ruler, int first, int last) {
            for (int i = first; i <= last; i++) {
                rooms[i] = ruler.factOf(SQUEEZE, i);
                ranks[i] = ruler.factOf(SQUEEZE_RANK, i);
                given[i] = 0;
            }
            rooms[last] = ruler.endGives(last);
            deal(ruler.taken, given, first, last);
        }

        private void dealPutIn(Ruler ruler, int first, int last) {
            for (int i = first; i <= last; i++) {
                rooms[i] = ruler.factOf(OPEN, i);
                ranks[i] = ruler.factOf(OPEN_RANK, i);
                gaps[i] = 0;
            }
            rooms[last] = 0;
            deal(ruler.putIn, gaps, first, last);
        }

        private void deal(int units, int[] got, int first, int last) {
            int rank = 1;
            int rest = units;
            while (rest > 0 && rank <= RANKS) {
                int least = leastOf(rank, got, first, last);
                if (least == NONE) {
                    rank++;
                } else {
                    got[least]++;
                    rest--;
                }
            }
        }

        private int leastOf(int rank, int[] got, int first, int last) {
            int least = NONE;
            for (int i = first; i <= last; i++) {
                if (ranks[i] == rank && got[i] < rooms[i]
                        && (least == NONE || got[i] < got[least])) {
                    least = i;
                }
            }
            return least;
        }

        int sumOf(int what) {
            int sum = 0;
            for (int line = 0; line < count; line++) {
                sum += facts[what][line];
            }
            return sum;
        }

        int breaksOf(Page page) {
            int found = 0;
            for (int line = 0; line < count; line++) {
                if (page.marks[facts[LAST][line]] == BREAK) {
                    found++;
                }
            }
            return found;
        }

        int lineWith(int i) {
            for (int line = 0; line < count; line++) {
                if (i <= facts[LAST][line]) {
                    return line;
                }
            }
            return NONE;
        }

        boolean endsAt(int i) {
            int line = lineWith(i);
            return line != NONE && facts[LAST][line] == i;
        }

        boolean hasLineOf(int first, int last) {
            int line = lineWith(last);
            return line != NONE && facts[FIRST][line] == first && facts[LAST][line] == last;
        }

        /** How far a SIGN takes what comes behind it to the right (its TRIM is no matter here). */
        int advanceOf(Ruler ruler, int i) {
            return ruler.factOf(WIDE, i) - given[i] + gaps[i];
        }

        int leftEdge(Ruler ruler, int i) {
            int line = lineWith(i);
            int edge = 0;
            if (line != NONE) {
                for (int ahead = facts[FIRST][line]; ahead < i; ahead++) {
                    edge += advanceOf(ruler, ahead);
                }
            }
            return edge;
        }

        int longestRiver(Ruler ruler) {
            Arrays.fill(runs, 0);
            int longest = 0;
            for (int line = 0; line < count; line++) {
                int behind = 0;
                int edge = 0;
                for (int i = facts[FIRST][line]; i < facts[LAST][line]; i++) {
                    edge += advanceOf(ruler, i);
                    if (gaps[i] > 0) {
                        dryUp(behind, edge - gaps[i]);
                        longest = Math.max(longest, flowOn(edge - gaps[i], edge));
                        behind = edge;
                    }
                }
                dryUp(behind, MOST_WIDTH);
            }
            return longest;
        }

        private void dryUp(int from, int to) {
            for (int x = Math.max(from, 0); x < Math.min(to, MOST_WIDTH); x++) {
                runs[x] = 0;
            }
        }

        private int flowOn(int from, int to) {
            int longest = 0;
            for (int x = Math.max(from, 0); x < Math.min(to, MOST_WIDTH); x++) {
                runs[x]++;
                longest = Math.max(longest, runs[x]);
            }
            return longest;
        }
    }

    /** Looks for the ends of LINES; rows are by the SIGN with which a LINE begins. */
    private static final class Planner {
        final int[] costs = new int[MOST_SIGNS + 1];
        final int[] lines = new int[MOST_SIGNS + 1];
        final int[] ends = new int[MOST_SIGNS + 1];

        void planFull(Ruler ruler, boolean plainFirst) {
            int signs = ruler.signs();
            int from = 0;
            for (int line = 0; line < signs && from < signs; line++) {
                ends[from] = fullEnd(ruler, from, plainFirst);
                from = ends[from] + 1;
            }
        }

        private int fullEnd(Ruler ruler, int from, boolean plainFirst) {
            int plain = NONE;
            int legal = NONE;
            int forced = from;
            int reach = ruler.reach(from);
            for (int to = from; to <= reach; to++) {
                ruler.measure(from, to);
                if (!ruler.tooLong) {
                    forced = to;
                    if (ruler.isLegal(to)) {
                        legal = to;
                        plain = ruler.taken == 0 ? to : plain;
                    }
                }
            }
            if (plainFirst && plain != NONE) {
                return plain;
            }
            return legal != NONE ? legal : forced;
        }

        /** Plans from the last SIGN back: so the later end wins where all else is the same. */
        void planBest(Ruler ruler, int limit) {
            int signs = ruler.signs();
            costs[signs] = 0;
            lines[signs] = 0;
            for (int from = signs - 1; from >= 0; from--) {
                costs[from] = UNBOUNDED;
                lines[from] = 0;
                ends[from] = from;
                int reach = ruler.reach(from);
                for (int to = from; to <= reach; to++) {
                    ruler.measure(from, to);
                    if (ruler.mayBeBest && ruler.price <= limit && costs[to + 1] < UNBOUNDED) {
                        offer(from, to, ruler.price);
                    }
                }
            }
        }

        private void offer(int from, int to, int price) {
            int cost = price + costs[to + 1];
            int number = lines[to + 1] + 1;
            if (cost < costs[from] || cost == costs[from] && number <= lines[from]) {
                costs[from] = cost;
                lines[from] = number;
                ends[from] = to;
            }
        }

        /** The least that the greatest COST of a LINE can be. */
        int leastPeak(Ruler ruler) {
            int signs = ruler.signs();
            costs[signs] = 0;
            for (int from = signs - 1; from >= 0; from--) {
                costs[from] = UNBOUNDED;
                int reach = ruler.reach(from);
                for (int to = from; to <= reach; to++) {
                    ruler.measure(from, to);
                    if (ruler.mayBeBest) {
                        int peak = Math.max(ruler.price, costs[to + 1]);
                        costs[from] = Math.min(costs[from], peak);
                    }
                }
            }
            return costs[0];
        }
    }

    /** WAYS by the SIGN with which they begin: how many go on from there, and the shortest of them. */
    private static final class Ways {
        private final long[] numbers = new long[MOST_SIGNS + 1];
        final int[] shortest = new int[MOST_SIGNS + 1];
        private boolean empty;
        boolean ready;

        void reckon(Ruler ruler) {
            int signs = ruler.signs();
            empty = signs == 0;
            numbers[signs] = 1;
            shortest[signs] = 0;
            for (int from = signs - 1; from >= 0; from--) {
                numbers[from] = 0;
                shortest[from] = MOST_SIGNS;
                int reach = ruler.reach(from);
                for (int to = from; to <= reach; to++) {
                    if (numbers[to + 1] > 0 && isStep(ruler, from, to)) {
                        numbers[from] += numbers[to + 1];
                        shortest[from] = Math.min(shortest[from], shortest[to + 1] + 1);
                    }
                }
            }
            ready = true;
        }

        private static boolean isStep(Ruler ruler, int from, int to) {
            if (!ruler.isLegal(to)) {
                return false;
            }
            ruler.measure(from, to);
            return !ruler.tooLong;
        }

        long total() {
            return empty ? 0 : numbers[0];
        }

        /** The i-th end of the k-th WAY; i NONE: how many LINES it has. */
        int endOf(Ruler ruler, int k, int i) {
            int signs = ruler.signs();
            long rest = k;
            int from = 0;
            for (int line = 0; line <= signs; line++) {
                if (from >= signs) {
                    return i == NONE ? line : LACKING;
                }
                int reach = ruler.reach(from);
                int to = from;
                for (; to < reach; to++) {
                    if (isStep(ruler, from, to)) {
                        if (rest < numbers[to + 1]) {
                            break;
                        }
                        rest -= numbers[to + 1];
                    }
                }
                if (line == i) {
                    return to;
                }
                from = to + 1;
            }
            return LACKING;
        }
    }
}
