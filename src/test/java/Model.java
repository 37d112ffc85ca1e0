import java.util.ArrayDeque;
import java.util.ArrayList;
import java.util.Arrays;
import java.util.Deque;
import java.util.List;
import java.util.TreeMap;
import java.util.TreeSet;

/** A second, slow telling of the document, as near to its words as can be: tests hold LineEnds against it. */
public final class Model {
    private static final int NONE = -1;
    private static final int BRUTE = 9;

    /** A CLASS. */
    private static final class Kin {
        int wide, trim, squeeze, squeezeRank = 1, open, openRank = 1;
        boolean begin, end, hang;

        Kin copy() {
            Kin k = new Kin();
            k.wide = wide;
            k.trim = trim;
            k.squeeze = squeeze;
            k.squeezeRank = squeezeRank;
            k.open = open;
            k.openRank = openRank;
            k.begin = begin;
            k.end = end;
            k.hang = hang;
            return k;
        }
    }

    /** A SIGN: its letter and MARK. */
    private record Sign(int letter, int mark) { }

    /** All that acts change. */
    private static final class State {
        TreeMap<Integer, Kin> kins = new TreeMap<>();
        TreeSet<Integer> pairs = new TreeSet<>();
        List<Sign> signs = new ArrayList<>();
        int width = 20;
        int[] weights = {2, 10, 1000};

        State copy() {
            State s = new State();
            kins.forEach((l, k) -> s.kins.put(l, k.copy()));
            s.pairs.addAll(pairs);
            s.signs.addAll(signs);
            s.width = width;
            s.weights = weights.clone();
            return s;
        }

        Kin kin(int i) {
            return kins.get(signs.get(i).letter());
        }

        boolean legal(int i) {
            if (i == signs.size() - 1) {
                return true;
            }
            Sign a = signs.get(i);
            Sign b = signs.get(i + 1);
            return switch (a.mark()) {
                case 1 -> true;
                case 2 -> false;
                default -> !kin(i).end && !kin(i + 1).begin
                    && !pairs.contains(a.letter() * 26 + b.letter());
            };
        }
    }

    /** A LINE, filled. */
    private static final class Row {
        int first, last, natural, left, cost;
        boolean hung, tooLong, legal;
        int[] given, put;

        int sum(int[] row) {
            return Arrays.stream(row).sum();
        }
    }

    private State now = new State();
    private final Deque<State> past = new ArrayDeque<>();
    private final StringBuilder tape = new StringBuilder();

    // ---- told

    public int feed(int a, int b, int c, int d, int e) {
        if (tape.length() + 20 > 500) {
            return NONE;
        }
        for (int four : new int[] {a, b, c, d, e}) {
            for (int shift = 24; shift >= 0; shift -= 8) {
                tape.append((char) (four >> shift & 255));
            }
        }
        return tape.length();
    }

    public int back(int n) {
        if (n < 0 || n > tape.length()) {
            return NONE;
        }
        tape.setLength(tape.length() - n);
        return tape.length();
    }

    private String pull() {
        String text = tape.toString();
        tape.setLength(0);
        return text;
    }

    public int table() {
        TableText reader = new TableText(pull());
        try {
            reader.read();
        } catch (Fault f) {
            return -4 - f.at;
        }
        State next = now.copy();
        next.kins = reader.kins;
        next.pairs = reader.pairs;
        next.signs.clear();
        now = next;
        past.clear();
        return now.kins.size();
    }

    private static final class Fault extends Exception {
        private static final long serialVersionUID = 1;
        final int at;

        Fault(int at) {
            this.at = at;
        }
    }

    /** One by one from the left: each step says what it takes at the place where it is. */
    private static final class TableText {
        final String text;
        int at = 0;
        boolean glued = false;
        TreeMap<Integer, Kin> kins = new TreeMap<>();
        TreeSet<Integer> pairs = new TreeSet<>();

        TableText(String text) {
            this.text = text;
        }

        void blanks() {
            while (at < text.length() && text.charAt(at) == ' ') {
                at++;
                glued = false;
            }
        }

        String word() {
            blanks();
            int end = at;
            while (end < text.length() && text.charAt(end) >= 'a' && text.charAt(end) <= 'z') {
                end++;
            }
            return glued ? "" : text.substring(at, end);
        }

        boolean may(String word) {
            if (!word().equals(word)) {
                return false;
            }
            at += word.length();
            glued = true;
            return true;
        }

        void must(String word) throws Fault {
            if (!may(word)) {
                throw new Fault(at);
            }
        }

        int number(int least, int most) throws Fault {
            blanks();
            if (glued || at == text.length() || text.charAt(at) < '0' + least || text.charAt(at) > '0' + most) {
                throw new Fault(at);
            }
            glued = true;
            return text.charAt(at++) - '0';
        }

        int letter(boolean told) throws Fault {
            String word = word();
            if (word.length() != 1 || kins.containsKey(word.charAt(0) - 'a') != told || !told && kins.size() == 10) {
                throw new Fault(at);
            }
            at++;
            glued = true;
            return word.charAt(0) - 'a';
        }

        void stop() throws Fault {
            blanks();
            if (at == text.length() || text.charAt(at) != ';') {
                throw new Fault(at);
            }
            at++;
            glued = false;
            blanks();
        }

        void read() throws Fault {
            blanks();
            while (at < text.length()) {
                if (may("class")) {
                    kin();
                } else if (may("keep")) {
                    blanks();
                    int where = at;
                    int both = letter(true) * 26;
                    both += letter(true);
                    if (pairs.size() == 12 && !pairs.contains(both)) {
                        throw new Fault(where);
                    }
                    pairs.add(both);
                    stop();
                } else {
                    throw new Fault(at);
                }
            }
        }

        void kin() throws Fault {
            Kin k = new Kin();
            int letter = letter(false);
            must("wide");
            k.wide = number(1, 9);
            boolean shy = may("shy");
            if (shy && may("begin")) {
                k.begin = true;
                shy = may("shy");
            }
            if (shy) {
                must("end");
                k.end = true;
            }
            k.hang = may("hang");
            if (may("trim")) {
                k.trim = number(0, k.wide - 1);
            }
            if (may("squeeze")) {
                k.squeeze = number(0, k.wide - 1);
                must("rank");
                k.squeezeRank = number(1, 3);
            }
            if (may("open")) {
                k.open = number(0, 9);
                must("rank");
                k.openRank = number(1, 3);
            }
            stop();
            kins.put(letter, k);
        }
    }

    public int paragraph() {
        String text = pull();
        List<Sign> signs = new ArrayList<>();
        for (int i = 0; i < text.length(); i++) {
            if (text.charAt(i) != ' ') {
                if (!now.kins.containsKey(text.charAt(i) - 'a') || signs.size() == 40) {
                    return -4 - i;
                }
                signs.add(new Sign(text.charAt(i) - 'a', 0));
            }
        }
        now = now.copy();
        now.signs = signs;
        past.clear();
        return signs.size();
    }

    // ---- acts

    private State act() {
        past.addLast(now);
        if (past.size() > 12) {
            past.removeFirst();
        }
        now = now.copy();
        return now;
    }

    private int size() {
        return now.signs.size();
    }

    private boolean is(int i) {
        return i >= 0 && i < size();
    }

    private boolean told(int letter) {
        return now.kins.containsKey(letter);
    }

    public boolean insert(int i, int letter) {
        if (i < 0 || i > size() || !told(letter) || size() == 40) {
            return false;
        }
        act().signs.add(i, new Sign(letter, 0));
        return true;
    }

    public boolean delete(int i, int n) {
        if (!is(i) || n < 1 || (long) i + n > size()) {
            return false;
        }
        act().signs.subList(i, i + n).clear();
        return true;
    }

    public int change(int i, int letter) {
        if (!is(i) || !told(letter) || now.signs.get(i).letter() == letter) {
            return NONE;
        }
        int was = now.signs.get(i).letter();
        act().signs.set(i, new Sign(letter, now.signs.get(i).mark()));
        return was;
    }

    public boolean shift(int i, int n, int to) {
        if (!is(i) || n < 1 || (long) i + n > size() || to < 0 || to > size() - n || to == i) {
            return false;
        }
        List<Sign> signs = act().signs;
        List<Sign> moved = new ArrayList<>(signs.subList(i, i + n));
        signs.subList(i, i + n).clear();
        signs.addAll(to, moved);
        return true;
    }

    public int replace(int letter, int other) {
        if (!told(letter) || !told(other) || letter == other || of(letter, 9) == 0) {
            return NONE;
        }
        int n = of(letter, 9);
        act().signs.replaceAll(s -> s.letter() == letter ? new Sign(other, s.mark()) : s);
        return n;
    }

    public int mark(int i, int mark) {
        if (!is(i) || mark < 0 || mark > 2 || now.signs.get(i).mark() == mark) {
            return NONE;
        }
        int was = now.signs.get(i).mark();
        act().signs.set(i, new Sign(now.signs.get(i).letter(), mark));
        return was;
    }

    public int width(int width) {
        if (width < 4 || width > 80 || width == now.width) {
            return NONE;
        }
        int was = now.width;
        act().width = width;
        return was;
    }

    public int pair(int first, int second) {
        int both = first * 26 + second;
        if (!told(first) || !told(second) || !now.pairs.contains(both) && now.pairs.size() == 12) {
            return NONE;
        }
        if (act().pairs.remove(both)) {
            return 0;
        }
        now.pairs.add(both);
        return 1;
    }

    public int shy(int letter, boolean end) {
        if (!told(letter)) {
            return NONE;
        }
        Kin k = act().kins.get(letter);
        if (end) {
            k.end = !k.end;
            return k.end ? 1 : 0;
        }
        k.begin = !k.begin;
        return k.begin ? 1 : 0;
    }

    public int weigh(int what, int v) {
        int[][] bounds = {{0, 9}, {1, 99}, {1, 9999}};
        if (what < 0 || what > 2 || v < bounds[what][0] || v > bounds[what][1] || now.weights[what] == v) {
            return NONE;
        }
        int was = now.weights[what];
        act().weights[what] = v;
        return was;
    }

    public int undo() {
        if (past.isEmpty()) {
            return NONE;
        }
        now = past.removeLast();
        return past.size();
    }

    // ---- asked of CLASSES, SIGNS

    public int of(int letter, int what) {
        if (!told(letter)) {
            return NONE;
        }
        Kin k = now.kins.get(letter);
        return switch (what) {
            case 0 -> k.wide;
            case 1 -> k.begin ? 1 : 0;
            case 2 -> k.end ? 1 : 0;
            case 3 -> k.hang ? 1 : 0;
            case 4 -> k.trim;
            case 5 -> k.squeeze;
            case 6 -> k.squeezeRank;
            case 7 -> k.open;
            case 8 -> k.openRank;
            case 9 -> (int) now.signs.stream().filter(s -> s.letter() == letter).count();
            default -> NONE;
        };
    }

    public int isPair(int first, int second) {
        if (!told(first) || !told(second)) {
            return NONE;
        }
        return now.pairs.contains(first * 26 + second) ? 1 : 0;
    }

    public int find(int i) {
        if (!is(i)) {
            return NONE;
        }
        String row = pull().replace(" ", "");
        if (!row.matches("[a-z]+")) {
            return -2;
        }
        StringBuilder letters = new StringBuilder();
        now.signs.forEach(s -> letters.append((char) ('a' + s.letter())));
        int found = letters.indexOf(row, i);
        return found < 0 ? -2 : found;
    }

    public int marked(int i) {
        return is(i) ? now.signs.get(i).mark() : NONE;
    }

    public int sign(int i) {
        return is(i) ? now.signs.get(i).letter() : NONE;
    }

    public int legal(int i) {
        return !is(i) ? NONE : now.legal(i) ? 1 : 0;
    }

    public int natural(int from, int to) {
        return !is(from) || !is(to) || from > to ? NONE : row(now, from, to).natural;
    }

    public int cost(int from, int to) {
        if (!is(from) || !is(to) || from > to) {
            return NONE;
        }
        Row r = row(now, from, to);
        return r.tooLong ? -2 : r.cost;
    }

    // ---- LINES

    private static Row row(State s, int first, int last) {
        Row r = new Row();
        int n = last - first + 1;
        int[] room = new int[n];
        int[] rank = new int[n];
        r.first = first;
        r.last = last;
        r.given = new int[n];
        r.put = new int[n];
        r.legal = s.legal(last);
        int ahead = 0;
        for (int i = first; i < last; i++) {
            ahead += s.kin(i).wide;
        }
        Kin end = s.kin(last);
        r.natural = ahead + end.wide - end.trim;
        int more = r.natural - s.width;
        if (more > 0 && end.hang && n > 1) {
            r.hung = true;
            more = ahead - s.width;
        }
        if (more > 0) {
            for (int i = 0; i < n; i++) {
                room[i] = s.kin(first + i).squeeze;
                rank[i] = s.kin(first + i).squeezeRank;
            }
            room[n - 1] = r.hung ? 0 : Math.max(0, end.squeeze - end.trim);
            if (deal(more, room, rank, r.given) > 0) {
                r.tooLong = true;
                r.hung = false;
                r.given = new int[n];
            }
        } else if (more < 0 && last < s.signs.size() - 1) {
            for (int i = 0; i < n - 1; i++) {
                room[i] = s.kin(first + i).open;
                rank[i] = s.kin(first + i).openRank;
            }
            r.left = deal(-more, room, rank, r.put);
        }
        for (int i = 0; i < n; i++) {
            r.cost += r.given[i] * s.kin(first + i).squeezeRank + r.put[i] * s.kin(first + i).openRank;
        }
        r.cost += (r.hung ? s.weights[0] : 0) + r.left * s.weights[1] + (r.legal ? 0 : s.weights[2])
            + (r.tooLong ? s.weights[2] : 0);
        return r;
    }

    /** Unit by unit; what can't be dealt. */
    private static int deal(int units, int[] room, int[] rank, int[] got) {
        for (int u = units; u > 0; u--) {
            int best = -1;
            for (int i = 0; i < room.length; i++) {
                if (got[i] < room[i] && (best < 0 || rank[i] * 100 + got[i] < rank[best] * 100 + got[best])) {
                    best = i;
                }
            }
            if (best < 0) {
                return u;
            }
            got[best]++;
        }
        return 0;
    }

    private static List<Row> rowsFrom(State s, int first) {
        List<Row> rows = new ArrayList<>();
        for (int last = first; last < s.signs.size(); last++) {
            rows.add(row(s, first, last));
            if (s.signs.get(last).mark() == 1) {
                break;
            }
        }
        return rows;
    }

    private static List<Row> rowsOf(State s, int kind) {
        if (kind == 1) {
            return best(s, Integer.MAX_VALUE);
        }
        if (kind == 3) {
            return even(s);
        }
        List<Row> all = new ArrayList<>();
        for (int first = 0; first < s.signs.size(); first = all.get(all.size() - 1).last + 1) {
            List<Row> rows = rowsFrom(s, first);
            Row taken = null;
            for (Row r : rows) {
                if (kind == 2 && r.legal && !r.tooLong && r.sum(r.given) == 0) {
                    taken = r;
                }
            }
            for (Row r : taken != null ? List.<Row>of() : rows) {
                taken = r.legal && !r.tooLong ? r : taken;
            }
            for (Row r : taken != null ? List.<Row>of() : rows) {
                taken = !r.tooLong ? r : taken;
            }
            all.add(taken != null ? taken : rows.get(0));
        }
        return all;
    }

    private static int costOf(List<Row> rows) {
        return rows.stream().mapToInt(r -> r.cost).sum();
    }

    private static int peakOf(List<Row> rows) {
        return rows.stream().mapToInt(r -> r.cost).max().orElse(0);
    }

    private static boolean better(List<Row> a, List<Row> b) {
        if (b == null || costOf(a) != costOf(b)) {
            return b == null || costOf(a) < costOf(b);
        }
        if (a.size() != b.size()) {
            return a.size() < b.size();
        }
        for (int i = 0; i < a.size(); i++) {
            if (a.get(i).last != b.get(i).last) {
                return a.get(i).last > b.get(i).last;
            }
        }
        return false;
    }

    /** All rows of LINES that may be BEST ones. */
    private static List<List<Row>> allOf(State s, int first) {
        List<List<Row>> all = new ArrayList<>();
        if (first == s.signs.size()) {
            all.add(List.of());
            return all;
        }
        for (Row r : rowsFrom(s, first)) {
            if (!r.tooLong || r.first == r.last) {
                for (List<Row> rest : allOf(s, r.last + 1)) {
                    List<Row> whole = new ArrayList<>(List.of(r));
                    whole.addAll(rest);
                    all.add(whole);
                }
            }
        }
        return all;
    }

    private static List<Row> best(State s, int limit) {
        if (s.signs.size() <= BRUTE) {
            List<Row> best = null;
            for (List<Row> rows : allOf(s, 0)) {
                best = peakOf(rows) <= limit && better(rows, best) ? rows : best;
            }
            return best;
        }
        List<List<Row>> tails = new ArrayList<>();
        for (int i = 0; i <= s.signs.size(); i++) {
            tails.add(null);
        }
        tails.set(s.signs.size(), List.of());
        for (int first = s.signs.size() - 1; first >= 0; first--) {
            for (Row r : rowsFrom(s, first)) {
                List<Row> tail = tails.get(r.last + 1);
                if ((!r.tooLong || r.first == r.last) && r.cost <= limit && tail != null) {
                    List<Row> whole = new ArrayList<>(List.of(r));
                    whole.addAll(tail);
                    tails.set(first, better(whole, tails.get(first)) ? whole : tails.get(first));
                }
            }
        }
        return tails.get(0);
    }

    private static List<Row> even(State s) {
        if (s.signs.size() <= BRUTE) {
            List<Row> best = null;
            for (List<Row> rows : allOf(s, 0)) {
                if (best == null || peakOf(rows) < peakOf(best) || peakOf(rows) == peakOf(best) && better(rows, best)) {
                    best = rows;
                }
            }
            return best;
        }
        TreeSet<Integer> peaks = new TreeSet<>();
        for (int first = 0; first < s.signs.size(); first++) {
            rowsFrom(s, first).forEach(r -> peaks.add(r.cost));
        }
        for (int peak : peaks) {
            List<Row> rows = best(s, peak);
            if (rows != null) {
                return rows;
            }
        }
        return List.of();
    }

    private static boolean kind(int kind) {
        return kind >= 0 && kind <= 3;
    }

    private Row rowAt(int kind, int line) {
        if (!kind(kind) || line < 0) {
            return null;
        }
        List<Row> rows = rowsOf(now, kind);
        return line < rows.size() ? rows.get(line) : null;
    }

    public int lines(int kind, int what) {
        if (!kind(kind) || what < 0 || what > 8) {
            return NONE;
        }
        int sum = 0;
        for (Row r : rowsOf(now, kind)) {
            sum += switch (what) {
                case 0 -> 1;
                case 1 -> r.cost;
                case 2 -> r.legal ? 0 : 1;
                case 3 -> r.hung ? 1 : 0;
                case 4 -> r.sum(r.given);
                case 5 -> r.sum(r.put);
                case 6 -> r.left;
                case 7 -> r.tooLong ? 1 : 0;
                default -> now.signs.get(r.last).mark() == 1 ? 1 : 0;
            };
        }
        return sum;
    }

    public int line(int kind, int line, int what) {
        Row r = rowAt(kind, line);
        if (r == null) {
            return what == 4 ? -100 : NONE;
        }
        return switch (what) {
            case 0 -> r.first;
            case 1 -> r.last;
            case 2 -> r.cost;
            case 3 -> r.natural;
            case 4 -> r.natural - now.width;
            case 5 -> r.hung ? 1 : 0;
            case 6 -> r.sum(r.given);
            case 7 -> r.sum(r.put);
            case 8 -> r.left;
            case 9 -> r.legal ? 1 : 0;
            case 10 -> r.tooLong ? 1 : 0;
            default -> NONE;
        };
    }

    public int lineOf(int kind, int i) {
        if (!kind(kind) || !is(i)) {
            return NONE;
        }
        List<Row> rows = rowsOf(now, kind);
        int line = 0;
        while (rows.get(line).last < i) {
            line++;
        }
        return line;
    }

    private int left(Row r, int i) {
        int edge = 0;
        for (int j = r.first; j < i; j++) {
            edge += now.kin(j).wide - r.given[j - r.first] + r.put[j - r.first];
        }
        return edge;
    }

    public int place(int kind, int i, int what) {
        if (!kind(kind) || !is(i)) {
            return NONE;
        }
        Row r = rowAt(kind, lineOf(kind, i));
        return switch (what) {
            case 0 -> left(r, i);
            case 1 -> r.given[i - r.first];
            case 2 -> r.put[i - r.first];
            default -> NONE;
        };
    }

    public int at(int kind, int line, int x) {
        Row r = rowAt(kind, line);
        if (r == null || x < 0) {
            return NONE;
        }
        for (int i = r.first; i <= r.last; i++) {
            int right = i < r.last ? left(r, i + 1)
                : left(r, i) + now.kin(i).wide - now.kin(i).trim - r.given[i - r.first];
            if (x >= left(r, i) && x < right) {
                return i;
            }
        }
        return -2;
    }

    public int common(int i) {
        if (i < NONE) {
            return NONE;
        }
        List<Integer> both = new ArrayList<>(rowsOf(now, 0).stream().map(r -> r.last).toList());
        both.retainAll(rowsOf(now, 1).stream().map(r -> r.last).toList());
        return i == NONE ? both.size() : i < both.size() ? both.get(i) : -2;
    }

    public int same(int kind, int other) {
        if (!kind(kind) || !kind(other)) {
            return NONE;
        }
        int n = 0;
        List<Row> others = rowsOf(now, other);
        for (Row r : rowsOf(now, kind)) {
            for (Row o : others) {
                n += r.first == o.first && r.last == o.last ? 1 : 0;
            }
        }
        return n;
    }

    public int dearest(int kind) {
        if (!kind(kind)) {
            return NONE;
        }
        List<Row> rows = rowsOf(now, kind);
        int best = -2;
        for (int line = rows.size() - 1; line >= 0; line--) {
            best = rows.get(line).cost == peakOf(rows) ? line : best;
        }
        return best;
    }

    public int units(int kind, int rank, boolean taken) {
        if (!kind(kind) || rank < 1 || rank > 3) {
            return NONE;
        }
        int n = 0;
        for (Row r : rowsOf(now, kind)) {
            for (int i = r.first; i <= r.last; i++) {
                if (taken && now.kin(i).squeezeRank == rank) {
                    n += r.given[i - r.first];
                }
                if (!taken && now.kin(i).openRank == rank) {
                    n += r.put[i - r.first];
                }
            }
        }
        return n;
    }

    public int river(int kind) {
        if (!kind(kind)) {
            return NONE;
        }
        List<Row> rows = rowsOf(now, kind);
        int most = 0;
        for (int x = 0; x < 400; x++) {
            int run = 0;
            for (Row r : rows) {
                run = gapOver(r, x) ? run + 1 : 0;
                most = Math.max(most, run);
            }
        }
        return most;
    }

    private boolean gapOver(Row r, int x) {
        for (int i = r.first; i < r.last; i++) {
            int right = left(r, i) + now.kin(i).wide - r.given[i - r.first];
            if (x >= right && x < right + r.put[i - r.first]) {
                return true;
            }
        }
        return false;
    }

    public int spell(int kind, int line, int i) {
        Row r = rowAt(kind, line);
        if (r == null || i < NONE) {
            return NONE;
        }
        StringBuilder b = new StringBuilder();
        for (int j = r.first; j <= r.last; j++) {
            b.append((char) ((j == r.last && r.hung ? 'A' : 'a') + now.signs.get(j).letter()));
            b.append(",".repeat(r.given[j - r.first])).append(".".repeat(r.put[j - r.first]));
        }
        b.append(r.legal ? "" : "!").append(now.signs.get(r.last).mark() == 1 ? "/" : "");
        return i == NONE ? b.length() : i < b.length() ? b.charAt(i) : -2;
    }

    public int spellTable(int i) {
        if (i < NONE) {
            return NONE;
        }
        StringBuilder b = new StringBuilder();
        now.kins.forEach((l, k) -> {
            b.append("class ").append((char) ('a' + l)).append(" wide ").append(k.wide);
            b.append(k.begin ? " shy begin" : "").append(k.end ? " shy end" : "").append(k.hang ? " hang" : "");
            b.append(k.trim > 0 ? " trim " + k.trim : "");
            b.append(k.squeeze > 0 ? " squeeze " + k.squeeze + " rank " + k.squeezeRank : "");
            b.append(k.open > 0 ? " open " + k.open + " rank " + k.openRank : "").append(";");
        });
        for (int both : now.pairs) {
            b.append("keep ").append((char) ('a' + both / 26)).append(" ").append((char) ('a' + both % 26)).append(";");
        }
        return i == NONE ? b.length() : i < b.length() ? b.charAt(i) : -2;
    }

    // ---- ways, widths

    private long[] waysFrom() {
        long[] n = new long[size() + 1];
        n[size()] = 1;
        for (int first = size() - 1; first >= 0; first--) {
            for (Row r : rowsFrom(now, first)) {
                n[first] += r.legal && !r.tooLong ? n[r.last + 1] : 0;
            }
        }
        return n;
    }

    public int ways() {
        return size() == 0 ? 0 : (int) Math.min(1_000_000_000L, waysFrom()[0]);
    }

    public int fewest() {
        int[] least = new int[size() + 1];
        for (int first = size() - 1; first >= 0; first--) {
            least[first] = 1000;
            for (Row r : rowsFrom(now, first)) {
                if (r.legal && !r.tooLong) {
                    least[first] = Math.min(least[first], 1 + least[r.last + 1]);
                }
            }
        }
        return size() == 0 || least[0] >= 1000 ? -2 : least[0];
    }

    public int way(int k, int i) {
        if (k < 0 || i < NONE) {
            return NONE;
        }
        long[] n = waysFrom();
        if (size() == 0 || k >= n[0]) {
            return -2;
        }
        List<Integer> ends = new ArrayList<>();
        long rest = k;
        for (int first = 0; first < size(); first = ends.get(ends.size() - 1) + 1) {
            for (Row r : rowsFrom(now, first)) {
                if (r.legal && !r.tooLong) {
                    if (rest < n[r.last + 1]) {
                        ends.add(r.last);
                        break;
                    }
                    rest -= n[r.last + 1];
                }
            }
        }
        return i == NONE ? ends.size() : i < ends.size() ? ends.get(i) : -2;
    }

    public int worst() {
        int best = -2;
        int least = Integer.MAX_VALUE;
        for (int i = 0; i < size(); i++) {
            State s = now.copy();
            s.signs.remove(i);
            int cost = costOf(best(s, Integer.MAX_VALUE));
            if (cost < least) {
                least = cost;
                best = i;
            }
        }
        return best;
    }

    public int costMarked(int i, int mark) {
        if (!is(i) || mark < 0 || mark > 2) {
            return NONE;
        }
        State s = now.copy();
        s.signs.set(i, new Sign(s.signs.get(i).letter(), mark));
        return costOf(best(s, Integer.MAX_VALUE));
    }

    private List<Row> byWidth(int width) {
        State s = now.copy();
        s.width = width;
        return best(s, Integer.MAX_VALUE);
    }

    public int costBy(int width) {
        return width < 4 || width > 80 ? NONE : costOf(byWidth(width));
    }

    public int widthFor(int n) {
        if (n < 1) {
            return NONE;
        }
        for (int width = 4; width <= 80 && size() > 0; width++) {
            if (byWidth(width).size() <= n) {
                return width;
            }
        }
        return -2;
    }

    public int bestWidth() {
        int best = 4;
        int least = costBy(4);
        for (int width = 5; width <= 80; width++) {
            int cost = costBy(width);
            if (cost < least) {
                least = cost;
                best = width;
            }
        }
        return best;
    }

    public int atEnds(int kind, int letter, boolean end) {
        if (!kind(kind) || !told(letter)) {
            return NONE;
        }
        return (int) rowsOf(now, kind).stream()
            .filter(r -> now.signs.get(end ? r.last : r.first).letter() == letter).count();
    }

    public int count(int what) {
        return switch (what) {
            case 0 -> now.kins.size();
            case 1 -> now.pairs.size();
            case 2 -> size();
            case 3 -> now.width;
            case 4 -> past.size();
            case 5 -> tape.length();
            case 6 -> stretches().size();
            case 7 -> stretches().stream().mapToInt(n -> n).max().orElse(0);
            case 8, 9, 10 -> now.weights[what - 8];
            case 11, 12 -> (int) now.signs.stream().filter(s -> s.mark() == what - 10).count();
            default -> NONE;
        };
    }

    private List<Integer> stretches() {
        List<Integer> all = new ArrayList<>();
        int n = 0;
        for (int i = 0; i < size(); i++) {
            n++;
            if (now.legal(i)) {
                all.add(n);
                n = 0;
            }
        }
        return all;
    }
}
