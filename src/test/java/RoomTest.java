import com.sun.management.ThreadMXBean;
import java.lang.management.ManagementFactory;
import java.lang.reflect.Array;
import java.lang.reflect.Field;
import java.lang.reflect.Modifier;
import java.util.ArrayDeque;
import java.util.Collections;
import java.util.Deque;
import java.util.IdentityHashMap;
import java.util.Set;

/** All calls of a run live in one room: what an object holds, and what its calls make beside that. */
public final class RoomTest {
    private static final int MOST_OBJECTS = 1_000;
    private static final int MOST_ELEMENTS = 20_000;
    private static final int MOST_BYTES_A_CALL = 100;
    private static final int CALLS = 450;
    private static final String TABLE = "class a wide 1 hang squeeze 0 rank 1 open 1 rank 1;"
        + "class b wide 3 trim 1 squeeze 2 rank 2 open 2 rank 3;class c wide 2 shy begin;keep a b;";

    private static final Check C = new Check();

    public static void main(String[] args) throws Exception {
        LineEnds x = new LineEnds();
        long[] before = held(x);
        C.due("objects of a new one", true, before[0] <= MOST_OBJECTS);
        C.due("fields and elements of a new one", true, before[1] <= MOST_ELEMENTS);
        callMuch(x, 100);
        C.due("the table is taken", 3, x.count(0));
        C.due("the paragraph is taken", 40, x.count(2));
        long[] after = held(x);
        C.due("objects behind its calls", before[0], after[0]);
        C.due("fields and elements behind its calls", before[1], after[1]);
        callsMakeNextToNothing();
        C.end();
    }

    /** Objects, then fields and elements of all that can be reached. */
    private static long[] held(Object root) throws Exception {
        Set<Object> seen = Collections.newSetFromMap(new IdentityHashMap<>());
        Deque<Object> open = new ArrayDeque<>();
        long parts = 0;
        seen.add(root);
        open.add(root);
        while (!open.isEmpty()) {
            Object next = open.remove();
            if (next.getClass().isArray()) {
                parts += Array.getLength(next);
                for (int i = 0; i < Array.getLength(next) && next instanceof Object[]; i++) {
                    reach(Array.get(next, i), seen, open);
                }
            } else {
                for (Field f : next.getClass().getDeclaredFields()) {
                    if (!Modifier.isStatic(f.getModifiers())) {
                        parts++;
                        f.setAccessible(true);
                        reach(f.getType().isPrimitive() ? null : f.get(next), seen, open);
                    }
                }
            }
        }
        return new long[] {seen.size(), parts};
    }

    private static void reach(Object part, Set<Object> seen, Deque<Object> open) {
        if (part != null && seen.add(part)) {
            open.add(part);
        }
    }

    private static void callsMakeNextToNothing() {
        ThreadMXBean threads = (ThreadMXBean) ManagementFactory.getThreadMXBean();
        LineEnds x = new LineEnds();
        callMuch(new LineEnds(), CALLS);
        long self = Thread.currentThread().getId();
        long before = threads.getThreadAllocatedBytes(self);
        int calls = callMuch(x, CALLS);
        long made = threads.getThreadAllocatedBytes(self) - before;
        C.due("the calls are asked", true, calls >= CALLS);
        C.due(made + " bytes made by " + calls + " calls", true, made <= (long) calls * MOST_BYTES_A_CALL);
    }

    /** The dearest calls, a table and a paragraph of 40 SIGNS now and then; how many calls there were. */
    private static int callMuch(LineEnds x, int most) {
        int calls = 0;
        while (calls < most) {
            for (int from = 0; from < TABLE.length(); from += 20) {
                feed(x, TABLE, from);
                calls++;
            }
            x.table();
            feed(x, "aaaaabaaaacaaaaabaaa", 0);
            feed(x, "aaaaacaaaabaaaaacaaa", 0);
            x.paragraph();
            for (int kind = 0; kind < 4; kind++) {
                x.mark(kind, 1);
                x.lines(kind, 1);
                x.spell(kind, 0, -1);
                x.river(kind);
            }
            x.spellTable(-1);
            x.ways();
            x.way(5, -1);
            x.worst();
            x.costMarked(3, 1);
            x.costBy(40);
            x.widthFor(2);
            x.bestWidth();
            x.common(-1);
            x.same(0, 3);
            x.undo();
            x.find(0);
            calls += 32;
        }
        return calls;
    }

    /** Makes no row of its own: what is made here would count too. */
    private static void feed(LineEnds x, String text, int from) {
        x.feed(four(text, from), four(text, from + 4), four(text, from + 8), four(text, from + 12), four(text, from + 16));
    }

    private static int four(String text, int from) {
        int packed = 0;
        for (int i = from; i < from + 4; i++) {
            packed = packed << 8 | (i < text.length() ? text.charAt(i) : ' ');
        }
        return packed;
    }
}
