import java.lang.reflect.Method;
import java.lang.reflect.Modifier;
import java.util.ArrayList;
import java.util.Arrays;
import java.util.Comparator;
import java.util.List;
import java.util.Random;

/** Long runs of calls, LineEnds and Model side by side; the seeds are fixed, so each run is the same each time. */
public final class ModelTest {
    private static final int CALLS = 500;

    private final Random random;
    private final LineEnds one = new LineEnds();
    private final Model two = new Model();
    private final List<String> said = new ArrayList<>();
    private final boolean small;
    private int done = 0;

    private ModelTest(long seed) {
        random = new Random(seed);
        small = seed % 3 != 0;
    }

    public static void main(String[] args) throws Exception {
        int runs = args.length > 0 ? Integer.parseInt(args[0]) : 300;
        int from = args.length > 1 ? Integer.parseInt(args[1]) : 1;
        for (int seed = from; seed < from + runs; seed++) {
            ModelTest test = new ModelTest(seed);
            if (!test.run()) {
                System.out.println("seed " + seed + ":");
                test.said.forEach(System.out::println);
                System.exit(1);
            }
        }
        System.out.println(runs + " runs of " + CALLS + " calls as the model's");
    }

    private boolean run() throws Exception {
        Method[] methods = Arrays.stream(LineEnds.class.getDeclaredMethods())
            .filter(m -> Modifier.isPublic(m.getModifiers()))
            .sorted(Comparator.comparing(Method::getName)).toArray(Method[]::new);
        boolean fine = say(text()) && call("table") && say(letters()) && call("paragraph");
        while (fine && done < CALLS - 60) {
            int dice = random.nextInt(100);
            if (dice < 2) {
                fine = say(text()) && call("table") && say(letters()) && call("paragraph");
            } else if (dice < 6) {
                fine = say(letters()) && call("paragraph");
            } else if (dice < 8) {
                fine = say(letters().substring(0, 2)) && call("find", number(0, 5));
            } else if (dice < 12) {
                fine = call("mark", number(0, two.count(2)), number(0, 2));
            } else if (dice < 15) {
                fine = call("width", number(4, 30));
            } else {
                fine = callAny(methods[random.nextInt(methods.length)]);
            }
        }
        return fine;
    }

    private boolean callAny(Method method) throws Exception {
        String name = method.getName();
        if (List.of("feed", "table", "paragraph", "back").contains(name) && random.nextInt(4) > 0) {
            return true;
        }
        Object[] values = new Object[method.getParameterCount()];
        for (int i = 0; i < values.length; i++) {
            values[i] = method.getParameterTypes()[i] == boolean.class ? (Object) random.nextBoolean() : value(name, i);
        }
        return call(name, values);
    }

    /** Mostly such as there are, at times just beside them, at times far off. */
    private int value(String name, int i) {
        int dice = random.nextInt(40);
        if (dice == 0) {
            return new int[] {Integer.MIN_VALUE, Integer.MAX_VALUE, -2, 100, 1000}[random.nextInt(5)];
        }
        int signs = two.count(2);
        switch (name + i) {
            case "insert1": case "change1": case "replace0": case "replace1": case "pair0": case "pair1":
            case "shy0": case "of0": case "isPair0": case "isPair1": case "atEnds1":
                return number(-1, small ? 4 : 10);
            case "insert0": case "delete0": case "change0": case "shift0": case "shift2": case "mark0":
            case "find0": case "marked0": case "sign0": case "legal0": case "natural0": case "cost0":
            case "lineOf1": case "place1": case "costMarked0": case "common0":
                return number(-1, signs);
            case "natural1": case "cost1":
                return number(-1, signs);
            case "delete1": case "shift1":
                return number(0, 4);
            case "width0": case "costBy0":
                return number(3, random.nextBoolean() ? 81 : 30);
            case "weigh1":
                return new int[] {0, 1, 5, 9, 10, 30, 99, 100, 1000, 9999, 10000}[random.nextInt(11)];
            case "way0":
                return random.nextInt(4) == 0 ? random.nextInt(2_000_000) : number(-1, 20);
            case "at2":
                return number(-1, two.count(3) + 10);
            case "spellTable0": case "spell2":
                return random.nextInt(5) == 0 ? -1 : number(-1, 60);
            case "line1": case "at1": case "spell1": case "way1": case "widthFor0":
                return number(-1, 8);
            default:
                return number(-1, 13);
        }
    }

    private int number(int least, int most) {
        return least + random.nextInt(most - least + 1);
    }

    private boolean say(String text) throws Exception {
        if (!call("back", two.count(5))) {
            return false;
        }
        for (int from = 0; from < text.length(); from += 20) {
            int[] f = Check.packed(text, from);
            if (!call("feed", f[0], f[1], f[2], f[3], f[4])) {
                return false;
            }
        }
        return call("back", (20 - text.length() % 20) % 20);
    }

    private boolean call(String name, Object... values) throws Exception {
        Class<?>[] types = Arrays.stream(values)
            .map(v -> v instanceof Boolean ? boolean.class : int.class).toArray(Class<?>[]::new);
        Object got = LineEnds.class.getMethod(name, types).invoke(one, values);
        Object want = Model.class.getMethod(name, types).invoke(two, values);
        done++;
        said.add(name + Arrays.toString(values) + " " + got);
        if (!got.equals(want)) {
            said.add("the model has " + want);
        }
        return got.equals(want);
    }

    /** A TABLE's TEXT; now and then with a byte that is off. */
    private String text() {
        StringBuilder b = new StringBuilder();
        int classes = small ? number(1, 4) : number(3, 11);
        for (int i = 0; i < classes && b.length() < 400; i++) {
            b.append(classText((char) ('a' + (random.nextInt(60) == 0 ? 0 : i))));
            if (random.nextInt(3) == 0) {
                b.append(keepText(i + 1));
            }
        }
        for (int i = random.nextInt(small ? 3 : 14); i > 0 && b.length() < 480; i--) {
            b.append(keepText(classes));
        }
        if (random.nextInt(4) == 0 && b.length() > 0) {
            damage(b);
        }
        return b.toString();
    }

    private void damage(StringBuilder b) {
        int at = random.nextInt(b.length());
        switch (random.nextInt(4)) {
            case 0: b.deleteCharAt(at); break;
            case 1: b.insert(at, " ;a5e;class\t".charAt(random.nextInt(12))); break;
            case 2: b.setLength(at); break;
            default: b.setCharAt(at, " ;a0159z\u00e9Ak".charAt(random.nextInt(11))); break;
        }
    }

    private String classText(char letter) {
        int wide = number(1, random.nextBoolean() ? 9 : 4);
        StringBuilder b = new StringBuilder("class " + letter + " wide " + wide);
        b.append(random.nextInt(4) == 0 ? " shy begin" : "").append(random.nextInt(4) == 0 ? "  shy end" : "");
        b.append(random.nextInt(3) == 0 ? " hang" : "");
        b.append(random.nextInt(3) == 0 ? " trim " + random.nextInt(wide) : "");
        b.append(random.nextInt(2) == 0 ? " squeeze " + random.nextInt(wide) + " rank " + number(1, 3) : "");
        b.append(random.nextInt(2) == 0 ? " open " + number(0, 9) + " rank " + number(1, 3) : "");
        return b.append(random.nextInt(4) == 0 ? " ; " : ";").toString();
    }

    private String keepText(int classes) {
        char first = (char) ('a' + random.nextInt(classes));
        char second = (char) ('a' + random.nextInt(classes));
        return "keep " + first + " " + second + ";";
    }

    private String letters() {
        int most = small ? number(2, 12) : number(20, 41);
        int classes = Math.max(1, two.count(0));
        StringBuilder b = new StringBuilder();
        for (int i = 0; i < most; i++) {
            b.append((char) ('a' + random.nextInt(classes)));
        }
        if (random.nextInt(8) == 0) {
            b.insert(random.nextInt(b.length()), " ");
        }
        if (random.nextInt(20) == 0) {
            b.insert(random.nextInt(b.length()), "z");
        }
        return b.toString();
    }
}
