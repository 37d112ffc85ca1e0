import java.lang.reflect.Field;
import java.lang.reflect.Method;
import java.lang.reflect.Modifier;
import java.nio.charset.StandardCharsets;
import java.nio.file.Files;
import java.nio.file.Path;
import java.util.ArrayList;
import java.util.List;
import java.util.Map;
import java.util.Set;
import java.util.TreeMap;
import java.util.TreeSet;
import java.util.regex.Matcher;
import java.util.regex.Pattern;

/** The rules of LANGUAGE.md that a look at the source and the compiled class can hold. */
public final class LanguageTest {
    private static final Path SOURCE = Path.of("src/main/java/LineEnds.java");
    private static final int MOST_LINES = 60;
    private static final int MOST_PARAMETERS = 7;
    private static final int MOST_CLASSES = 12;
    private static final int MOST_FIELDS = 20;
    private static final int MOST_DEPTH = 8;

    private static final Set<String> FACE = new TreeSet<>(List.of(
        "feed/5", "back/1", "table/0", "paragraph/0", "insert/2", "delete/2", "change/2", "shift/3", "replace/2", "mark/2",
        "width/1", "pair/2", "shy/2", "weigh/2", "undo/0", "of/2", "isPair/2", "find/1", "marked/1", "sign/1", "legal/1",
        "natural/2", "cost/2", "lines/2", "line/3", "lineOf/2", "place/3", "at/3", "common/1", "same/2", "dearest/1",
        "units/3", "river/1", "spell/3", "spellTable/1", "ways/0", "fewest/0", "way/2", "worst/0", "costMarked/2",
        "costBy/1", "widthFor/1", "bestWidth/0", "atEnds/3", "count/1"));

    private static final Check C = new Check();

    public static void main(String[] args) throws Exception {
        String source = Files.readString(SOURCE, StandardCharsets.UTF_8);
        face();
        words(bare(source));
        classes();
        methodLengths(source);
        depth(bare(source));
        C.end();
    }

    private static void face() throws Exception {
        Set<String> found = new TreeSet<>();
        for (Method m : LineEnds.class.getDeclaredMethods()) {
            if (!Modifier.isPrivate(m.getModifiers()) && !m.isSynthetic()) {
                C.due("rule 1: public " + m.getName(), true, Modifier.isPublic(m.getModifiers()));
                found.add(m.getName() + "/" + m.getParameterCount());
            }
        }
        C.due("rule 1: the face", FACE.toString(), found.toString());
        for (Field f : LineEnds.class.getDeclaredFields()) {
            boolean fine = Modifier.isPrivate(f.getModifiers()) || f.getName().equals("NONE");
            C.due("rule 1: private " + f.getName(), true, fine || f.isSynthetic());
        }
        C.due("rule 1: constructors", 1, LineEnds.class.getConstructors().length);
        C.due("rule 1: final", true, Modifier.isFinal(LineEnds.class.getModifiers()));
    }

    /** The source without its comments, its texts and its single signs. */
    private static String bare(String source) {
        return source.replaceAll("(?s)/\\*.*?\\*/", " ").replaceAll("//[^\n]*", " ")
            .replaceAll("\"[^\"\n]*\"", "\"\"").replaceAll("'[^'\n]+'", "' '");
    }

    private static void words(String bare) {
        for (String word : new String[] {
            "throw", "throws", "try", "catch", "finally", "synchronized", "assert", "package", "volatile", "native", "transient",
            "System\\.out", "System\\.currentTimeMillis", "System\\.nanoTime", "Random", "Thread", "Object", "HashMap", "Map", "Set",
            "Exact", "String\\.format", "Integer\\.MAX_VALUE", "Integer\\.MIN_VALUE", "->", "::", "var", "protected",
        }) {
            boolean letters = Character.isLetter(word.charAt(0));
            Matcher m = Pattern.compile(letters ? "\\b" + word + "\\b" : word).matcher(bare);
            C.due("rules 3, 4, 6, 13: no " + word, false, m.find());
        }
        Matcher imports = Pattern.compile("import ([^;]+);").matcher(bare);
        while (imports.find()) {
            C.due("rule 4: import " + imports.group(1), true, List.of("java.util.Arrays").contains(imports.group(1)));
        }
        Matcher library = Pattern.compile("\\b(Arrays|Math|System|Integer|Long)\\.(\\w+)").matcher(bare);
        while (library.find()) {
            boolean fine = Set.of("Arrays.fill", "Math.max", "Math.min", "System.arraycopy").contains(library.group());
            C.due("rule 4: " + library.group(), true, fine);
        }
    }

    private static void classes() throws Exception {
        Set<String> names = new TreeSet<>();
        Class<?>[] inside = LineEnds.class.getDeclaredClasses();
        C.due("rule 11: classes", true, inside.length + 1 <= MOST_CLASSES);
        List<Class<?>> all = new ArrayList<>(List.of(inside));
        all.add(LineEnds.class);
        for (String call : FACE) {
            names.add(call.substring(0, call.indexOf('/')));
        }
        for (Class<?> type : all) {
            int fields = 0;
            for (Field f : type.getDeclaredFields()) {
                boolean constant = Modifier.isStatic(f.getModifiers());
                fields += constant ? 0 : 1;
                C.due("rule 5: final " + f.getName(), true, !constant || Modifier.isFinal(f.getModifiers()));
            }
            C.due("rule 11: fields of " + type.getName(), true, fields <= MOST_FIELDS);
            for (Method m : type.getDeclaredMethods()) {
                C.due("rule 11: parameters of " + m.getName(), true, m.getParameterCount() <= MOST_PARAMETERS);
                boolean named = names.contains(m.getName()) && !Modifier.isPublic(m.getModifiers());
                C.due("rule 1: no public name for " + m.getName(), false, named);
            }
            C.due("rule 2: static " + type.getName(), true, type == LineEnds.class || Modifier.isStatic(type.getModifiers()));
        }
    }

    private static void methodLengths(String source) {
        String[] lines = source.split("\n");
        Pattern begin = Pattern.compile("^( +)(?:(?:public|private|static|final) )*[\\w\\[\\]]+(?: \\w+)?\\([^;]*\\) \\{$");
        for (int i = 0; i < lines.length; i++) {
            Matcher m = begin.matcher(lines[i]);
            if (m.matches() && !lines[i].matches(" *(if|for|while|switch|else).*")) {
                int end = i;
                while (!lines[end].equals(m.group(1) + "}")) {
                    end++;
                }
                C.due("rule 11: lines of " + lines[i].trim(), true, end - i + 1 <= MOST_LINES);
            }
        }
    }

    /** How deep calls go, by names alone: all methods of one name count as one. */
    private static void depth(String bare) {
        Map<String, Set<String>> calls = new TreeMap<>();
        Pattern begin = Pattern.compile("(?m)^( +)(?:(?:public|private|static|final) )*[\\w\\[\\]]+ (\\w+)\\([^;{]*\\) \\{$");
        Matcher m = begin.matcher(bare);
        while (m.find()) {
            if (!List.of("if", "for", "while", "switch").contains(m.group(2))) {
                int end = bare.indexOf("\n" + m.group(1) + "}", m.end());
                Matcher call = Pattern.compile("\\b(\\w+)\\(").matcher(bare.substring(m.end(), end));
                Set<String> to = calls.computeIfAbsent(m.group(2), n -> new TreeSet<>());
                while (call.find()) {
                    to.add(call.group(1));
                }
            }
        }
        C.due("the methods are found", true, calls.keySet().containsAll(List.of("feed", "count", "planBest", "takeAway")));
        for (String name : calls.keySet()) {
            C.due("rules 8, 11: depth of " + name, true, depthOf(name, calls, 0) <= MOST_DEPTH);
        }
    }

    private static int depthOf(String name, Map<String, Set<String>> calls, int above) {
        if (above > MOST_DEPTH) {
            return above;
        }
        int deepest = above + 1;
        for (String next : calls.getOrDefault(name, Set.of())) {
            boolean keyword = List.of("if", "for", "while", "switch", "return").contains(next);
            if (!keyword) {
                deepest = Math.max(deepest, depthOf(next, calls, above + 1));
            }
        }
        return deepest;
    }
}
