import java.io.IOException;
import java.lang.reflect.Field;
import java.lang.reflect.Method;
import java.lang.reflect.Modifier;
import java.nio.file.Files;
import java.nio.file.Path;
import java.util.Arrays;
import java.util.List;
import java.util.Map;
import java.util.Set;
import java.util.TreeMap;
import java.util.TreeSet;
import java.util.regex.Matcher;
import java.util.regex.Pattern;

/** What of LANGUAGE.md can be seen without judging: the face, and words and sizes in the source. */
public final class RulesTest {
    private static final String[] FACE = {
        "int oak(int)", "boolean year(int,int)", "int person(int)", "int feed(int,int,int,int,int)", "int end(int)",
        "int text()", "int fault(int)", "boolean by(int)", "boolean lend(int,int,int)", "boolean returned(int,int)",
        "boolean pass(int,int,int)", "int day(int)", "int played(int)", "int winters(int,int)", "int undo()",
        "int of(int,int)", "int ofOak(int,int)", "int ring(int,int)", "int lends(int,int,int)", "int pays(int,int,int)",
        "int kindOf(int)", "int is(int)", "int book(int,int)", "int foretold(int,int,int)", "int same(int,int)",
        "int kin(int)", "int twins()", "int earliest(int)", "int newest(int)", "boolean wants(int,int)",
        "boolean takes(int,int)", "int able()", "int needs()", "int block()", "int plan(int)", "int vote(int)",
        "int mark(int)", "int dated(int)", "int nearest()", "int run(int,boolean)", "int alike(int,int)",
        "long stands(int,int,boolean)", "long expects(boolean)", "int owed(int)", "boolean price(int,int)",
        "int cheapest(int,int,boolean)", "int said(int,int)", "int whose()", "int eldest()", "int left(int)",
        "int count(int)", "int fenced()", "int bare()", "int fires()", "int ledger(int)", "int image()", "int back()",
        "int about(int)"};

    private static final Set<String> LIBRARY = Set.of("System.arraycopy", "Arrays.copyOf", "Arrays.copyOfRange",
        "Arrays.fill", "Math.max", "Math.min", "Math.abs", "Math.floorDiv", "Math.floorMod", "Integer.bitCount",
        "Integer.compare", "Long.compare", "Integer.max", "Integer.min");

    private static int wrong = 0;

    public static void main(String[] args) throws IOException {
        face();
        String source = Files.readString(Path.of("src/main/java/TreesLendRings.java"));
        signs(source);
        String bare = source.replaceAll("(?s)/\\*.*?\\*/", "").replaceAll("//[^\n]*", "")
            .replaceAll("\"(\\\\.|[^\"\\\\])*\"", "\"\"").replaceAll("'(\\\\.|[^'\\\\])'", "' '");
        words(bare);
        classes();
        methods(bare);
        depth(bare);
        System.out.println(wrong == 0 ? "the rules are kept" : wrong + " rules are not kept");
        if (wrong != 0) {
            System.exit(1);
        }
    }

    private static void breaks(String what) {
        wrong++;
        System.out.println(what);
    }

    private static void face() {
        Set<String> due = new TreeSet<>(Arrays.asList(FACE));
        Set<String> found = new TreeSet<>();
        Set<String> names = new TreeSet<>();
        for (Method m : TreesLendRings.class.getDeclaredMethods()) {
            if (Modifier.isPublic(m.getModifiers())) {
                StringBuilder types = new StringBuilder();
                for (Class<?> type : m.getParameterTypes()) {
                    types.append(types.length() == 0 ? "" : ",").append(type);
                }
                found.add(m.getReturnType() + " " + m.getName() + "(" + types + ")");
                names.add(m.getName());
            } else if (!Modifier.isPrivate(m.getModifiers())) {
                breaks("rule 1: " + m);
            }
        }
        if (!due.equals(found)) {
            breaks("rule 1: the face is " + found);
        }
        for (Class<?> c : classesOf()) {
            for (Method m : c.getDeclaredMethods()) {
                if (!Modifier.isPublic(m.getModifiers()) && names.contains(m.getName())) {
                    breaks("rule 1: a name of the face: " + m);
                }
            }
        }
        for (Field f : TreesLendRings.class.getDeclaredFields()) {
            if (!Modifier.isPrivate(f.getModifiers()) && !f.getName().equals("NONE")) {
                breaks("rule 1: " + f);
            }
        }
        if (!Modifier.isFinal(TreesLendRings.class.getModifiers()) || TreesLendRings.class.getConstructors().length != 1) {
            breaks("rule 1: a final class with one public constructor");
        }
    }

    private static List<Class<?>> classesOf() {
        List<Class<?>> all = new java.util.ArrayList<>(Arrays.asList(TreesLendRings.class.getDeclaredClasses()));
        all.add(TreesLendRings.class);
        return all;
    }

    private static void signs(String source) {
        for (int i = 0; i < source.length(); i++) {
            char c = source.charAt(i);
            if (c > 126 || c < 32 && c != '\n') {
                breaks("rule 4: the sign " + (int) c + " at " + i);
            }
        }
    }

    private static void words(String bare) {
        String[] forbidden = {"throw", "throws", "try", "catch", "finally", "synchronized", "assert", "package", "record",
            "protected", "volatile", "transient", "native", "var", "Object", "Thread", "Random", "Exception", "interface"};
        for (String word : forbidden) {
            if (Pattern.compile("\\b" + word + "\\b").matcher(bare).find()) {
                breaks("rules 1 to 6: " + word);
            }
        }
        for (String sign : new String[] {"->", "::", "\"\" +", "+ \"\"", "@", "..."}) {
            if (bare.contains(sign)) {
                breaks("rules 2, 6, 10: " + sign);
            }
        }
        Matcher imports = Pattern.compile("import ([^;]*);").matcher(bare);
        while (imports.find()) {
            if (!imports.group(1).equals("java.util.Arrays")) {
                breaks("rule 4: import " + imports.group(1));
            }
        }
        Matcher library = Pattern.compile("\\b(System|Arrays|Math|Integer|Long)\\.\\w+").matcher(bare);
        while (library.find()) {
            if (!LIBRARY.contains(library.group())) {
                breaks("rule 4: " + library.group());
            }
        }
        if (Pattern.compile("while \\(true|for \\(;|for \\([^;]*;\\s*;").matcher(bare).find()) {
            breaks("rule 9: a loop without an end that can be seen");
        }
    }

    private static void classes() {
        List<Class<?>> all = classesOf();
        if (all.size() > 12) {
            breaks("rule 11: " + all.size() + " classes");
        }
        for (Class<?> c : all) {
            int fields = 0;
            for (Field f : c.getDeclaredFields()) {
                boolean isStatic = Modifier.isStatic(f.getModifiers());
                fields += isStatic ? 0 : 1;
                if (isStatic && !Modifier.isFinal(f.getModifiers())) {
                    breaks("rule 5: " + f);
                }
            }
            if (fields > 20) {
                breaks("rule 11: " + c + " has " + fields + " fields");
            }
            if (c != TreesLendRings.class && !Modifier.isStatic(c.getModifiers())) {
                breaks("rule 2: " + c);
            }
            if (c != TreesLendRings.class && Modifier.isPublic(c.getModifiers())) {
                breaks("rule 1: " + c);
            }
        }
    }

    private static void methods(String bare) {
        String[] lines = bare.split("\n");
        for (int i = 0; i < lines.length; i++) {
            Matcher start = Pattern.compile("^( {4}| {8})(?! )[\\w\\[\\] ]*\\w+\\(.*\\{$").matcher(lines[i]);
            if (!start.find()) {
                continue;
            }
            int end = i;
            while (end < lines.length && !lines[end].equals(start.group(1) + "}")) {
                end++;
            }
            if (end - i + 1 > 60) {
                breaks("rule 11: " + (end - i + 1) + " lines: " + lines[i].trim());
            }
            if (lines[i].chars().filter(c -> c == ',').count() > 6) {
                breaks("rule 11: parameters: " + lines[i].trim());
            }
        }
    }

    /** Calls are told apart by their names alone, the library's too; what call one another count as one level. */
    private static void depth(String bare) {
        Map<String, Set<String>> calls = new TreeMap<>();
        Matcher method = Pattern.compile("(?m)^( {4}| {8})(?! )[\\w\\[\\] ]*?(\\w+)\\([^)]*\\) \\{$").matcher(bare);
        while (method.find()) {
            int end = bare.indexOf("\n" + method.group(1) + "}\n", method.end());
            Matcher call = Pattern.compile("\\b(\\w+)\\(").matcher(bare.substring(method.end(), end));
            Set<String> called = calls.computeIfAbsent(method.group(2), name -> new TreeSet<>());
            while (call.find()) {
                if (!Set.of("if", "for", "while", "switch", "return").contains(call.group(1))) {
                    called.add(call.group(1));
                }
            }
        }
        Map<String, Set<String>> reached = new TreeMap<>();
        for (String name : calls.keySet()) {
            reached.put(name, new TreeSet<>());
            reach(calls, name, reached.get(name));
        }
        for (String name : calls.keySet()) {
            int levels = levels(calls, reached, name);
            if (levels > 8) {
                breaks("rule 11: calls go " + levels + " deep from " + name);
            }
        }
    }

    private static void reach(Map<String, Set<String>> calls, String from, Set<String> reached) {
        for (String name : calls.getOrDefault(from, Set.of())) {
            if (reached.add(name)) {
                reach(calls, name, reached);
            }
        }
    }

    private static boolean reaches(Map<String, Set<String>> reached, String from, String to) {
        return reached.getOrDefault(from, Set.of()).contains(to);
    }

    private static int levels(Map<String, Set<String>> calls, Map<String, Set<String>> reached, String from) {
        int deepest = 0;
        for (String level : calls.keySet()) {
            boolean isOfLevel = level.equals(from) || reaches(reached, from, level) && reaches(reached, level, from);
            for (String name : isOfLevel ? calls.get(level) : Set.<String>of()) {
                if (!reaches(reached, name, from) && !name.equals(from)) {
                    deepest = Math.max(deepest, levels(calls, reached, name));
                }
            }
        }
        return 1 + deepest;
    }
}
