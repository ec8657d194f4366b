import java.io.IOException;
import java.lang.reflect.Field;
import java.lang.reflect.Method;
import java.lang.reflect.Modifier;
import java.nio.charset.StandardCharsets;
import java.nio.file.Files;
import java.nio.file.Path;
import java.util.ArrayList;
import java.util.Arrays;
import java.util.List;
import java.util.Set;
import java.util.TreeSet;
import java.util.regex.Matcher;
import java.util.regex.Pattern;

/** What of LANGUAGE.md can be seen in the source and in the class: its face, and what is not in it. */
public final class LanguageTest {
    private static final String[] FACE = {
        "int feed(int,int,int,int,int)", "int end(int)", "int town(int)", "int fault(int)", "int about(int,int)",
        "int lane(int,int,int)", "int way(int,int,int)", "int walk(int)", "int stop(int,int,int)",
        "boolean weigh(int,int,int)", "int found(int,int,int)", "int mean(int,int)", "int best(int,int)",
        "int two(int,int)", "int barrels(int,boolean,int)", "int more(int,int,int)", "int where(int,int)",
        "long both(int,int)", "long goes(int,int,int)", "boolean tree(int)", "long density(int,int,int)",
        "int worth(int)", "int round(int,int)", "int look(int,int)", "long left(int,int)", "long gain(int,int)",
        "int leave(int)", "int chase(int,int,int)", "long caught(int,int)", "int bell(int,int,int)",
        "int postman(int,int)", "long guard(int,int)", "long open(int,int,int)", "int right(int,int,int)",
        "int box(int,int)", "int diary(int,int)", "boolean forget(int)", "long likely(int,int,int)", "int next(int)",
        "int run(int,int,int)", "int ran(int)", "int count(int)", "boolean image(int)", "boolean again(int)",
    };
    private static final String[] FORBIDDEN = {
        "throw", "throws", "try", "catch", "finally", "synchronized", "assert", "->", "::", "double", "float", "new Random",
        "currentTimeMillis", "nanoTime", "Thread", "File", "Object", "Exact(", "import java.io", "import java.util.\\*",
        "static \\{", "equals\\(Object", "hashCode", "instanceof", "volatile", "native", "transient",
    };

    /** What rule 4 leaves of the library and the class uses. */
    private static final Set<String> LIBRARY = Set.of("Arrays.fill", "System.arraycopy", "Integer.bitCount", "Math.abs", "Math.max",
            "Math.min");

    private LanguageTest() {
    }

    public static void main(String[] args) throws IOException {
        face();
        classes();
        Path path = Path.of(args.length > 0 ? args[0] : "src/main/java/HiddenBarrel.java");
        source(path);
        loops(path);
        Check.close("LanguageTest");
    }

    /** Rule 9: the end of each loop is seen from its own lines, as it counts, one or a byte a step. */
    private static void loops(Path path) throws IOException {
        int seen = 0;
        List<String> lines = Files.readAllLines(path, StandardCharsets.UTF_8);
        for (int i = 0; i < lines.size(); i++) {
            String line = lines.get(i).trim();
            if (line.startsWith("for (")) {
                seen++;
                Check.due(line + " counts", line.matches("for \\(int (\\w+) = [^;]+; \\1 [<>]=? [^;]+; \\1(\\+\\+|--| -= 8)\\) \\{"), true);
            } else if (line.matches(".*\\b(while|do)\\b.*") && !line.startsWith("*") && !line.startsWith("/**")) {
                seen++;
                boolean counts = line.matches("while \\((\\w+) < \\w+ && .*\\) \\{")
                        && lines.get(i + 1).trim().equals(line.replaceAll("while \\((\\w+) .*", "$1++;"));
                Check.due(line + " counts", counts, true);
            }
        }
        Check.due("loops were seen", seen > 100, true);
    }

    private static String told(Method m) {
        List<String> types = new ArrayList<>();
        for (Class<?> c : m.getParameterTypes()) {
            types.add(c.getSimpleName());
        }
        return m.getReturnType().getSimpleName() + " " + m.getName() + "(" + String.join(",", types) + ")";
    }

    private static void face() {
        Set<String> open = new TreeSet<>();
        Set<String> names = new TreeSet<>();
        Set<String> hidden = new TreeSet<>();
        for (Method m : HiddenBarrel.class.getDeclaredMethods()) {
            if (Modifier.isPrivate(m.getModifiers()) || m.isSynthetic()) {
                hidden.add(m.getName());
            } else {
                open.add(told(m));
                names.add(m.getName());
                Check.due("public " + m.getName(), Modifier.isPublic(m.getModifiers()), true);
            }
        }
        Check.due("the face " + open, open.equals(new TreeSet<>(Arrays.asList(FACE))), true);
        for (Class<?> c : HiddenBarrel.class.getDeclaredClasses()) {
            for (Method m : c.getDeclaredMethods()) {
                hidden.add(m.getName());
            }
        }
        hidden.retainAll(names);
        Check.due("no other method bears such a name " + hidden, hidden.isEmpty(), true);
        Check.due("final", Modifier.isFinal(HiddenBarrel.class.getModifiers()), true);
        Check.due("constructors", HiddenBarrel.class.getConstructors().length, 1);
        for (Field f : HiddenBarrel.class.getDeclaredFields()) {
            Check.due("field " + f.getName(), Modifier.isPrivate(f.getModifiers()) || f.getName().equals("NONE"), true);
        }
    }

    private static void classes() {
        Class<?>[] inside = HiddenBarrel.class.getDeclaredClasses();
        Check.due("at most twelve classes", inside.length < 12, true);
        List<Class<?>> all = new ArrayList<>(Arrays.asList(inside));
        all.add(HiddenBarrel.class);
        for (Class<?> c : all) {
            Check.due(c.getSimpleName() + " is static", c == HiddenBarrel.class || Modifier.isStatic(c.getModifiers()), true);
            int fields = 0;
            for (Field f : c.getDeclaredFields()) {
                if (Modifier.isStatic(f.getModifiers())) {
                    Check.due("static " + f.getName() + " is final", Modifier.isFinal(f.getModifiers()), true);
                } else {
                    fields++;
                }
            }
            Check.due(c.getSimpleName() + " has " + fields + " fields", fields <= 20, true);
            for (Method m : c.getDeclaredMethods()) {
                Check.due(m.getName() + " has few parameters", m.getParameterCount() <= 7, true);
            }
        }
    }

    private static void source(Path path) throws IOException {
        String text = Files.readString(path, StandardCharsets.UTF_8);
        Check.due("signs 1 to 127", text.chars().allMatch(c -> c > 0 && c < 128), true);
        String code = text.replaceAll("(?s)/\\*.*?\\*/", "").replaceAll("//[^\n]*", "");
        for (String word : FORBIDDEN) {
            String sought = Character.isLetter(word.charAt(0)) && word.matches("[A-Za-z]+") ? "\\b" + word + "\\b" : word;
            if (word.equals("Exact(")) {
                sought = "Exact\\(";
            }
            Check.due("no " + word, Pattern.compile(sought).matcher(code).find(), false);
        }
        Matcher used = Pattern.compile("\\b(Arrays|System|Integer|Long|Math|String|StringBuilder|Character|Byte|Boolean)\\.\\w+")
                .matcher(code.replaceAll("(?m)^import .*$", ""));
        while (used.find()) {
            Check.due(used.group() + " is of the library that is left", LIBRARY.contains(used.group()), true);
        }
        Matcher brought = Pattern.compile("(?m)^import (.*);$").matcher(code);
        while (brought.find()) {
            Check.due("import " + brought.group(1), brought.group(1).equals("java.util.Arrays"), true);
        }
        Check.due("no package", Pattern.compile("(?m)^package").matcher(code).find(), false);
        Matcher made = Pattern.compile("\\bnew \\w+").matcher(code);
        while (made.find()) {
            boolean there = isInConstructor(code.substring(0, made.start()));
            Check.due("'" + made.group() + "' is in a constructor", there, true);
        }
        Matcher heads = Pattern.compile("(?m)^( {4,8})(public|private) [^;=]*\\) \\{$").matcher(code);
        while (heads.find()) {
            int end = code.indexOf("\n" + heads.group(1) + "}", heads.end());
            long lines = end < 0 ? 999 : code.substring(heads.end(), end).lines().count();
            Check.due(heads.group().trim() + " has " + lines + " lines", lines <= 60, true);
        }
    }

    /** The last head of a method before it is a constructor's. */
    private static boolean isInConstructor(String before) {
        Matcher heads = Pattern.compile("(?m)^ {4,8}(public|private) ([\\w\\[\\]]+ )*(\\w+)\\([^)]*\\) \\{").matcher(before);
        String last = "";
        while (heads.find()) {
            last = heads.group();
        }
        return last.trim().matches("(public|private) [A-Z]\\w*\\(\\) \\{");
    }
}
