import java.io.IOException;
import java.lang.reflect.Constructor;
import java.lang.reflect.Field;
import java.lang.reflect.Method;
import java.lang.reflect.Modifier;
import java.nio.file.Files;
import java.nio.file.Path;
import java.util.ArrayList;
import java.util.Arrays;
import java.util.List;
import java.util.TreeSet;
import java.util.regex.Matcher;
import java.util.regex.Pattern;

/** What can be told by a machine of ../shared/LANGUAGE.md: the face, and what must not stand in the source. */
public final class LanguageTest {
    private static final String SOURCE = "src/main/java/HelpedOnlyOnce.java";
    private static final String FACE = "bestPlace 1,back 0,byLaw 2,chosen 2,clear 0,count 1,feed 1,first 0,gap 1,good 2,help 2,"
        + "image 0,judge 0,keeps 1,lasts 2,loss 2,many 2,may 2,minutes 2,most 0,move 2,need 2,person 2,restore 0,row 1,run 1,"
        + "seeds 3,set 2,smallest 0,spent 2,strangers 1,town 0,without 1,worth 2,year 0";
    private static final List<Class<?>> TYPES = List.of(int.class, long.class, boolean.class, String.class, void.class,
        int[].class, long[].class);
    private static int passed = 0;
    private static int failed = 0;

    public static void main(String[] args) throws IOException {
        face();
        members();
        String code = withoutCommentsAndTexts(Files.readString(Path.of(SOURCE)));
        words(code);
        sizes(code);
        System.out.println("LanguageTest: " + passed + " passed, " + failed + " failed");
        System.exit(failed == 0 ? 0 : 1);
    }

    private static void due(String what, boolean holds) {
        if (holds) {
            passed++;
            return;
        }
        failed++;
        System.out.println("LANGUAGE: " + what);
    }

    private static void face() {
        Class<?> main = HelpedOnlyOnce.class;
        due("the class is public and final", Modifier.isPublic(main.getModifiers()) && Modifier.isFinal(main.getModifiers()));
        Constructor<?>[] made = main.getDeclaredConstructors();
        due("one constructor, public, of nothing",
            made.length == 1 && Modifier.isPublic(made[0].getModifiers()) && made[0].getParameterCount() == 0);
        TreeSet<String> found = new TreeSet<>();
        for (Method m : main.getDeclaredMethods()) {
            if (!Modifier.isPrivate(m.getModifiers())) {
                found.add(m.getName() + " " + m.getParameterCount());
                boolean ints = Arrays.stream(m.getParameterTypes()).allMatch(t -> t == int.class);
                due(m + " takes and answers ints, and is public alone",
                    ints && m.getReturnType() == int.class && m.getModifiers() == Modifier.PUBLIC);
            }
        }
        due("the face is " + FACE + ", found " + found, found.equals(new TreeSet<>(Arrays.asList(FACE.split(",")))));
        for (Field f : main.getDeclaredFields()) {
            due(f + " is private", Modifier.isPrivate(f.getModifiers()));
        }
    }

    private static void members() {
        TreeSet<String> faceNames = new TreeSet<>();
        for (String call : FACE.split(",")) {
            faceNames.add(call.split(" ")[0]);
        }
        List<Class<?>> classes = new ArrayList<>(List.of(HelpedOnlyOnce.class.getDeclaredClasses()));
        for (Class<?> c : classes) {
            due(c + " is static and not to be seen", Modifier.isStatic(c.getModifiers())
                && !Modifier.isPublic(c.getModifiers()) && !Modifier.isProtected(c.getModifiers()));
        }
        due("at most twelve classes", classes.size() < 12);
        classes.add(HelpedOnlyOnce.class);
        for (Class<?> c : classes) {
            int held = 0;
            for (Field f : c.getDeclaredFields()) {
                boolean isStatic = Modifier.isStatic(f.getModifiers());
                held += isStatic ? 0 : 1;
                due(f + " is final if static", !isStatic || Modifier.isFinal(f.getModifiers()));
                due(f + " has a plain type", TYPES.contains(f.getType()) || classes.contains(f.getType()));
            }
            due(c + " has at most twenty fields", held <= 20);
            for (Method m : c.getDeclaredMethods()) {
                boolean ofFace = c == HelpedOnlyOnce.class && Modifier.isPublic(m.getModifiers());
                due(m + " does not bear a name of the face", ofFace || !faceNames.contains(m.getName()));
                due(m + " takes at most seven", m.getParameterCount() <= 7);
                due(m + " is neither made by the compiler nor for a lambda", !m.isSynthetic());
            }
        }
    }

    private static void words(String code) {
        String[] never = {"\\bthrow\\b", "\\bthrows\\b", "\\btry\\b", "\\bcatch\\b", "\\bfinally\\b", "\\bsynchronized\\b",
            "\\bassert\\b", "->", "::", "\\bhashCode\\b", "Exact\\b", "\\bObject\\b", "\\bvar\\b", "\\bpackage\\b",
            "\\bprotected\\b", "@"};
        for (String word : never) {
            due("no " + word, !Pattern.compile(word).matcher(code).find());
        }
        Matcher imports = Pattern.compile("import ([^;]+);").matcher(code);
        while (imports.find()) {
            due("import " + imports.group(1), imports.group(1).equals("java.util.Arrays"));
        }
        Matcher library = Pattern.compile("\\b(Math|Integer|Long|System|Arrays)\\.(\\w+)").matcher(code);
        while (library.find()) {
            due(library.group(), List.of("Math.abs", "Math.max", "Math.min", "Integer.bitCount", "System.arraycopy",
                "Arrays.fill").contains(library.group()));
        }
        Matcher made = Pattern.compile("\\bnew (\\w+)").matcher(code);
        while (made.find()) {
            int line = code.substring(0, made.start()).lastIndexOf('\n');
            due("made in the constructor alone: " + made.group(),
                code.substring(line, made.start()).matches("\\s+(private )?final [\\w\\[\\]]+ \\w+ = "));
        }
    }

    private static void sizes(String code) {
        int length = 0;
        for (String line : code.split("\n")) {
            length = line.matches("( {4}| {8})[^ }].*\\{") && line.contains("(") ? 0 : length + 1;
            due("a method of at most sixty lines, near " + line, length <= 60 || !line.matches("( {4}| {8})\\}"));
            due("a line of at most 120 letters: " + line, line.length() <= 120);
        }
        due("letters 0 to 127 alone", code.chars().allMatch(c -> c < 128));
    }

    private static String withoutCommentsAndTexts(String source) {
        return source.replaceAll("(?s)/\\*.*?\\*/", "").replaceAll("//[^\n]*", "")
            .replaceAll("\"[^\"\n]*\"", "\"\"").replaceAll("'[^'\n]'", "0");
    }
}
