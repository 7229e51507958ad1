import java.io.IOException;
import java.lang.reflect.Constructor;
import java.lang.reflect.Field;
import java.lang.reflect.Method;
import java.lang.reflect.Modifier;
import java.nio.file.Files;
import java.nio.file.Path;
import java.util.Arrays;
import java.util.Set;
import java.util.TreeSet;
import java.util.regex.Matcher;
import java.util.regex.Pattern;

/** The face as the document shows it, and those rules of LANGUAGE.md that can be read off the source. */
public final class LanguageTest {
    private static final String FACE = "disc(int,int) rim(int,int) line(int,int,int,int,int) block(int,int,int,int,int) "
        + "sign(int,int,int,int,int,int) undo() told(int,int) step(int) quarter(int) cell(int,int,int) count(int) unlike() "
        + "hem(int,int,boolean) after(int,int) sand(int) days() day(int) poured(int) photo() smear(int,int) "
        + "cat(int,int,int,int,int) seen(int,int) back(int,int) mend() harm(int) again() bar(int) way(int) wayAt(int,int) "
        + "heap(int) sheet(int,int,int) drop(int) item(int,int,int,int) show(int,int,int,int,int) keep(int,int,int,int,int)";
    private static final String CONSTANTS = "BAD=-1 NOT=-2 FULL=-3 NONE=-4 NULL=-11 CAST=-12 INDEX=-13 SIZE=-14 LOST=-5 QUARREL=-6";
    private static final String FORBIDDEN = "\\b(throw|throws|try|catch|synchronized|assert|import|package|protected|volatile|native|"
        + "Object|System\\.out|Random|Thread|\\w+Exact)\\b|->|::|@FunctionalInterface";
    private static final int MOST_CLASSES = 12;
    private static final int MOST_LINES = 60;
    private static final int MOST_FIELDS = 20;

    private static int wrong;

    private LanguageTest() {
    }

    public static void main(String[] args) throws IOException, IllegalAccessException {
        face();
        constants();
        classes();
        words(withoutComments(Files.readString(Path.of("src/main/java/SandPalace.java"))));
        methodLengths(Files.readString(Path.of("src/main/java/SandPalace.java")));
        System.out.println(wrong == 0 ? "the face and the rules are kept" : wrong + " faults");
        if (wrong != 0) {
            System.exit(1);
        }
    }

    private static void fault(String text) {
        wrong++;
        System.out.println(text);
    }

    private static void face() {
        Set<String> due = new TreeSet<>(Arrays.asList(FACE.split(" ")));
        Set<String> got = new TreeSet<>();
        Set<String> publicNames = new TreeSet<>();
        for (Method m : SandPalace.class.getDeclaredMethods()) {
            if (!Modifier.isPrivate(m.getModifiers()) && !m.isSynthetic()) {
                String types = Arrays.toString(m.getParameterTypes()).replaceAll("[\\[\\] ]", "");
                got.add(m.getName() + "(" + types + ")");
                publicNames.add(m.getName());
                boolean asTold = Modifier.isPublic(m.getModifiers()) && !Modifier.isStatic(m.getModifiers()) && m.getReturnType() == int.class;
                if (!asTold) {
                    fault("not public int: " + m);
                }
            }
        }
        if (!due.equals(got)) {
            fault("methods are " + got + ", due are " + due);
        }
        for (Method m : SandPalace.class.getDeclaredMethods()) {
            if (Modifier.isPrivate(m.getModifiers()) && publicNames.contains(m.getName())) {
                fault("rule 1: a private method bears a public name: " + m);
            }
        }
        Constructor<?>[] made = SandPalace.class.getDeclaredConstructors();
        if (made.length != 1 || !Modifier.isPublic(made[0].getModifiers()) || made[0].getParameterCount() != 0) {
            fault("constructors are " + Arrays.toString(made));
        }
        if (!Modifier.isFinal(SandPalace.class.getModifiers())) {
            fault("the class is not final");
        }
    }

    private static void constants() throws IllegalAccessException {
        Set<String> got = new TreeSet<>();
        for (Field f : SandPalace.class.getDeclaredFields()) {
            if (!Modifier.isPrivate(f.getModifiers()) && !f.isSynthetic()) {
                got.add(f.getName() + "=" + f.getInt(null));
                if (!Modifier.isPublic(f.getModifiers()) || !Modifier.isFinal(f.getModifiers())) {
                    fault("not a public constant: " + f);
                }
            }
        }
        Set<String> due = new TreeSet<>(Arrays.asList(CONSTANTS.split(" ")));
        if (!due.equals(got)) {
            fault("constants are " + got + ", due are " + due);
        }
    }

    private static void classes() {
        Class<?>[] inside = SandPalace.class.getDeclaredClasses();
        if (inside.length + 1 > MOST_CLASSES) {
            fault("rule 11: " + (inside.length + 1) + " classes");
        }
        for (Class<?> c : inside) {
            if (!Modifier.isStatic(c.getModifiers()) || Modifier.isPublic(c.getModifiers())) {
                fault("rule 1, 2: " + c);
            }
            int fields = 0;
            for (Field f : c.getDeclaredFields()) {
                boolean isStatic = Modifier.isStatic(f.getModifiers());
                fields += isStatic ? 0 : 1;
                if (isStatic && !Modifier.isFinal(f.getModifiers())) {
                    fault("rule 5: " + f);
                }
            }
            if (fields > MOST_FIELDS) {
                fault("rule 11: " + fields + " fields in " + c);
            }
            for (Method m : c.getDeclaredMethods()) {
                if (m.getParameterCount() > 7) {
                    fault("rule 11: " + m);
                }
            }
        }
    }

    private static String withoutComments(String source) {
        return source.replaceAll("(?s)/\\*.*?\\*/", "").replaceAll("//[^\n]*", "");
    }

    private static void words(String source) {
        Matcher found = Pattern.compile(FORBIDDEN).matcher(source);
        while (found.find()) {
            fault("rules 2, 4, 6, 13: " + found.group());
        }
    }

    /** By the indents of four that the source keeps: a method ends where a brace stands under its first sign. */
    private static void methodLengths(String source) {
        String[] lines = source.split("\n");
        for (int i = 0; i < lines.length; i++) {
            Matcher head = Pattern.compile("( {4}| {8})\\S.*\\) \\{").matcher(lines[i]);
            if (!head.matches() || lines[i].matches(".*\\b(for|if|while|switch)\\b.*")) {
                continue;
            }
            int end = i;
            while (end < lines.length && !lines[end].equals(head.group(1) + "}")) {
                end++;
            }
            if (end - i + 1 > MOST_LINES) {
                fault("rule 11: " + (end - i + 1) + " lines: " + lines[i].trim());
            }
        }
    }
}
