import java.io.IOException;
import java.lang.reflect.Field;
import java.lang.reflect.Method;
import java.lang.reflect.Modifier;
import java.nio.file.Files;
import java.nio.file.Path;
import java.util.ArrayList;
import java.util.List;
import java.util.Map;
import java.util.TreeMap;
import java.util.regex.Matcher;
import java.util.regex.Pattern;

/** README.md: its calls are made and their answers held against it; each call and each refusal has a row, as the document has it. */
public final class ReadmeTest {
    /** What the document's promises name, in their order. */
    private static final String REFUSALS = "disc:BAD,FULL rim:BAD,FULL line:BAD,FULL block:BAD,FULL sign:BAD,FULL undo:NOT told:BAD "
        + "step:BAD,CAST quarter:BAD,CAST cell:BAD count:BAD unlike: hem:BAD after:BAD sand:BAD days:NONE day:BAD,NONE "
        + "poured:BAD,NONE photo: smear:BAD cat:BAD seen:BAD back:BAD,NOT,LOST,QUARREL mend: harm:BAD again: bar:BAD "
        + "way:BAD,NONE wayAt:BAD,NONE heap:BAD sheet:BAD,SIZE drop:BAD,NULL item:BAD,NULL,CAST,INDEX "
        + "show:BAD,NULL,CAST,INDEX,NOT keep:BAD,NULL,CAST,INDEX";
    private static final Pattern CALL = Pattern.compile("palace\\.(\\w+)\\(([^)]*)\\); *// (-?\\w+).*");
    private static final Pattern ROW = Pattern.compile("\\| `(\\w+)\\(([^)]*)\\)` \\|[^|]*\\|([^|]*)\\|");
    private static final Pattern CONSTANT = Pattern.compile("\\| `([A-Z]+)` \\| (-\\d+) \\|[^|]*\\|");
    private static final Pattern REFUSAL = Pattern.compile("\\b(BAD|NOT|FULL|NONE|LOST|QUARREL|NULL|CAST|INDEX|SIZE)\\b");

    private static final Due DUE = new Due();

    private ReadmeTest() {
    }

    public static void main(String[] args) throws IOException, ReflectiveOperationException {
        List<String> lines = Files.readAllLines(Path.of("README.md"));
        callsAnswer(lines);
        callsHaveRows(lines);
        constantsHaveRows(lines);
        DUE.end();
    }

    private static void callsAnswer(List<String> lines) throws ReflectiveOperationException {
        SandPalace palace = new SandPalace();
        int calls = 0;
        for (String line : lines) {
            Matcher call = CALL.matcher(line);
            if (call.matches()) {
                calls++;
                DUE.is(0, line, answer(palace, call.group(1), call.group(2)), number(call.group(3)));
            }
        }
        DUE.is(0, "calls in README.md are found", calls > 20 ? 1 : 0, 1);
    }

    private static int answer(SandPalace palace, String name, String told) throws ReflectiveOperationException {
        String[] words = told.isEmpty() ? new String[0] : told.split(", *");
        Object[] arguments = new Object[words.length];
        for (int i = 0; i < words.length; i++) {
            boolean isTruth = words[i].equals("true") || words[i].equals("false");
            arguments[i] = isTruth ? (Object) Boolean.valueOf(words[i]) : (Object) Integer.valueOf(words[i]);
        }
        return (Integer) methodOf(name).invoke(palace, arguments);
    }

    private static Method methodOf(String name) {
        for (Method m : SandPalace.class.getDeclaredMethods()) {
            if (Modifier.isPublic(m.getModifiers()) && m.getName().equals(name)) {
                return m;
            }
        }
        throw new IllegalArgumentException("README.md calls " + name + ", which the class has not");
    }

    private static int number(String word) throws ReflectiveOperationException {
        return word.matches("-?\\d+") ? Integer.parseInt(word) : SandPalace.class.getField(word).getInt(null);
    }

    private static void callsHaveRows(List<String> lines) {
        Map<String, String> rows = new TreeMap<>();
        for (String line : lines) {
            Matcher row = ROW.matcher(line);
            if (row.matches()) {
                String name = row.group(1);
                int told = row.group(2).isEmpty() ? 0 : row.group(2).split(",").length;
                DUE.is(0, "arguments of " + name, told, methodOf(name).getParameterCount());
                DUE.is(0, name + " has one row", rows.put(name, refusalsIn(row.group(3))) == null ? 1 : 0, 1);
            }
        }
        String[] due = REFUSALS.split(" ");
        for (String call : due) {
            String name = call.substring(0, call.indexOf(':'));
            String got = rows.get(name);
            DUE.is(0, "row of " + call + ": " + got, call.equals(name + ":" + got) ? 1 : 0, 1);
        }
        DUE.is(0, "rows", rows.size(), due.length);
    }

    private static String refusalsIn(String text) {
        List<String> found = new ArrayList<>();
        Matcher refusal = REFUSAL.matcher(text);
        while (refusal.find()) {
            found.add(refusal.group());
        }
        return String.join(",", found);
    }

    private static void constantsHaveRows(List<String> lines) throws ReflectiveOperationException {
        int rows = 0;
        for (String line : lines) {
            Matcher row = CONSTANT.matcher(line);
            if (row.matches()) {
                rows++;
                DUE.is(0, row.group(1), Integer.parseInt(row.group(2)), number(row.group(1)));
            }
        }
        int constants = 0;
        for (Field f : SandPalace.class.getDeclaredFields()) {
            constants += Modifier.isPublic(f.getModifiers()) ? 1 : 0;
        }
        DUE.is(0, "constants that have rows", rows, constants);
    }
}
