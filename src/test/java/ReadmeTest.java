import java.io.File;
import java.lang.reflect.Method;
import java.lang.reflect.Modifier;
import java.nio.file.Files;
import java.nio.file.Path;
import java.util.HashMap;
import java.util.Map;
import java.util.regex.Matcher;
import java.util.regex.Pattern;

/** README.md: the answers in its examples, and that it has every call and every test. */
public final class ReadmeTest {
    private static final Pattern EXAMPLE = Pattern.compile("rules\\.(\\w+)\\(([^)]*)\\);\\s+// (-?\\d+)");
    private static final String NEW_OBJECT = "TileRules rules = new TileRules();";

    private static int checks = 0;
    private static int wrong = 0;

    private static void must(boolean holds, String what) {
        checks++;
        if (!holds) {
            wrong++;
            System.out.println("not so: " + what);
        }
    }

    public static void main(String[] args) throws Exception {
        String text = Files.readString(Path.of("README.md"));
        Map<String, Method> face = publicMethods();
        checkExamples(text, face);
        checkNames(text, face);
        System.out.println("ReadmeTest: " + checks + " checks, " + wrong + " wrong");
        if (wrong != 0) {
            System.exit(1);
        }
    }

    private static Map<String, Method> publicMethods() {
        Map<String, Method> face = new HashMap<>();
        for (Method m : TileRules.class.getDeclaredMethods()) {
            if (Modifier.isPublic(m.getModifiers())) {
                face.put(m.getName(), m);
            }
        }
        return face;
    }

    private static void checkExamples(String text, Map<String, Method> face) throws Exception {
        TileRules rules = null;
        int examples = 0;
        for (String line : text.split("\n")) {
            if (line.equals(NEW_OBJECT)) {
                rules = new TileRules();
            } else if (line.startsWith("rules.")) {
                Matcher example = EXAMPLE.matcher(line);
                boolean told = example.matches() && rules != null && face.containsKey(example.group(1));
                must(told, "an example: " + line);
                if (told) {
                    long got = answer(rules, face.get(example.group(1)), example.group(2));
                    must(got == Long.parseLong(example.group(3)), line + ", but " + got);
                    examples++;
                }
            }
        }
        must(examples > 0, "there are examples");
    }

    private static long answer(TileRules rules, Method call, String numbers) throws Exception {
        String[] told = numbers.isEmpty() ? new String[0] : numbers.split(", ");
        Class<?>[] types = call.getParameterTypes();
        Object[] values = new Object[told.length];
        for (int i = 0; i < told.length; i++) {
            boolean truth = i < types.length && types[i] == boolean.class;
            values[i] = truth ? (Object) Boolean.valueOf(told[i]) : (Object) Integer.valueOf(told[i]);
        }
        return ((Number) call.invoke(rules, values)).longValue();
    }

    private static void checkNames(String text, Map<String, Method> face) {
        for (String name : face.keySet()) {
            must(text.contains("`" + name + "("), "README.md names " + name);
            must(text.contains("\nrules." + name + "("), "README.md has an example of " + name);
        }
        for (String constant : new String[] {"NONE", "BAD", "FULL", "THERE"}) {
            must(text.contains("`TileRules." + constant + "`"), "README.md names " + constant);
        }
        File[] tests = new File("src/test/java").listFiles();
        must(tests != null && tests.length > 0, "there are tests");
        for (File test : tests == null ? new File[0] : tests) {
            String name = test.getName().replace(".java", "");
            must(text.contains("- `" + name + "`:"), "README.md names " + name);
        }
    }
}
