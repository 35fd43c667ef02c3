import java.lang.reflect.Constructor;
import java.lang.reflect.Field;
import java.lang.reflect.Method;
import java.lang.reflect.Modifier;
import java.nio.file.Files;
import java.nio.file.Path;
import java.util.ArrayList;
import java.util.List;
import java.util.Set;
import java.util.TreeSet;
import java.util.regex.Matcher;
import java.util.regex.Pattern;

/** The public face, and those rules of the language that can be seen in the text or by reflection. */
public final class LanguageTest {
    private static final String[] FACE = {
        "int tile(int, int, int, int)", "int untile()", "long fillings(int, int, boolean)",
        "int laid(int, int, boolean, int, int)", "int repeats()", "int radius()", "long middle(int)",
        "int piece(int)", "int unpiece()", "int board(int, int, int)", "int may(int, boolean)",
        "int placements(int)", "long covers(int)", "int cover(int, int, int, int)", "int fewest(int)",
        "int letters(int, int)", "int block(int, int, int, int)", "int letter(int, int, int, int)",
        "long many(int, int, int)", "int beside(int, int, int, int)", "int mixes()", "int squares(int, int)",
        "int turn(int)", "int corner(int)", "int uncorner()", "int rounds(boolean)",
        "int round(boolean, int, int)", "int count(int)",
    };
    private static final String[] BANNED = {
        "throw", "throws", "try", "catch", "finally", "synchronized", "assert", "volatile", "transient", "native",
        "var", "package", "equals", "hashCode", "toString", "Object", "Thread", "Random", "float", "double",
        "addExact", "multiplyExact", "toIntExact", "Optional", "stream", "Function", "Runnable", "Exception", "Error",
    };
    private static final int MOST_LINES = 60, MOST_PARAMETERS = 7, MOST_FIELDS = 20, MOST_CLASSES = 12;

    private static int checks = 0;
    private static int wrong = 0;

    private static void must(boolean holds, String what) {
        checks++;
        if (!holds) {
            wrong++;
            System.out.println("not so: " + what);
        }
    }

    public static void main(String[] args) throws Exception {
        checkFace();
        List<Class<?>> classes = new ArrayList<>(List.of(TileRules.class));
        classes.addAll(List.of(TileRules.class.getDeclaredClasses()));
        must(classes.size() <= MOST_CLASSES, "at most " + MOST_CLASSES + " classes");
        for (Class<?> each : classes) {
            checkClass(each);
        }
        checkText(Files.readString(Path.of("src/main/java/TileRules.java")));
        System.out.println("LanguageTest: " + checks + " checks, " + wrong + " wrong");
        if (wrong != 0) {
            System.exit(1);
        }
    }

    private static void checkFace() {
        Set<String> want = new TreeSet<>(List.of(FACE));
        Set<String> got = new TreeSet<>();
        for (Method m : TileRules.class.getDeclaredMethods()) {
            if (!Modifier.isPrivate(m.getModifiers())) {
                must(Modifier.isPublic(m.getModifiers()) && !Modifier.isStatic(m.getModifiers()), m + " is public");
                got.add(signature(m));
            }
        }
        must(got.equals(want), "the face is " + want + ", not " + got);
        Constructor<?>[] constructors = TileRules.class.getDeclaredConstructors();
        must(constructors.length == 1 && constructors[0].getParameterCount() == 0
                && Modifier.isPublic(constructors[0].getModifiers()), "one public constructor");
        must(Modifier.isFinal(TileRules.class.getModifiers()), "the class is final");
        Set<String> fields = new TreeSet<>();
        for (Field f : TileRules.class.getDeclaredFields()) {
            if (!Modifier.isPrivate(f.getModifiers())) {
                fields.add(f.getName());
            }
        }
        must(fields.equals(new TreeSet<>(List.of("NONE", "BAD", "FULL", "THERE"))), "the constants, not " + fields);
    }

    private static String signature(Method m) {
        List<String> parameters = new ArrayList<>();
        for (Class<?> p : m.getParameterTypes()) {
            parameters.add(p.getSimpleName());
        }
        return m.getReturnType().getSimpleName() + " " + m.getName() + "(" + String.join(", ", parameters) + ")";
    }

    private static void checkClass(Class<?> each) {
        String name = each.getSimpleName();
        if (each != TileRules.class) {
            must(Modifier.isStatic(each.getModifiers()) && !Modifier.isPublic(each.getModifiers())
                    && !Modifier.isProtected(each.getModifiers()), name + " is static and not public");
        }
        int own = 0;
        for (Field f : each.getDeclaredFields()) {
            boolean constant = Modifier.isStatic(f.getModifiers());
            own += constant ? 0 : 1;
            must(!constant || Modifier.isFinal(f.getModifiers()) && f.getType().isPrimitive(), name + "." + f.getName());
        }
        must(own <= MOST_FIELDS, name + " has few fields");
        Set<String> faceNames = new TreeSet<>();
        for (String signature : FACE) {
            faceNames.add(signature.substring(signature.indexOf(' ') + 1, signature.indexOf('(')));
        }
        for (Method m : each.getDeclaredMethods()) {
            must(m.getParameterCount() <= MOST_PARAMETERS, name + "." + m.getName() + " has few parameters");
            must(!m.isSynthetic(), name + "." + m.getName() + " is written in the text");
            boolean ofFace = each == TileRules.class && Modifier.isPublic(m.getModifiers());
            must(ofFace || !faceNames.contains(m.getName()), name + "." + m.getName() + " has a name of its own");
        }
    }

    private static void checkText(String text) {
        String code = text.replaceAll("(?s)/\\*.*?\\*/", "").replaceAll("//[^\n]*", "");
        must(!code.contains("->") && !code.contains("::") && !code.contains("\""), "no lambda, no text");
        for (String word : BANNED) {
            must(!Pattern.compile("\\b" + word + "\\b").matcher(code).find(), "no " + word);
        }
        Matcher imports = Pattern.compile("import ([^;]*);").matcher(code);
        while (imports.find()) {
            must(Set.of("java.util.Arrays", "java.util.ArrayList", "java.util.List").contains(imports.group(1)),
                    imports.group(1) + " is allowed");
        }
        Matcher library = Pattern.compile("\\b(System|Arrays|Math|Integer|Long)\\.(\\w+)").matcher(code);
        Set<String> allowed = Set.of("System.arraycopy", "Arrays.fill", "Arrays.copyOf", "Arrays.copyOfRange",
                "Math.min", "Math.max", "Math.abs", "Integer.bitCount", "Integer.compare", "Integer.lowestOneBit",
                "Integer.numberOfTrailingZeros", "Long.bitCount");
        while (library.find()) {
            must(allowed.contains(library.group()), library.group() + " is allowed");
        }
        must(!Pattern.compile("static\\s*\\{").matcher(code).find(), "no static block");
        checkLengths(text.split("\n", -1));
    }

    private static void checkLengths(String[] lines) {
        Pattern head = Pattern.compile("^(    |        )(?=\\w)[\\w\\[\\] ]+\\([^;]*\\) \\{$");
        for (int i = 0; i < lines.length; i++) {
            must(lines[i].length() <= 110, "line " + (i + 1) + " is not too long");
            Matcher m = head.matcher(lines[i]);
            if (m.matches()) {
                int end = i;
                while (end < lines.length && !lines[end].equals(m.group(1) + "}")) {
                    end++;
                }
                must(end - i < MOST_LINES, "the method at line " + (i + 1) + " is short");
            }
        }
    }
}
