import java.lang.reflect.Field;
import java.lang.reflect.Method;
import java.lang.reflect.Modifier;
import java.nio.file.Files;
import java.nio.file.Path;
import java.util.ArrayList;
import java.util.List;
import java.util.Set;
import java.util.TreeSet;

// What of ../shared/LANGUAGE.md a program can look at: the face, and words that must not stand there.
public final class RulesTest {
    private static final Set<String> FACE = new TreeSet<>(List.of(
        "int heading(int, int, int, int, int)", "int strike(int)", "int headingOf(int, int)", "int code(int)",
        "int good(int, int, int, int, int, int)", "int work(int, int, int)", "int goodOf(int, int)", "int part(int, int)",
        "int points(int, int)", "int fit(int, int)", "int fitAgain(int)", "int why(int)", "int favour(int, int)",
        "int coins(int)", "int enter(int)", "int export(int)", "int days(int)", "int would(int, int)", "int cheapest(int)",
        "int ranked(int)", "int append(int)", "int run()", "int tell(int)", "int tellHeading(int)", "int character(int)",
        "int reason(boolean)", "int account(int)", "int isBalanced()", "double meanDuty()", "float backShare()", "int undo()",
        "int save()", "int restore()"));
    private static final Set<String> CONSTANTS = new TreeSet<>(List.of("BAD", "FULL", "NONE", "NOTHING", "REFUSED"));
    private static final List<String> FORBIDDEN = List.of("import ", "package ", "catch", "throw", "finally", "->", "::",
        "synchronized", "assert", "Exact(", "System.out", "instanceof", "new Object", "Integer.", "String.", "record ", "\" +",
        "+ \"", "ordinal", "hashCode", "toString");

    private static int wrong = 0;

    private static void check(boolean isRight, String what) {
        if (!isRight) {
            wrong++;
            System.out.println("not so: " + what);
        }
    }

    private static String headOf(Method method) {
        List<String> types = new ArrayList<>();
        for (Class<?> type : method.getParameterTypes()) {
            types.add(type.getName());
        }
        return method.getReturnType().getName() + " " + method.getName() + "(" + String.join(", ", types) + ")";
    }

    private static void checkFace() {
        Class<?> face = SilkTariff.class;
        Set<String> heads = new TreeSet<>();
        Set<String> names = new TreeSet<>();
        for (Method method : face.getDeclaredMethods()) {
            if (!Modifier.isPrivate(method.getModifiers())) {
                check(Modifier.isPublic(method.getModifiers()) && !Modifier.isStatic(method.getModifiers()), method + " is public");
                heads.add(headOf(method));
                names.add(method.getName());
            }
        }
        check(heads.equals(FACE), "the methods of the face are " + heads);
        Set<String> constants = new TreeSet<>();
        for (Field field : face.getDeclaredFields()) {
            if (!Modifier.isPrivate(field.getModifiers())) {
                check(field.getModifiers() == (Modifier.PUBLIC | Modifier.STATIC | Modifier.FINAL), field + " is a constant");
                constants.add(field.getName());
            }
        }
        check(constants.equals(CONSTANTS), "the constants of the face are " + constants);
        check(face.getDeclaredConstructors().length == 1 && face.getConstructors().length == 1, "one public constructor");
        check(face.getModifiers() == (Modifier.PUBLIC | Modifier.FINAL), "the class is public and final");
        checkClass(face, names);
        for (Class<?> inside : face.getDeclaredClasses()) {
            check(Modifier.isStatic(inside.getModifiers()) && !Modifier.isPublic(inside.getModifiers()), inside + " is static");
            checkClass(inside, names);
        }
        check(face.getDeclaredClasses().length < 12, "twelve classes at most");
    }

    private static void checkClass(Class<?> type, Set<String> faceNames) {
        int fields = 0;
        for (Field field : type.getDeclaredFields()) {
            boolean isStatic = Modifier.isStatic(field.getModifiers());
            check(!isStatic || Modifier.isFinal(field.getModifiers()), field + " is final");
            fields += isStatic ? 0 : 1;
        }
        check(fields <= 20, type + " has twenty fields at most");
        for (Method method : type.getDeclaredMethods()) {
            check(method.getParameterCount() <= 7, method + " takes seven parameters at most");
            check(Modifier.isPublic(method.getModifiers()) || !faceNames.contains(method.getName()), method + " has a name of its own");
        }
    }

    private static void checkSource() throws Exception {
        List<String> lines = Files.readAllLines(Path.of("src/main/java/SilkTariff.java"));
        int start = 0;
        for (int number = 0; number < lines.size(); number++) {
            String line = lines.get(number);
            String code = line.strip();
            if (!code.startsWith("//") && !code.startsWith("*") && !code.startsWith("/*")) {
                for (String word : FORBIDDEN) {
                    check(!code.contains(word), "line " + (number + 1) + " does without '" + word + "'");
                }
            }
            check(line.chars().allMatch(sign -> sign >= 32 && sign < 127), "line " + (number + 1) + " has plain signs alone");
            if (line.matches("( {4}| {8})\\S.*\\) \\{")) {
                start = number;
            } else if (line.matches("( {4}| {8})\\}")) {
                check(start == 0 || number - start <= 60, "the method at line " + (start + 1) + " is short");
                start = 0;
            }
        }
    }

    public static void main(String[] args) throws Exception {
        checkFace();
        checkSource();
        System.out.println(wrong == 0 ? "the rules are kept" : wrong + " rules are not kept");
        if (wrong != 0) {
            System.exit(1);
        }
    }
}
