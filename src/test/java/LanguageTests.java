import java.lang.management.ManagementFactory;
import java.lang.reflect.Constructor;
import java.lang.reflect.Field;
import java.lang.reflect.Member;
import java.lang.reflect.Method;
import java.lang.reflect.Modifier;
import java.nio.charset.StandardCharsets;
import java.nio.file.Files;
import java.nio.file.Path;
import java.util.ArrayList;
import java.util.List;
import java.util.Set;
import java.util.TreeSet;
import java.util.regex.Matcher;
import java.util.regex.Pattern;

/** Looks at the program itself: its face, the rules of LANGUAGE.md that a test can see, and its room. */
public final class LanguageTests {
    private static final Checks CHECKS = new Checks("LanguageTests");
    private static final int MOST_LINES_OF_METHOD = 60;
    private static final int MOST_PARAMETERS = 7;
    private static final int MOST_CLASSES = 12;
    private static final int MOST_FIELDS = 20;
    private static final long MOST_BYTES_OF_OBJECT = 40_000;

    private static final Set<String> METHODS = new TreeSet<>(List.of(
            "int paint(int,int,int)", "int setRule(int)", "int lay(int,int,int)", "int take(int)",
            "int turn(int,int)", "int move(int,int)", "int shift(int,int)", "int fill(int)",
            "int type(char)", "int clearText()", "int perform()", "int undo()", "int keep()",
            "int restore()", "int colour(int,int)", "int cell(int,int)", "int cross(int,int)",
            "int total(int)", "int reason(int,int,int)", "int places(int)", "int bestPlace(int,int)",
            "int shifts(int)", "int halfTurn()"));
    private static final Set<String> CONSTANTS = new TreeSet<>(List.of(
            "UNKNOWN", "OUT_OF_RANGE", "FULL", "NOT_POSSIBLE", "NONE"));

    /** Words and signs that the rules leave out. */
    private static final List<String> LEFT_OUT = List.of(
            "\\bthrow\\b", "\\bthrows\\b", "\\btry\\b", "\\bcatch\\b", "\\bfinally\\b", "\\bsynchronized\\b",
            "\\bassert\\b", "\\bimport\\b", "\\bpackage\\b", "\\bnative\\b", "\\bvolatile\\b", "\\bvar\\b",
            "\\bObject\\b", "\\bSystem\\.(?!arraycopy\\b)", "\\bThread\\b", "\\bRandom\\b", "->", "::",
            "\\w+Exact\\b", "\\bhashCode\\b", "\\bstatic\\s*\\{", "\\bprotected\\b", "@");

    public static void main(String[] args) throws Exception {
        face();
        classesInside();
        text(Files.readString(Path.of("src/main/java/CarpetCrosses.java"), StandardCharsets.UTF_8));
        room();
        CHECKS.end();
    }

    private static void face() {
        Class<?> program = CarpetCrosses.class;
        CHECKS.that("the class is public and final",
                Modifier.isPublic(program.getModifiers()) && Modifier.isFinal(program.getModifiers()));
        Set<String> methods = new TreeSet<>();
        for (Method method : program.getDeclaredMethods()) {
            if (Modifier.isPublic(method.getModifiers())) {
                methods.add(signature(method));
            }
            mustBePublicOrPrivate(method);
        }
        CHECKS.that("the public methods are " + methods, methods.equals(METHODS));
        Set<String> constants = new TreeSet<>();
        for (Field field : program.getDeclaredFields()) {
            if (Modifier.isPublic(field.getModifiers())) {
                constants.add(field.getName());
            }
            mustBePublicOrPrivate(field);
        }
        CHECKS.that("the public constants are " + constants, constants.equals(CONSTANTS));
        Constructor<?>[] constructors = program.getDeclaredConstructors();
        CHECKS.that("there is one constructor, public, without parameters", constructors.length == 1
                && Modifier.isPublic(constructors[0].getModifiers()) && constructors[0].getParameterCount() == 0);
    }

    private static String signature(Method method) {
        List<String> types = new ArrayList<>();
        for (Class<?> type : method.getParameterTypes()) {
            types.add(type.getSimpleName());
        }
        return method.getReturnType().getSimpleName() + " " + method.getName() + "(" + String.join(",", types) + ")";
    }

    private static void mustBePublicOrPrivate(Member member) {
        int modifiers = member.getModifiers();
        CHECKS.that(member + " is neither public nor private",
                Modifier.isPublic(modifiers) || Modifier.isPrivate(modifiers));
    }

    private static void classesInside() {
        Class<?>[] inside = CarpetCrosses.class.getDeclaredClasses();
        CHECKS.that("too many classes", inside.length < MOST_CLASSES);
        mustBeSmall(CarpetCrosses.class);
        Set<String> publicNames = new TreeSet<>();
        METHODS.forEach(method -> publicNames.add(method.substring(4, method.indexOf('('))));
        for (Class<?> type : inside) {
            CHECKS.that(type + " is not static", Modifier.isStatic(type.getModifiers()));
            CHECKS.that(type + " is not private", Modifier.isPrivate(type.getModifiers()));
            CHECKS.that(type + " has classes inside", type.getDeclaredClasses().length == 0);
            mustBeSmall(type);
            for (Method method : type.getDeclaredMethods()) {
                CHECKS.that(method + " bears a public name", !publicNames.contains(method.getName()));
            }
        }
    }

    private static void mustBeSmall(Class<?> type) {
        int fields = 0;
        for (Field field : type.getDeclaredFields()) {
            boolean isStatic = Modifier.isStatic(field.getModifiers());
            fields += isStatic ? 0 : 1;
            CHECKS.that(field + " is static and not a constant",
                    !isStatic || Modifier.isFinal(field.getModifiers()) && field.getType().isPrimitive());
        }
        CHECKS.that(type + " has too many fields", fields <= MOST_FIELDS);
        for (Method method : type.getDeclaredMethods()) {
            CHECKS.that(method + " has too many parameters", method.getParameterCount() <= MOST_PARAMETERS);
        }
    }

    private static void text(String program) {
        String code = program.replaceAll("(?s)/\\*.*?\\*/", "").replaceAll("//[^\n]*", "")
                .replaceAll("'[^'\n]'", "' '");
        for (String word : LEFT_OUT) {
            Matcher matcher = Pattern.compile(word).matcher(code);
            CHECKS.that("the program has " + word, !matcher.find());
        }
        CHECKS.that("the program has a sign above 127", code.chars().allMatch(sign -> sign < 128));
        CHECKS.that("the program has a text", code.indexOf('"') < 0);
        methodsMustBeShort(program.split("\n"));
    }

    /** A method begins with a type or a name of a class, and ends with a "}" as far to the left. */
    private static void methodsMustBeShort(String[] lines) {
        Pattern begin = Pattern.compile("( {4}| {8})(?:(?:public|private|static|final) )*"
                + "(?:(?:int|boolean|char|void|int\\[\\]) \\w+|[A-Z]\\w+)\\(.*\\) \\{");
        int methods = 0;
        for (int i = 0; i < lines.length; i++) {
            Matcher matcher = begin.matcher(lines[i]);
            if (matcher.matches()) {
                methods++;
                int end = i;
                while (end < lines.length && !lines[end].equals(matcher.group(1) + "}")) {
                    end++;
                }
                CHECKS.that("line " + (i + 1) + " begins a method that is too long",
                        end - i < MOST_LINES_OF_METHOD);
            }
        }
        CHECKS.that("only " + methods + " methods were found", methods > 90);
    }

    /** All calls of a run live in one room, so that no call makes an object. */
    private static void room() {
        CarpetCrosses first = new CarpetCrosses();
        callAll(first);
        long start = bytesMade();
        CarpetCrosses x = new CarpetCrosses();
        long made = bytesMade();
        for (int i = 0; i < 10; i++) {
            callAll(x);
        }
        long end = bytesMade();
        CHECKS.that("an object takes " + (made - start) + " bytes", made - start < MOST_BYTES_OF_OBJECT);
        CHECKS.that("calls take " + (end - made) + " bytes", end - made < 2_000);
    }

    private static long bytesMade() {
        return ((com.sun.management.ThreadMXBean) ManagementFactory.getThreadMXBean())
                .getCurrentThreadAllocatedBytes();
    }

    private static void callAll(CarpetCrosses x) {
        x.setRule(2);
        x.paint(0, 0, x.colour(0, 0) == 3 ? 4 : 3);
        x.lay(1, 2, 33);
        x.fill(0);
        x.turn(0, 1);
        x.move(0, 1);
        x.shift(1, 1);
        x.clearText();
        x.type('k');
        x.perform();
        x.type('0');
        x.type('0');
        x.type('1');
        x.type('2');
        x.type('3');
        x.perform();
        x.keep();
        x.restore();
        for (int what = 0; what < 11; what++) {
            x.cell(20, what);
            x.cross(0, what);
            x.total(what);
            x.bestPlace(0, what);
            x.shifts(what);
        }
        x.reason(0, 0, 0);
        x.places(0);
        x.halfTurn();
        x.take(0);
        x.undo();
    }
}
