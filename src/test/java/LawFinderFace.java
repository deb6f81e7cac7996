import java.lang.reflect.Constructor;
import java.lang.reflect.Field;
import java.lang.reflect.Method;
import java.lang.reflect.Modifier;
import java.nio.file.Files;
import java.nio.file.Path;
import java.util.ArrayList;
import java.util.List;
import java.util.Set;
import java.util.TreeSet;
import java.util.regex.Matcher;
import java.util.regex.Pattern;

/** The public face is the document's, and the file keeps to those rules of LANGUAGE.md that a test can see. */
public final class LawFinderFace {
    private static final String[] FACE = {
        "boolean table(int)", "boolean put(int,int,int,int,int,int,int)", "boolean change(int,int,int)",
        "boolean strike(int)", "boolean price(int,int)", "boolean swap(int,int)", "int at(int,int)",
        "int row(int,int)", "int between(int,int)", "int pairs(int)", "int kinds()", "int broken(int)",
        "int breaker(int,int,int)", "int laws(int,int)", "int law(int,int,int)", "int sort(int)",
        "int least(int)", "int said(int,int)", "int settles(int)", "int keys()", "int key(int)",
        "boolean tell(int,int)", "int told(int)", "int mend(int)", "boolean undo()",
    };
    private static final String[] BARRED = {
        "\\bthrow\\b", "\\btry\\b", "\\bcatch\\b", "\\bsynchronized\\b", "\\bassert\\b", "->", "::",
        "\\bpackage\\b", "\\bThread\\b", "\\bRandom\\b", "currentTimeMillis", "nanoTime", "Exact\\(",
        "\\bstatic\\s*\\{", "\\bprotected\\b", "\\bdouble\\b", "\\bfloat\\b",
    };
    /** Rule 4, as far as the program needs it. */
    private static final Set<String> LIBRARY = Set.of("Math.min", "Math.max", "Integer.bitCount", "System.arraycopy",
        "Arrays.fill");
    private static int wrong = 0;

    private static void check(boolean good, String what) {
        if (!good) {
            wrong++;
            System.out.println("wrong: " + what);
        }
    }

    private static String written(Method m) {
        List<String> types = new ArrayList<>();
        for (Class<?> type : m.getParameterTypes()) {
            types.add(type.getName());
        }
        return m.getReturnType().getName() + " " + m.getName() + "(" + String.join(",", types) + ")";
    }

    private static void methods() {
        Set<String> due = new TreeSet<>(List.of(FACE));
        Set<String> names = new TreeSet<>();
        Set<String> got = new TreeSet<>();
        for (Method m : LawFinder.class.getDeclaredMethods()) {
            if (!Modifier.isPrivate(m.getModifiers()) && !m.isSynthetic()) {
                got.add(written(m));
                names.add(m.getName());
                check(m.getModifiers() == Modifier.PUBLIC, "modifiers of " + written(m));
            }
        }
        check(got.equals(due), "methods are " + got);
        barredNames(LawFinder.class, names, true);
        for (Class<?> inside : LawFinder.class.getDeclaredClasses()) {
            check(Modifier.isStatic(inside.getModifiers()), inside + " is not static");
            barredNames(inside, names, false);
        }
    }

    private static void barredNames(Class<?> where, Set<String> names, boolean onlyPrivate) {
        for (Method m : where.getDeclaredMethods()) {
            if (!onlyPrivate || Modifier.isPrivate(m.getModifiers())) {
                check(!names.contains(m.getName()), where + " has a method of a public one's name: " + m.getName());
            }
        }
    }

    private static void members() {
        check(LawFinder.class.getModifiers() == (Modifier.PUBLIC | Modifier.FINAL), "the class is public and final");
        Constructor<?>[] made = LawFinder.class.getDeclaredConstructors();
        check(made.length == 1 && made[0].getParameterCount() == 0 && Modifier.isPublic(made[0].getModifiers()),
                "one public constructor without parameters");
        for (Field f : LawFinder.class.getDeclaredFields()) {
            boolean isNone = f.getName().equals("NONE");
            check(isNone == !Modifier.isPrivate(f.getModifiers()), "field " + f);
            check(!isNone || f.getModifiers() == (Modifier.PUBLIC | Modifier.STATIC | Modifier.FINAL), "field " + f);
        }
        check(LawFinder.NONE == -1, "NONE is -1");
    }

    private static void text() throws Exception {
        String code = Files.readString(Path.of("src/main/java/LawFinder.java"))
                .replaceAll("(?s)/\\*.*?\\*/", " ").replaceAll("//[^\n]*", " ");
        for (String barred : BARRED) {
            check(!Pattern.compile(barred).matcher(code).find(), "the file has " + barred);
        }
        library(code);
    }

    private static void library(String code) {
        Matcher imported = Pattern.compile("\\bimport\\s+([^;]*);").matcher(code);
        while (imported.find()) {
            check(imported.group(1).equals("java.util.Arrays"), "the file imports " + imported.group(1));
        }
        Matcher called = Pattern.compile("\\b(Math|Integer|Long|System|Arrays|String|List|Character)\\.\\w+").matcher(code);
        while (called.find()) {
            check(LIBRARY.contains(called.group()), "the file calls " + called.group());
        }
    }

    public static void main(String[] args) throws Exception {
        methods();
        members();
        text();
        System.out.println(wrong == 0 ? "the face is as due" : wrong + " things are not as due");
        if (wrong != 0) {
            System.exit(1);
        }
    }
}
