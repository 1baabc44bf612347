import java.io.IOException;
import java.lang.reflect.Constructor;
import java.lang.reflect.Field;
import java.lang.reflect.Method;
import java.lang.reflect.Modifier;
import java.nio.file.Files;
import java.nio.file.Path;
import java.util.Arrays;
import java.util.Set;
import java.util.TreeSet;
import java.util.regex.Matcher;
import java.util.regex.Pattern;

/** The public face is the document's, and the program's text keeps to those rules of LANGUAGE.md that can be looked up. */
public final class FaceTest {
    private static final String[] FACE = {
        "int past()", "int rule(int,int,int)", "int find(int,int,int)", "int drop(int)", "int undo()",
        "int bet(int,int,int,int,int)", "int off()", "int type(int)", "int clear()", "int read()", "int of(int,int)",
        "int possible(int)", "long weighs(int)", "int heaviest()", "int holds(int,int,int,int)",
        "int settled(int,int,int)", "int chance(int,int,int)", "int ifFound(int,int,int,int,int,int)", "int book(int)",
        "int worst(int)", "int mean()", "int sure(int)", "int worth(int,int)", "int dig(int)", "int doped()",
        "int price(int,int,int,int,int)", "int forget()", "int told(int)", "int days(int,int,int,int,int)",
        "long part(int)", "int image(int)", "int from(int)", "int status(int)", "int count(int)", "long digest()"};
    private static final String PROGRAM = "src/main/java/PastBets.java";
    private static int wrong = 0;

    public static void main(String[] args) throws IOException {
        checkFace();
        for (Class<?> inside : PastBets.class.getDeclaredClasses()) {
            checkInside(inside);
        }
        checkText(withoutComments(Files.readString(Path.of(PROGRAM))));
        System.out.println("FaceTest: " + wrong + " wrong");
        if (wrong != 0) {
            System.exit(1);
        }
    }

    private static void must(boolean so, String what) {
        if (!so) {
            wrong++;
            System.out.println("not so: " + what);
        }
    }

    private static void checkFace() {
        int all = PastBets.class.getModifiers();
        must(Modifier.isPublic(all) && Modifier.isFinal(all), "the class is public and final");
        Set<String> found = new TreeSet<>();
        for (Method m : PastBets.class.getDeclaredMethods()) {
            if (Modifier.isPublic(m.getModifiers()) && !Modifier.isStatic(m.getModifiers())) {
                found.add(shown(m));
            } else {
                must(Modifier.isPrivate(m.getModifiers()), "private is " + m);
                must(Arrays.stream(FACE).noneMatch(f -> f.contains(" " + m.getName() + "(")), "own name of " + m);
            }
        }
        must(found.equals(new TreeSet<>(Arrays.asList(FACE))), "the methods are the document's: " + found);
        Set<String> constants = new TreeSet<>();
        for (Field f : PastBets.class.getDeclaredFields()) {
            if (!Modifier.isPrivate(f.getModifiers())) {
                constants.add(Modifier.toString(f.getModifiers()) + " " + f.getType() + " " + f.getName());
            }
        }
        must(constants.equals(new TreeSet<>(Arrays.asList("public static final int BAD", "public static final int FULL",
            "public static final int NO", "public static final int NONE"))), "the constants are the document's: "
            + constants);
        Constructor<?>[] made = PastBets.class.getDeclaredConstructors();
        must(made.length == 1 && Modifier.isPublic(made[0].getModifiers()) && made[0].getParameterCount() == 0,
            "one public constructor");
    }

    private static String shown(Method m) {
        StringBuilder types = new StringBuilder();
        for (Class<?> type : m.getParameterTypes()) {
            types.append(types.length() == 0 ? "" : ",").append(type.getName());
        }
        return m.getReturnType().getName() + " " + m.getName() + "(" + types + ")";
    }

    private static void checkInside(Class<?> inside) {
        must(Modifier.isStatic(inside.getModifiers()), "static is " + inside);
        must(!Modifier.isPublic(inside.getModifiers()) && !Modifier.isProtected(inside.getModifiers()),
            "private or package-visible is " + inside);
        int fields = 0;
        for (Field f : inside.getDeclaredFields()) {
            boolean shared = Modifier.isStatic(f.getModifiers());
            must(!shared || Modifier.isFinal(f.getModifiers()), "final is " + f);
            fields += shared ? 0 : 1;
        }
        must(fields <= 20, "few fields has " + inside);
        for (Method m : inside.getDeclaredMethods()) {
            must(m.getParameterCount() <= 7, "few parameters has " + m);
            must(Arrays.stream(FACE).noneMatch(f -> f.contains(" " + m.getName() + "(")), "own name of " + m);
        }
    }

    /** Comments may hold any word. */
    private static String withoutComments(String text) {
        return text.replaceAll("(?s)/\\*.*?\\*/", "").replaceAll("//[^\n]*", "");
    }

    private static void checkText(String text) {
        String[] words = {"throw", "throws", "try", "catch", "finally", "synchronized", "assert", "import", "package",
            "native", "volatile", "transient", "Object", "System.out", "double", "float", "hashCode", "toString"};
        for (String word : words) {
            must(!Pattern.compile("\\b" + Pattern.quote(word) + "\\b").matcher(text).find(), "there is no " + word);
        }
        must(!text.contains("->") && !text.contains("::"), "there is no lambda, no method reference");
        must(text.chars().allMatch(c -> c == '\n' || c >= 32 && c < 127), "the text is of plain signs");
        Matcher library = Pattern.compile("\\b(Math|Integer|Long|System|Arrays)\\.(\\w+)").matcher(text);
        Set<String> allowed = Set.of("Math.max", "Math.min", "Math.abs", "Integer.compare", "Integer.bitCount",
            "System.arraycopy");
        while (library.find()) {
            must(allowed.contains(library.group()), "allowed is " + library.group());
        }
        checkCalls(text);
        checkLengths(text);
    }

    /** What is called behind a dot is a method of an own class, or stands in the rules' list of the library. */
    private static void checkCalls(String text) {
        Set<String> known = new TreeSet<>(Set.of("length", "charAt", "max", "min", "abs", "compare", "bitCount",
            "arraycopy"));
        for (Class<?> inside : PastBets.class.getDeclaredClasses()) {
            for (Method m : inside.getDeclaredMethods()) {
                known.add(m.getName());
            }
        }
        Matcher call = Pattern.compile("\\.\\s*(\\w+)\\(").matcher(text);
        while (call.find()) {
            must(known.contains(call.group(1)), "own, or of the library that is allowed, is " + call.group(1));
        }
    }

    private static void checkLengths(String text) {
        String[] lines = text.split("\n");
        int begun = 0;
        for (int i = 0; i < lines.length; i++) {
            if (lines[i].matches(" {4,8}[a-z].*\\) \\{")) {
                begun = i;
            }
            must(i - begun <= 60 || !lines[i].matches(" {4,8}\\}"), "short is the method that ends in line " + i);
        }
    }
}
