import java.lang.reflect.Constructor;
import java.lang.reflect.Field;
import java.lang.reflect.Method;
import java.lang.reflect.Modifier;
import java.nio.charset.StandardCharsets;
import java.nio.file.Files;
import java.nio.file.Path;
import java.util.ArrayList;
import java.util.Arrays;
import java.util.List;
import java.util.TreeSet;
import java.util.regex.Matcher;
import java.util.regex.Pattern;

/** The face of the class, and what ../shared/LANGUAGE.md leaves of Java (what a text shows of it). */
public final class LanguageTest {
    private static final String[] METHODS = {
        "int push(int, int) throws IndexOutOfBoundsException, IllegalArgumentException",
        "int endTurn()",
        "int begin()",
        "int set(int) throws IllegalArgumentException",
        "int append(int) throws IllegalArgumentException, IllegalStateException",
        "int clearBuffer()",
        "int firstError()",
        "int lay() throws IllegalArgumentException",
        "int keep(int) throws IllegalArgumentException",
        "int goBack(int) throws IllegalArgumentException, IllegalStateException",
        "int undo() throws IllegalStateException",
        "int coin(int, int) throws IndexOutOfBoundsException, IllegalArgumentException",
        "int bedOf(int, int) throws IndexOutOfBoundsException, IllegalArgumentException",
        "int count(int) throws IllegalArgumentException",
        "int setting()",
        "int ends(int, int, int) throws IndexOutOfBoundsException, IllegalArgumentException",
        "int ifPushed(int, int) throws IndexOutOfBoundsException, IllegalArgumentException",
        "int strengthFor(int, int) throws IndexOutOfBoundsException",
        "int bestPush()",
        "double fullness()",
        "long digest()",
    };

    private static int wrong = 0;

    public static void main(String[] args) throws Exception {
        theClass();
        theMethods();
        theOtherMembers();
        theSource();
        System.out.println(wrong == 0 ? "the face and the language are kept" : wrong + " wrong");
        if (wrong > 0) {
            System.exit(1);
        }
    }

    private static void check(String what, boolean good) {
        if (!good) {
            wrong++;
            System.out.println("not so: " + what);
        }
    }

    private static void theClass() throws Exception {
        check("public and final", Modifier.isPublic(ShoveBeds.class.getModifiers())
                && Modifier.isFinal(ShoveBeds.class.getModifiers()));
        Constructor<?>[] made = ShoveBeds.class.getDeclaredConstructors();
        check("one public constructor without arguments",
                made.length == 1 && Modifier.isPublic(made[0].getModifiers()) && made[0].getParameterCount() == 0);
        Field none = ShoveBeds.class.getDeclaredField("NONE");
        check("NONE is a public constant", none.getType() == int.class
                && none.getModifiers() == (Modifier.PUBLIC | Modifier.STATIC | Modifier.FINAL));
    }

    private static String told(Method m) {
        List<String> takes = new ArrayList<>();
        for (Class<?> c : m.getParameterTypes()) {
            takes.add(c.getSimpleName());
        }
        List<String> throwsAll = new ArrayList<>();
        for (Class<?> c : m.getExceptionTypes()) {
            throwsAll.add(c.getSimpleName());
        }
        String told = m.getReturnType().getSimpleName() + " " + m.getName() + "(" + String.join(", ", takes) + ")";
        return throwsAll.isEmpty() ? told : told + " throws " + String.join(", ", throwsAll);
    }

    private static void theMethods() {
        TreeSet<String> found = new TreeSet<>();
        for (Method m : ShoveBeds.class.getDeclaredMethods()) {
            if (!Modifier.isPrivate(m.getModifiers())) {
                check(m.getName() + " is public and belongs to the object", m.getModifiers() == Modifier.PUBLIC);
                found.add(told(m));
            }
        }
        TreeSet<String> due = new TreeSet<>(Arrays.asList(METHODS));
        check("the face is " + due + ", found is " + found, found.equals(due));
    }

    private static void theOtherMembers() {
        TreeSet<String> publicNames = new TreeSet<>();
        for (Method m : ShoveBeds.class.getDeclaredMethods()) {
            if (Modifier.isPublic(m.getModifiers())) {
                publicNames.add(m.getName());
            }
        }
        List<Class<?>> classes = new ArrayList<>(Arrays.asList(ShoveBeds.class.getDeclaredClasses()));
        check("at most twelve classes", classes.size() < 12);
        for (Class<?> c : classes) {
            check(c + " is private and static", Modifier.isStatic(c.getModifiers()) && Modifier.isPrivate(c.getModifiers()));
        }
        classes.add(ShoveBeds.class);
        for (Class<?> c : classes) {
            for (Method m : c.getDeclaredMethods()) {
                check(m + " bears no public name", Modifier.isPublic(m.getModifiers()) || !publicNames.contains(m.getName()));
                check(m + " takes at most seven", m.getParameterCount() <= 7);
            }
            int fields = 0;
            for (Field f : c.getDeclaredFields()) {
                if (Modifier.isStatic(f.getModifiers())) {
                    check(f + " is final", Modifier.isFinal(f.getModifiers()));
                    check(f + " is of a constant's type", f.getType() == int.class || f.getType() == long.class);
                } else {
                    fields++;
                }
                check(f + " is private", Modifier.isPrivate(f.getModifiers()) || f.getName().equals("NONE"));
            }
            check(c + " has at most twenty fields", fields <= 20);
        }
    }

    private static void theSource() throws Exception {
        String source = Files.readString(Path.of("src/main/java/ShoveBeds.java"), StandardCharsets.US_ASCII);
        String code = source.replaceAll("(?s)/\\*.*?\\*/", "").replaceAll("//[^\n]*", "");
        String plain = code.replaceAll("\"[^\"\n]*\"", "\"\"");
        for (String word : new String[] {"import", "package", "catch", "try", "finally", "synchronized", "assert",
            "Double", "Float", "Object", "System.out", "equals", "hashCode", "toString", "instanceof"}) {
            check("no " + word, !Pattern.compile("\\b" + Pattern.quote(word) + "\\b").matcher(plain).find());
        }
        check("no exact arithmetic", !plain.contains("Exact("));
        check("no lambda", !plain.contains("->"));
        check("no method reference", !plain.contains("::"));
        check("no text is joined by +", !Pattern.compile("\"\"\\s*\\+|\\+\\s*\"\"").matcher(plain).find());
        Matcher calls = Pattern.compile("\\b([A-Z][A-Za-z]*)\\.([a-z][A-Za-z]*)\\(").matcher(plain);
        while (calls.find()) {
            String call = calls.group(1) + "." + calls.group(2);
            check(call + " is of the library",
                    Arrays.asList("Math.min", "Math.abs", "Math.floorMod", "System.arraycopy").contains(call));
        }
        methodsAreShort(code);
    }

    private static void methodsAreShort(String code) {
        int length = 0;
        for (String line : code.split("\n")) {
            length = line.isBlank() || line.matches("\\s*private (static )?(final )?class .*") ? 0 : length + 1;
            check("a method is short: " + line, length <= 60);
        }
    }
}
