import java.io.IOException;
import java.lang.reflect.Constructor;
import java.lang.reflect.Field;
import java.lang.reflect.Method;
import java.lang.reflect.Modifier;
import java.nio.file.Files;
import java.nio.file.Path;
import java.util.Set;
import java.util.TreeSet;
import java.util.regex.Matcher;
import java.util.regex.Pattern;

/** The public face of the document, and what LANGUAGE.md rules out, as far as classes and text show it. */
public final class FaceTest {
    private static final String[] METHODS = {
        "begin(int,int)", "type(long,int)", "law()", "unlaw()", "told(int,int)", "count(int)", "normal(int)",
        "leads(int,int)", "word(int,int)", "plain(int,int,int)", "least(int,int)", "product(int,int,int,int,int)",
        "middle(int)", "other(int)", "fit()", "sum()", "part(int,int)", "reduce()", "put(int,int)", "times(int)",
        "sheet(int,int,int)", "drop(int)", "item(int,int,int,int)", "laws(int,int,int,int)"};
    private static final String[] CONSTANTS = {"BAD", "NOT", "FULL", "NONE", "NULL", "CAST", "INDEX", "SIZE"};
    private static final int[] VALUES = {-1, -2, -3, -4, -11, -12, -13, -14};
    private static final String[] RULED_OUT = {
        "\\bthrow\\b", "\\bthrows\\b", "\\btry\\b", "\\bcatch\\b", "\\bsynchronized\\b", "\\bassert\\b", "->", "::",
        "Exact\\b", "\\bpackage\\b", "\\bprotected\\b", "\\bObject\\b", "\\bThread\\b", "\\bRandom\\b", "\\bSystem\\.(?!arraycopy\\b)",
        "\\bArrays\\.(?!fill\\b|copyOf\\b|copyOfRange\\b)", "\\bMath\\.(?!min\\b|max\\b)", "\"", "\\bstatic\\s*\\{"};
    private static int wrong = 0;

    public static void main(String[] args) throws IOException, IllegalAccessException {
        members();
        constants();
        inside();
        text();
        System.out.println(wrong == 0 ? "the face is the document's" : wrong + " things are not as due");
        if (wrong != 0) {
            System.exit(1);
        }
    }

    private static void say(boolean fine, String what) {
        if (!fine) {
            wrong++;
            System.out.println(what);
        }
    }

    private static String signature(Method m) {
        StringBuilder s = new StringBuilder(m.getName()).append('(');
        for (Class<?> c : m.getParameterTypes()) {
            s.append(s.charAt(s.length() - 1) == '(' ? "" : ",").append(c.getName());
        }
        return s.append(')').toString();
    }

    private static void members() {
        say(Modifier.isPublic(WordLaws.class.getModifiers()) && Modifier.isFinal(WordLaws.class.getModifiers()), "the class is public and final");
        Set<String> open = new TreeSet<>();
        for (Method m : WordLaws.class.getDeclaredMethods()) {
            if (!Modifier.isPrivate(m.getModifiers())) {
                open.add(signature(m));
                say(Modifier.isPublic(m.getModifiers()) && !Modifier.isStatic(m.getModifiers()), m + " is public, not static");
                say(m.getReturnType() == int.class, m + " answers an int");
            }
        }
        say(open.equals(new TreeSet<>(Set.of(METHODS))), "methods: " + open);
        Constructor<?>[] made = WordLaws.class.getDeclaredConstructors();
        say(made.length == 1 && made[0].getParameterCount() == 0 && Modifier.isPublic(made[0].getModifiers()), "one public constructor");
    }

    private static void constants() throws IllegalAccessException {
        Set<String> open = new TreeSet<>();
        for (Field f : WordLaws.class.getDeclaredFields()) {
            if (!Modifier.isPrivate(f.getModifiers())) {
                open.add(f.getName());
            }
            say(!Modifier.isStatic(f.getModifiers()) || Modifier.isFinal(f.getModifiers()), f + ": static fields are final");
        }
        say(open.equals(new TreeSet<>(Set.of(CONSTANTS))), "constants: " + open);
        for (int i = 0; i < CONSTANTS.length; i++) {
            Field f = null;
            for (Field each : WordLaws.class.getDeclaredFields()) {
                f = each.getName().equals(CONSTANTS[i]) ? each : f;
            }
            say(f != null && f.getType() == int.class && f.getInt(null) == VALUES[i], CONSTANTS[i] + " is " + VALUES[i]);
        }
    }

    private static void inside() {
        Set<String> names = new TreeSet<>();
        for (String method : METHODS) {
            names.add(method.substring(0, method.indexOf('(')));
        }
        checkClass(WordLaws.class, names, false);
        Class<?>[] classes = WordLaws.class.getDeclaredClasses();
        say(classes.length <= 11, "at most twelve classes");
        for (Class<?> c : classes) {
            int m = c.getModifiers();
            say(Modifier.isStatic(m) && !Modifier.isPublic(m) && !Modifier.isProtected(m), c + " is static, not open");
            checkClass(c, names, true);
        }
    }

    private static void checkClass(Class<?> c, Set<String> publicNames, boolean nested) {
        int fields = 0;
        for (Field f : c.getDeclaredFields()) {
            fields += Modifier.isStatic(f.getModifiers()) ? 0 : 1;
            say(!Modifier.isStatic(f.getModifiers()) || Modifier.isFinal(f.getModifiers()), f + ": static fields are final");
        }
        say(fields <= 20, c + " has at most twenty fields");
        for (Method m : c.getDeclaredMethods()) {
            say(m.getParameterCount() <= 7, m + " takes at most seven parameters");
            boolean hidden = nested || Modifier.isPrivate(m.getModifiers());
            say(!hidden || !publicNames.contains(m.getName()), m + " bears the name of a public method");
        }
    }

    private static void text() throws IOException {
        String source = Files.readString(Path.of("src/main/java/WordLaws.java"));
        String code = source.replaceAll("(?s)/\\*.*?\\*/", " ").replaceAll("//[^\n]*", " ");
        for (String rule : RULED_OUT) {
            say(!Pattern.compile(rule).matcher(code).find(), "the text has " + rule);
        }
        Matcher imports = Pattern.compile("\\bimport\\s+([^;]+);").matcher(code);
        while (imports.find()) {
            say(imports.group(1).equals("java.util.Arrays"), "import " + imports.group(1));
        }
    }
}
