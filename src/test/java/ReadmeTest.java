import java.io.IOException;
import java.lang.reflect.Method;
import java.lang.reflect.Modifier;
import java.nio.file.Files;
import java.nio.file.Path;
import java.util.Set;
import java.util.TreeSet;
import java.util.regex.Matcher;
import java.util.regex.Pattern;

/** README.md tells how the class is used: its calls answer what it says, and none of the face is left out. */
public final class ReadmeTest {
    private static final Pattern CALL = Pattern.compile("(?m)^x\\.(\\w+)\\(([^)]*)\\);\\s*// (-?\\d+):");
    private static int wrong = 0;

    public static void main(String[] args) throws IOException, ReflectiveOperationException {
        Set<String> left = publicMethods();
        Matcher calls = CALL.matcher(Files.readString(Path.of("README.md")));
        WordLaws x = new WordLaws();
        while (calls.find()) {
            String call = calls.group(1) + "(" + calls.group(2) + ")";
            due(call, answer(x, calls.group(1), calls.group(2)), Integer.parseInt(calls.group(3)));
            left.remove(calls.group(1));
        }
        if (!left.isEmpty()) {
            wrong++;
            System.out.println("README.md does not show " + left);
        }
        System.out.println(wrong == 0 ? "README.md tells what the class answers" : wrong + " things are not as due");
        if (wrong != 0) {
            System.exit(1);
        }
    }

    private static void due(String call, int got, int want) {
        if (got != want) {
            wrong++;
            System.out.println(call + " answered " + got + ", README.md says " + want);
        }
    }

    private static Set<String> publicMethods() {
        Set<String> names = new TreeSet<>();
        for (Method m : WordLaws.class.getDeclaredMethods()) {
            if (Modifier.isPublic(m.getModifiers())) {
                names.add(m.getName());
            }
        }
        return names;
    }

    private static int answer(WordLaws x, String name, String listed) throws ReflectiveOperationException {
        String[] given = listed.isEmpty() ? new String[0] : listed.split(", ");
        for (Method m : WordLaws.class.getDeclaredMethods()) {
            Class<?>[] types = m.getParameterTypes();
            if (m.getName().equals(name) && Modifier.isPublic(m.getModifiers()) && types.length == given.length) {
                Object[] values = new Object[given.length];
                for (int i = 0; i < given.length; i++) {
                    long v = Long.decode(given[i].replace("L", ""));
                    values[i] = types[i] == long.class ? (Object) v : (Object) (int) v;
                }
                return (int) m.invoke(x, values);
            }
        }
        throw new NoSuchMethodException(name + " of " + given.length);
    }
}
