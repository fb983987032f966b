import java.io.IOException;
import java.lang.reflect.Constructor;
import java.lang.reflect.Field;
import java.lang.reflect.Method;
import java.lang.reflect.Modifier;
import java.nio.file.Files;
import java.nio.file.Path;
import java.util.Set;
import java.util.TreeSet;
import java.util.regex.Matcher;
import java.util.regex.Pattern;

/** The public face is the document's, and nothing else can be seen; run from the project's folder. */
public final class FaceTest {
    private static final Path DOCUMENT = Path.of("../shared/DOC.md");
    private static final Pattern PROMISED = Pattern.compile("    public (\\w+) (\\w+)\\((.*)\\)( throws \\w+)?;");
    private static final int CALLS = 49;

    private FaceTest() {
    }

    public static void main(String[] args) throws IOException {
        Set<String> want = promised();
        Set<String> got = new TreeSet<>();
        Set<String> names = new TreeSet<>();
        for (Method m : FourAPole.class.getDeclaredMethods()) {
            if (Modifier.isPublic(m.getModifiers())) {
                got.add(described(m));
                names.add(m.getName());
                Check.due(m + " is static", Modifier.isStatic(m.getModifiers()), false);
            } else {
                Check.due(m + " is private", Modifier.isPrivate(m.getModifiers()), true);
            }
        }
        Check.due("calls of the document's face", want.size(), CALLS);
        Check.due("the face is " + got, got.equals(want), true);
        Check.due("NONE", FourAPole.NONE, -1);
        privateNames(FourAPole.class, names);
        for (Class<?> inside : FourAPole.class.getDeclaredClasses()) {
            Check.due(inside + " is static", Modifier.isStatic(inside.getModifiers()), true);
            Check.due(inside + " can't be seen", Modifier.isPublic(inside.getModifiers()), false);
            privateNames(inside, names);
        }
        for (Field f : FourAPole.class.getDeclaredFields()) {
            boolean none = f.getName().equals("NONE");
            Check.due(f + " is seen", Modifier.isPublic(f.getModifiers()), none);
            Check.due(f + " is private", Modifier.isPrivate(f.getModifiers()), !none);
            Check.due(f + " is final", Modifier.isFinal(f.getModifiers()), true);
            Check.due(f + " is static", Modifier.isStatic(f.getModifiers()), none || f.getName().equals(f.getName().toUpperCase()));
        }
        Constructor<?>[] makers = FourAPole.class.getDeclaredConstructors();
        Check.due("constructors", makers.length, 1);
        Check.due("its parameters", makers[0].getParameterCount(), 0);
        Check.due("the constructor is public", Modifier.isPublic(makers[0].getModifiers()), true);
        Check.due("the class is final", Modifier.isFinal(FourAPole.class.getModifiers()), true);
        Check.end("FaceTest");
    }

    /** No method that is not of the face bears a name of it. */
    private static void privateNames(Class<?> type, Set<String> names) {
        for (Method m : type.getDeclaredMethods()) {
            if (!Modifier.isPublic(m.getModifiers())) {
                Check.due(m + " bears a name of the face", names.contains(m.getName()), false);
            }
        }
    }

    /** What the document's page of code says of the class's calls, as described() tells them. */
    private static Set<String> promised() throws IOException {
        Set<String> face = new TreeSet<>();
        for (String line : Files.readAllLines(DOCUMENT)) {
            Matcher call = PROMISED.matcher(line);
            if (call.matches()) {
                String takes = call.group(3).replaceAll("(\\w+) \\w+", "$1").replace(" ", "");
                String thrown = call.group(4) == null ? "" : call.group(4);
                face.add(call.group(2) + "(" + takes + "):" + call.group(1) + thrown);
            }
        }
        return face;
    }

    private static String described(Method m) {
        StringBuilder s = new StringBuilder(m.getName()).append('(');
        for (int i = 0; i < m.getParameterCount(); i++) {
            s.append(i > 0 ? "," : "").append(m.getParameterTypes()[i].getName());
        }
        s.append("):").append(m.getReturnType().getName());
        for (Class<?> thrown : m.getExceptionTypes()) {
            s.append(" throws ").append(thrown.getSimpleName());
        }
        return s.toString();
    }
}
