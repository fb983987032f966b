import java.lang.reflect.Constructor;
import java.lang.reflect.Field;
import java.lang.reflect.Method;
import java.lang.reflect.Modifier;
import java.util.Set;
import java.util.TreeSet;

/** The public face is the document's, and nothing else can be seen. */
public final class FaceTest {
    private static final String FACE = "again(int):boolean allow(int):int beat(int):int built(int,int,int):int buy():int "
        + "calm(int,int):int count(int):int curve(int,int):int cuts(int,int):int end(int):boolean fair(int):int "
        + "falls(int,int):int fear(int,int):int fence(int,int):int game():int horse(int,int):int horses():int "
        + "jump(int,int,int):int keep(int):boolean last(int):int law(int,int):int look(int,int,int):int lot():int "
        + "mean(int,int):int move(int,int):int parts():int place(int,int):int plan():int poles(int,int,int):int prizes():int "
        + "quick(int,int):int raise(int,int):int ride(int,int,int,int):int riders(int,int):int ring():int round(int,int):int "
        + "row(int):long rule():int share(int):int sheet(int,int,int,int):int show():int sign(int):int strides(int,int):int "
        + "sure(int):int table():int through(int,int):int told(int,int,int,int):int undo():int wind(int,int,int,int):int";

    private FaceTest() {
    }

    public static void main(String[] args) {
        Set<String> want = new TreeSet<>(Set.of(FACE.split(" ")));
        Set<String> got = new TreeSet<>();
        Set<String> names = new TreeSet<>();
        for (Method m : FourAPole.class.getDeclaredMethods()) {
            if (Modifier.isPublic(m.getModifiers())) {
                got.add(described(m));
                names.add(m.getName());
            } else {
                Check.due(m + " is private", Modifier.isPrivate(m.getModifiers()), true);
            }
        }
        Check.due("the face is " + got, got.equals(want), true);
        privateNames(FourAPole.class, names);
        for (Class<?> inside : FourAPole.class.getDeclaredClasses()) {
            Check.due(inside + " is static", Modifier.isStatic(inside.getModifiers()), true);
            Check.due(inside + " can't be seen", Modifier.isPublic(inside.getModifiers()), false);
            privateNames(inside, names);
        }
        for (Field f : FourAPole.class.getDeclaredFields()) {
            boolean none = f.getName().equals("NONE");
            Check.due(f + " is seen", Modifier.isPublic(f.getModifiers()), none);
            Check.due(f + " is private", Modifier.isPrivate(f.getModifiers()), !none);
            Check.due(f + " is final", Modifier.isFinal(f.getModifiers()), true);
        }
        Constructor<?>[] makers = FourAPole.class.getDeclaredConstructors();
        Check.due("constructors", makers.length, 1);
        Check.due("its parameters", makers[0].getParameterCount(), 0);
        Check.due("the constructor is public", Modifier.isPublic(makers[0].getModifiers()), true);
        Check.due("the class is final", Modifier.isFinal(FourAPole.class.getModifiers()), true);
        Check.end("FaceTest");
    }

    /** No method that is not of the face bears a name of it. */
    private static void privateNames(Class<?> type, Set<String> names) {
        for (Method m : type.getDeclaredMethods()) {
            if (!Modifier.isPublic(m.getModifiers())) {
                Check.due(m + " bears a name of the face", names.contains(m.getName()), false);
            }
        }
    }

    private static String described(Method m) {
        StringBuilder s = new StringBuilder(m.getName()).append('(');
        for (int i = 0; i < m.getParameterCount(); i++) {
            s.append(i > 0 ? "," : "").append(m.getParameterTypes()[i].getName());
        }
        return s.append("):").append(m.getReturnType().getName()).toString();
    }
}
