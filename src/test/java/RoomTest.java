import java.io.IOException;
import java.lang.reflect.Array;
import java.lang.reflect.Field;
import java.lang.reflect.Modifier;
import java.nio.file.Files;
import java.nio.file.Path;
import java.util.IdentityHashMap;
import java.util.Map;
import java.util.regex.Pattern;

/** All calls of one run live in one room: an object is small, and calls make nothing but what they throw. */
public final class RoomTest {
    private static final int MOST_OBJECTS = 100;
    private static final int MOST_ELEMENTS = 8000;
    private static final Pattern MAKES = Pattern.compile("\\bnew\\b|= \\{");
    private static final Pattern MAY_MAKE = Pattern.compile("^ {4,8}private (static )?final .*;$|^ {12}(cells|sizes) = new int\\[.*;$"
        + "|^ {12}throw new NoSuchElementException\\(\\);$");

    private int objects;
    private int elements;
    private final Map<Object, Boolean> seen = new IdentityHashMap<>();

    private RoomTest() {
    }

    public static void main(String[] args) throws IOException, IllegalAccessException {
        FourAPole fresh = new FourAPole();
        RoomTest before = counted(fresh);
        Check.due("objects " + before.objects, before.objects <= MOST_OBJECTS, true);
        Check.due("elements " + before.elements, before.elements <= MOST_ELEMENTS, true);
        FourAPole used = Edge.full();
        used.curve(0, 9999);
        used.built(0, 5000, 3);
        Check.text(used, "012").game();
        RoomTest after = counted(used);
        Check.due("objects of one that was used", after.objects, before.objects);
        Check.due("elements of one that was used", after.elements, before.elements);
        onlyConstructorsMake();
        Check.end("RoomTest");
    }

    private static void onlyConstructorsMake() throws IOException {
        int number = 0;
        for (String line : Files.readAllLines(Path.of("src/main/java/FourAPole.java"))) {
            number++;
            boolean makes = !line.strip().startsWith("/") && MAKES.matcher(line).find();
            Check.due("line " + number + " makes an object in a call", makes && !MAY_MAKE.matcher(line).find(), false);
        }
    }

    private static RoomTest counted(FourAPole x) throws IllegalAccessException {
        RoomTest room = new RoomTest();
        room.count(x);
        return room;
    }

    private void count(Object o) throws IllegalAccessException {
        if (o == null || seen.put(o, true) != null) {
            return;
        }
        objects++;
        if (o.getClass().isArray()) {
            elements += Array.getLength(o);
            return;
        }
        for (Field f : o.getClass().getDeclaredFields()) {
            if (!Modifier.isStatic(f.getModifiers())) {
                elements++;
                f.setAccessible(true);
                if (!f.getType().isPrimitive()) {
                    count(f.get(o));
                }
            }
        }
    }
}
