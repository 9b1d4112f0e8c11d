import java.io.IOException;
import java.lang.reflect.Array;
import java.lang.reflect.Field;
import java.lang.reflect.Modifier;
import java.nio.file.Files;
import java.nio.file.Path;
import java.util.ArrayDeque;
import java.util.Collections;
import java.util.Deque;
import java.util.IdentityHashMap;
import java.util.Set;

/** All calls of one run live in one room: a new object takes little of it, and no call takes more. */
public final class RoomTest {
    private static final int MOST_OBJECTS = 200;
    private static final int MOST_ELEMENTS = 4000;
    private static final String MAKES_ROW = "\\s*(private )?final \\S+ \\S+ = new \\w+(\\(\\)|\\[.*\\]);";
    private static final String SET_LENGTH = ".* = new \\w+\\[[A-Z_0-9 *+-]+\\];";
    private static final String THROWS = "\\s*throw new \\w+\\(\"[a-z ]+\"\\);";
    private static final String CONSTRUCTS = " {4,8}(public )?[A-Z]\\w*\\(.*\\) \\{";

    private int objects;
    private int elements;

    private RoomTest(Object of) throws IllegalAccessException {
        Set<Object> seen = Collections.newSetFromMap(new IdentityHashMap<>());
        Deque<Object> open = new ArrayDeque<>();
        open.add(of);
        while (!open.isEmpty()) {
            Object one = open.pop();
            if (one instanceof String || !seen.add(one)) {
                continue;
            }
            objects++;
            if (one.getClass().isArray()) {
                elements += Array.getLength(one);
                Check.yes("a row of numbers: " + one, one.getClass().getComponentType().isPrimitive());
            } else {
                addFields(one, open);
            }
        }
    }

    public static void main(String[] args) throws IllegalAccessException, IOException {
        NoseCensus x = new NoseCensus();
        RoomTest first = new RoomTest(x);
        Check.yes("objects of a new one: " + first.objects, first.objects <= MOST_OBJECTS);
        Check.yes("fields and elements of a new one: " + first.elements, first.elements <= MOST_ELEMENTS);
        Check.same("text", Check.told(x, Check.ROW), 12);
        askAll(x);
        Check.same("text with a fault", Check.told(x, "house a;house a;"), NoseCensus.NONE);
        RoomTest last = new RoomTest(x);
        Check.same("objects behind all calls", last.objects, first.objects);
        Check.same("fields and elements behind all calls", last.elements, first.elements);
        madeInConstructorsAlone();
        Check.end();
    }

    private void addFields(Object one, Deque<Object> open) throws IllegalAccessException {
        for (Field field : one.getClass().getDeclaredFields()) {
            if (Modifier.isStatic(field.getModifiers())) {
                continue;
            }
            elements++;
            if (!field.getType().isPrimitive()) {
                field.setAccessible(true);
                Object held = field.get(one);
                Check.yes("never null: " + field, held != null);
                if (held != null) {
                    open.add(held);
                }
            }
        }
    }

    private static void askAll(NoseCensus x) {
        x.keep();
        for (int i = 0; i < 40; i++) {
            x.move(i % 3, i % 2);
            x.wash(i % 3, i % 2 == 0);
            x.hang(i % 3, i % 8, 5);
            x.cook(i % 3, i);
            x.send(i % 2, i % 3);
            x.blow(i);
            x.note(i % 9, i % 3, i % 4, true);
            x.out(i % 5);
            x.sort(i % 3);
            x.chance(i, 30, 50);
            askInHouse(x, i % 3, i % 2);
            x.undo();
        }
        x.years(99);
        x.back();
    }

    private static void askInHouse(NoseCensus x, int house, int dog) {
        x.person(house, 4);
        x.house(house, 3);
        x.air(house, 1);
        x.smells(dog, house);
        x.law(1, dog, 1);
        x.walk(dog, 12, 2);
        x.washed(house, dog, 1);
        x.who(house, dog);
        x.set(house, dog, 3);
        x.share(house, 1, 1);
        x.ghosts();
        x.wrong();
        x.hide(house, dog);
        x.keeps(house);
        x.rests(house, dog);
        x.rest(house, dog, 1);
        x.seats(99, house);
        x.tried(2, house);
        x.count(8);
    }

    /** Each line with "new" is a field that is made with its object, a throw, or stands in a constructor. */
    private static void madeInConstructorsAlone() throws IOException {
        String constructor = "";
        int found = 0;
        for (String line : Files.readAllLines(Path.of("src/main/java/NoseCensus.java"))) {
            if (line.matches(CONSTRUCTS)) {
                constructor = line.replaceAll("\\S.*", "}");
            } else if (line.equals(constructor)) {
                constructor = "";
            }
            if (line.contains("new ") && !line.matches("\\s*(/\\*\\*|//).*")) {
                boolean isIn = !constructor.isEmpty();
                Check.yes("made by a call: " + line.trim(), isIn || line.matches(MAKES_ROW) || line.matches(THROWS));
                Check.yes("a row of a set length: " + line.trim(), !line.contains("[") || line.matches(SET_LENGTH));
                found++;
            }
        }
        Check.yes("lines that make something: " + found, found > 20);
    }
}
