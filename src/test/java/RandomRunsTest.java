import java.lang.reflect.InvocationTargetException;
import java.lang.reflect.Method;
import java.nio.charset.StandardCharsets;
import java.util.ArrayList;
import java.util.Collections;
import java.util.HashMap;
import java.util.List;
import java.util.Map;
import java.util.NoSuchElementException;
import java.util.Random;

/** Long runs of calls by chance, always the same ones, on the class and on the model: both must answer alike. */
public final class RandomRunsTest {
    private static final int RUNS = 400;
    private static final int CALLS = 300;
    private static final String[] NAMES = {"force", "kind", "heads", "dish", "air", "place", "year"};
    private static final String[] SIGNS = {"+", "-", "*", "/", "<", "<=", "=", "<>", ">=", ">", " and ", " or "};
    private static final String[] WORDS = {"a", "b", "inn", "mill", "barn", "zzzzzz", "hut", "ox", "q"};
    private static final String[] SMELLS = {"force*2+dish", "force+place*kind-year", "force/dish", "force+dish"};
    private static final String[] NOSES = {"air>=force", "air>=force+kind and not year=3", "air/kind>=force-dish",
        "air<>3"};
    private static final String[] DUES = {"heads*10-dish", "heads*heads*7+year", "heads*100/dish", "1000*heads"};
    private static final String[] SPOILS = {";", "(", ")", "<", ">", "=", "+", "-", "*", "/", " ", "\n", "0", "9", "a",
        "z", "#", "A", "house ", "person ", "not ", "and ", "(((((((((", "9999999999999", "wordtoolong", "dish ",
        "law ", "kind "};
    private static final String[] CALLED = {"fault", "named", "person", "person", "house", "house", "house", "coat",
        "dog", "air", "smells", "law", "law", "move", "move", "wash", "wash", "hang", "cook", "cook", "send", "send",
        "blow", "years", "walk", "walk", "washed", "washed", "who", "set", "share", "share", "ghosts", "wrong",
        "hide", "keeps", "keeps", "rests", "rest", "seats", "note", "note", "out", "known", "sort", "sort", "chance",
        "chance", "tried", "tried", "undo", "undo", "keep", "back", "count", "count", "count"};

    private final Random random;
    private final String run;
    private final NoseCensus census = new NoseCensus();
    private final Model model = new Model();
    private final Map<String, Method> ofCensus = new HashMap<>();
    private final Map<String, Method> ofModel = new HashMap<>();

    private RandomRunsTest(int seed) {
        random = new Random(seed);
        run = "run " + seed + ": ";
        for (Method method : NoseCensus.class.getMethods()) {
            ofCensus.put(method.getName(), method);
        }
        for (Method method : Model.class.getDeclaredMethods()) {
            Method same = ofCensus.get(method.getName());
            if (same != null && same.getParameterCount() == method.getParameterCount()) {
                ofModel.put(method.getName(), method);
            }
        }
    }

    public static void main(String[] args) throws ReflectiveOperationException {
        for (int seed = 0; seed < RUNS; seed++) {
            new RandomRunsTest(seed).go();
        }
        Check.end();
    }

    private void go() throws ReflectiveOperationException {
        tell();
        for (int i = 0; i < CALLS; i++) {
            if (chance(0.008)) {
                tell();
            }
            call();
        }
    }

    private void ask(String name, Object... arguments) throws ReflectiveOperationException {
        long got = answer(ofCensus.get(name), census, arguments);
        long due = answer(ofModel.get(name), model, arguments);
        Check.same(run + name + List.of(arguments), got, due);
    }

    private static long answer(Method method, Object of, Object[] arguments) throws ReflectiveOperationException {
        try {
            return number(method.invoke(of, arguments));
        } catch (InvocationTargetException e) {
            Class<?> thrown = e.getCause().getClass();
            if (thrown == IndexOutOfBoundsException.class) {
                return Probe.NO_INDEX;
            }
            if (thrown == NoSuchElementException.class) {
                return Probe.NO_ELEMENT;
            }
            throw e;
        }
    }

    private static long number(Object answer) {
        if (answer instanceof Boolean is) {
            return is ? 1 : 0;
        }
        return ((Number) answer).longValue();
    }

    private void tell() throws ReflectiveOperationException {
        byte[] text = text().getBytes(StandardCharsets.ISO_8859_1);
        int length = Math.min(text.length, 600);
        int[] fed = new int[(length + 19) / 20 * 5];
        for (int i = 0; i < length; i++) {
            fed[i / 4] |= text[i] << 24 - i % 4 * 8;
        }
        for (int i = 0; i < fed.length; i += 5) {
            ask("feed", fed[i], fed[i + 1], fed[i + 2], fed[i + 3], fed[i + 4]);
        }
        ask("text", length);
        ask("fault", 0);
        ask("fault", 1);
        ask("count", 5);
    }

    private boolean chance(double share) {
        return random.nextDouble() < share;
    }

    private String one(String... some) {
        return some[random.nextInt(some.length)];
    }

    private int one(int... some) {
        return some[random.nextInt(some.length)];
    }

    private int upTo(int most) {
        return random.nextInt(most + 1);
    }

    /** A number of one of n, now and then of none. */
    private int index(int n) {
        if (chance(0.05) || n == 0) {
            return one(-1, n, n + 1, Integer.MIN_VALUE, Integer.MAX_VALUE);
        }
        return random.nextInt(n);
    }

    private List<String> some(int most) {
        List<String> words = new ArrayList<>(List.of(WORDS));
        Collections.shuffle(words, random);
        return words.subList(0, upTo(most));
    }

    private String text() {
        List<String> lines = new ArrayList<>();
        List<String> houses = some(7);
        houses.forEach(house -> lines.add("house " + house));
        if (!houses.isEmpty()) {
            tellInHouses(lines, houses);
        }
        if (chance(0.7)) {
            lines.add("wind " + one(0, 100, 50, upTo(100)));
        }
        if (chance(0.5)) {
            lines.add("tax " + upTo(99));
        }
        if (chance(0.3)) {
            lines.add("seed " + upTo(99999));
        }
        if (chance(0.5)) {
            lines.add("law smell " + (chance(0.5) ? one(SMELLS) : expression(3)));
        }
        if (chance(0.5)) {
            lines.add("law nose " + (chance(0.5) ? one(NOSES) : expression(3)));
        }
        if (chance(0.5)) {
            lines.add("law due " + (chance(0.5) ? one(DUES) : expression(3)));
        }
        StringBuilder text = new StringBuilder();
        lines.forEach(line -> text.append(line).append(one(";", ";\n", " ; ")));
        for (int i = 0; i < 2 && chance(0.2); i++) {
            spoil(text);
        }
        return text.toString();
    }

    private void tellInHouses(List<String> lines, List<String> houses) {
        String[] rows = houses.toArray(new String[0]);
        int kinds = one(2, 3, 8);
        some(9).forEach(name -> lines.add("person " + name + " " + one(rows) + " " + upTo(kinds - 1) + " "
                + (1 + upTo(8))));
        for (int i = upTo(8); i > 0; i--) {
            lines.add("coat " + one(rows) + " " + upTo(kinds - 1) + " " + (1 + upTo(8)));
        }
        for (String house : rows) {
            if (chance(0.3)) {
                lines.add("dish " + house + " " + one(0, 1, 2, 3, 9));
            }
        }
        some(3).forEach(name -> lines.add("dog " + name + " " + one(rows) + " " + one(1, 2, 3, 4, 9)));
    }

    private String expression(int depth) {
        if (depth == 0 || chance(0.3)) {
            return chance(0.6) ? one(NAMES) : "" + one(0, 1, 2, 3, 5, 10, 100, 9999);
        }
        if (chance(0.15)) {
            return "(not " + expression(depth - 1) + ")";
        }
        String joined = expression(depth - 1) + one(SIGNS) + expression(depth - 1);
        return chance(0.5) ? "(" + joined + ")" : joined;
    }

    private void spoil(StringBuilder text) {
        if (text.length() == 0) {
            return;
        }
        int place = random.nextInt(text.length());
        switch (upTo(3)) {
            case 0 -> text.deleteCharAt(place);
            case 1 -> text.setLength(place);
            case 2 -> text.insert(place, one(SPOILS));
            default -> {
                String[] lines = text.toString().split(";");
                if (lines.length > 0) {
                    text.append(one(lines)).append(';');
                }
            }
        }
    }

    private int house() {
        return index(model.now.houses.size());
    }

    private int person() {
        return index(model.now.people.size());
    }

    private int dog() {
        return index(model.now.dogs.size());
    }

    private int coat() {
        return index(model.now.coats.size());
    }

    private int kind() {
        return index(8);
    }

    private void call() throws ReflectiveOperationException {
        String name = one(CALLED);
        switch (name) {
            case "fault" -> ask(name, index(2));
            case "named" -> ask(name, index(3), Check.letters(one(WORDS)));
            case "person" -> ask(name, person(), index(5));
            case "house" -> ask(name, house(), index(5));
            case "coat" -> ask(name, coat(), index(3));
            case "dog" -> ask(name, dog(), index(2));
            case "air" -> ask(name, house(), kind());
            case "smells" -> ask(name, dog(), house());
            case "law" -> askLaw(index(3));
            case "ghosts", "wrong", "undo", "keep", "back" -> ask(name);
            case "count" -> ask(name, index(14));
            case "move", "wash", "hang", "cook", "send", "blow", "years" -> change(name);
            case "note", "out", "known", "sort" -> write(name);
            default -> question(name);
        }
    }

    private void askLaw(int what) throws ReflectiveOperationException {
        ask("law", what, what == 0 ? person() : what == 1 ? dog() : house(), kind());
    }

    private void change(String name) throws ReflectiveOperationException {
        switch (name) {
            case "move" -> ask(name, person(), house());
            case "wash" -> ask(name, person(), chance(0.7));
            case "hang" -> ask(name, house(), kind(), one(0, 1, 3, 3, 5, 9, 10));
            case "cook" -> ask(name, house(), one(-1, 0, 1, 2, 5, 9, 10, 99, 100, upTo(20)));
            case "send" -> ask(name, dog(), house());
            case "blow" -> ask(name, one(-1, 0, 1, 50, 99, 100, 101, upTo(100)));
            default -> ask(name, one(-1, 0, 1, 1, 1, 2, 3, 100, one(1, 2, 99)));
        }
    }

    private void write(String name) throws ReflectiveOperationException {
        int notes = model.notes.size();
        switch (name) {
            case "note" -> ask(name, one(-1, 0, 0, 1, 2, 5, 8, 9), house(), one(-1, 0, 1, 1, 2, 2, 3, 8, 9),
                    chance(0.5));
            case "out" -> ask(name, index(notes));
            case "known" -> ask(name, one(-2, -1, -1, -1, 0, notes, notes + 1, upTo(notes)));
            default -> ask(name, person());
        }
    }

    private void question(String name) throws ReflectiveOperationException {
        switch (name) {
            case "walk" -> ask(name, dog(), chance(0.3) ? index(13) : upTo(4), index(3));
            case "washed" -> ask(name, house(), dog(), one(-1, 0, 1, 1, 2, 2, 3, 8, 9));
            case "who", "hide" -> ask(name, house(), dog());
            case "set" -> ask(name, house(), dog(), one(-1, 0, 1, 2, 3, upTo(40), 511, 512));
            case "share" -> ask(name, house(), kind(), index(2));
            case "keeps" -> ask(name, coat());
            case "rests" -> ask(name, house(), house());
            case "rest" -> ask(name, house(), house(), one(-1, 0, 0, 1, 2, 5, 99, 100));
            case "seats" -> ask(name, one(0, 1, 2, 3, 5, 10, 99, 100), house());
            case "chance" -> ask(name, one(-1, 0, 1, Integer.MAX_VALUE, random.nextInt(Integer.MAX_VALUE)),
                    one(0, 1, 2, 3, 5, 30, 31), one(-1, 0, 1, 10, 50, 200, 1000, 9999, 10000));
            default -> {
                int what = index(6);
                ask(name, what, what == 2 ? person() : chance(0.95) ? 0 : 1);
            }
        }
    }
}
