import java.io.IOException;
import java.lang.reflect.Member;
import java.lang.reflect.Method;
import java.lang.reflect.Modifier;
import java.nio.file.Files;
import java.nio.file.Path;
import java.util.ArrayList;
import java.util.Arrays;
import java.util.List;
import java.util.TreeSet;

/** The public face is that of the document and no more, and the source keeps to what LANGUAGE.md leaves. */
public final class FaceTest {
    private static final String SOURCE = "src/main/java/NoseCensus.java";

    private static final String[] FACE = {
        "int feed(int,int,int,int,int)", "int text(int)", "int fault(int)", "int named(int,int)",
        "int person(int,int)", "int house(int,int)", "int coat(int,int)", "int dog(int,int)", "int air(int,int)",
        "int smells(int,int)", "long law(int,int,int)", "boolean move(int,int)", "boolean wash(int,boolean)",
        "int hang(int,int,int)", "boolean cook(int,int)", "boolean send(int,int)", "boolean blow(int)",
        "int years(int)", "int walk(int,int,int)", "int washed(int,int,int)", "int who(int,int)",
        "int set(int,int,int)", "int share(int,int,int)", "int ghosts()", "int wrong()", "int hide(int,int)",
        "int keeps(int)", "int rests(int,int)", "int rest(int,int,int)", "int seats(int,int)",
        "int note(int,int,int,boolean)", "int out(int)", "boolean known(int)", "int sort(int)",
        "int chance(int,int,int)", "int tried(int,int)", "int undo()", "int keep()", "int back()", "int count(int)"};

    public static void main(String[] args) throws IOException {
        face();
        nothingElse();
        classesInside();
        source();
        methods();
        Check.end();
    }

    private static String told(Method method) {
        List<String> types = new ArrayList<>();
        for (Class<?> type : method.getParameterTypes()) {
            types.add(type.getName());
        }
        return method.getReturnType().getName() + " " + method.getName() + "(" + String.join(",", types) + ")";
    }

    private static void face() {
        TreeSet<String> got = new TreeSet<>();
        for (Method method : NoseCensus.class.getDeclaredMethods()) {
            if (Modifier.isPublic(method.getModifiers())) {
                got.add(told(method));
                Check.no("static: " + method, Modifier.isStatic(method.getModifiers()));
            }
        }
        TreeSet<String> due = new TreeSet<>(Arrays.asList(FACE));
        Check.yes("the face is " + got, got.equals(due));
        Check.same("constructors", NoseCensus.class.getDeclaredConstructors().length, 1);
        Check.same("public constructors", NoseCensus.class.getConstructors().length, 1);
        Check.same("public fields", NoseCensus.class.getFields().length, 1);
        Check.yes("final", Modifier.isFinal(NoseCensus.class.getModifiers()));
    }

    private static void nothingElse() {
        TreeSet<String> names = new TreeSet<>();
        for (String told : FACE) {
            names.add(told.substring(told.indexOf(' ') + 1, told.indexOf('(')));
        }
        List<Member> members = new ArrayList<>(Arrays.asList(NoseCensus.class.getDeclaredMethods()));
        members.addAll(Arrays.asList(NoseCensus.class.getDeclaredFields()));
        for (Member member : members) {
            int is = member.getModifiers();
            Check.yes("public or private: " + member, Modifier.isPublic(is) || Modifier.isPrivate(is));
            boolean hidden = member instanceof Method && Modifier.isPrivate(is);
            Check.no("a private method of a public one's name: " + member, hidden && names.contains(member.getName()));
        }
    }

    private static void classesInside() {
        Class<?>[] inside = NoseCensus.class.getDeclaredClasses();
        Check.yes("at most twelve classes", inside.length + 1 <= 12);
        for (Class<?> one : inside) {
            Check.yes("static: " + one, Modifier.isStatic(one.getModifiers()));
            Check.no("public: " + one, Modifier.isPublic(one.getModifiers()));
            int fields = 0;
            for (var field : one.getDeclaredFields()) {
                boolean isStatic = Modifier.isStatic(field.getModifiers());
                fields += isStatic ? 0 : 1;
                Check.no("static, but not final: " + field, isStatic && !Modifier.isFinal(field.getModifiers()));
            }
            Check.yes("some twenty fields: " + one, fields <= 20);
            for (Method method : one.getDeclaredMethods()) {
                Check.yes("at most seven parameters: " + method, method.getParameterCount() <= 7);
            }
        }
    }

    private static void source() throws IOException {
        String text = Files.readString(Path.of(SOURCE));
        for (String word : new String[] {"->", "::", "try {", "catch", "finally", "synchronized", "assert ", "Exact",
            "package ", "System.out", "nanoTime", "currentTimeMillis", "java.io", "java.util.Random", "\t"}) {
            Check.no("the source has " + word, text.contains(word));
        }
        for (String line : text.split("\n")) {
            if (line.startsWith("import ")) {
                Check.yes(line, line.equals("import java.util.NoSuchElementException;"));
            }
            Check.yes("a long line: " + line, line.length() <= 120);
        }
        Check.yes("signs beyond 127", text.chars().allMatch(sign -> sign < 128));
    }

    /** A method stands four or eight blanks in, and its last line begins just as far in. */
    private static void methods() throws IOException {
        List<String> lines = Files.readAllLines(Path.of(SOURCE));
        int found = 0;
        for (int i = 0; i < lines.size(); i++) {
            if (lines.get(i).matches("( {4}| {8})(public|private|static|final|[a-zA-Z]).*\\) (throws .*)?\\{")) {
                String end = lines.get(i).replaceAll("\\S.*", "}");
                int length = lines.subList(i, lines.size()).indexOf(end) + 1;
                Check.yes("at most sixty lines: " + lines.get(i).trim(), length > 1 && length <= 60);
                found++;
            }
        }
        Check.yes("methods found: " + found, found > 100);
    }
}
