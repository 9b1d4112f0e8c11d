import java.util.ArrayList;
import java.util.HashMap;
import java.util.HashSet;
import java.util.List;
import java.util.Map;
import java.util.NoSuchElementException;
import java.util.Set;

/**
 * The document told a second time in its plainest form, without thought of speed or room: RandomRunsTest holds the
 * class against it. It shares no code with the class, so that a slip in one of them shows.
 */
final class Model {
    static final long ERROR = Long.MIN_VALUE;

    record Person(String name, int house, int kind, int force, boolean washed) {
        Person in(int other) {
            return new Person(name, other, kind, force, washed);
        }

        Person of(int other) {
            return new Person(name, house, other, force, washed);
        }

        Person washed(boolean is) {
            return new Person(name, house, kind, force, is);
        }
    }

    record Coat(int house, int kind, int force) {
    }

    record Dog(String name, int house, int nose) {
    }

    record Note(int strikes, int years, int house, int count, boolean atLeast) {
    }

    /** A law's E: a number, a name or a sign with its sides. */
    record E(String sign, long number, E left, E right) {
        long worth(Map<String, Integer> names) {
            if (sign.isEmpty()) {
                return number;
            }
            if (left == null) {
                return names.get(sign);
            }
            long a = left.worth(names);
            long b = right == null ? 0 : right.worth(names);
            long worth = joined(a, b);
            if (Math.abs(worth) > 1000000000000L) {
                throw new ArithmeticException();
            }
            return worth;
        }

        private long joined(long a, long b) {
            return switch (sign) {
                case "not" -> a == 0 ? 1 : 0;
                case "+" -> a + b;
                case "-" -> a - b;
                case "*" -> Math.multiplyExact(a, b);
                case "/" -> a / b;
                case "<" -> a < b ? 1 : 0;
                case "<=" -> a <= b ? 1 : 0;
                case "=" -> a == b ? 1 : 0;
                case "<>" -> a != b ? 1 : 0;
                case ">=" -> a >= b ? 1 : 0;
                case ">" -> a > b ? 1 : 0;
                case "and" -> a != 0 && b != 0 ? 1 : 0;
                default -> a != 0 || b != 0 ? 1 : 0;
            };
        }
    }

    /** All that goes into an image. */
    static final class Town {
        List<String> houses = new ArrayList<>();
        List<Integer> dishes = new ArrayList<>();
        List<Integer> paid = new ArrayList<>();
        List<Person> people = new ArrayList<>();
        List<Coat> coats = new ArrayList<>();
        List<Dog> dogs = new ArrayList<>();
        Map<String, E> laws = new HashMap<>();
        int wind;
        int tax = 2;
        int year;

        Town copy() {
            Town other = new Town();
            other.houses = houses;
            other.dishes = new ArrayList<>(dishes);
            other.paid = new ArrayList<>(paid);
            other.people = new ArrayList<>(people);
            other.coats = new ArrayList<>(coats);
            other.dogs = new ArrayList<>(dogs);
            other.laws = laws;
            other.wind = wind;
            other.tax = tax;
            other.year = year;
            return other;
        }

        long law(String rule, int force, int kind, int heads, int air, int house) {
            if (!laws.containsKey(rule)) {
                return ERROR;
            }
            Map<String, Integer> names = Map.of("force", force, "kind", kind, "heads", heads, "dish",
                    dishes.get(house), "air", air, "place", house, "year", year);
            try {
                return laws.get(rule).worth(names);
            } catch (ArithmeticException e) {
                return ERROR;
            }
        }

        long smellLaw(Person p) {
            return law("smell", p.force, p.kind, 0, 0, p.house);
        }

        int smell(Person p) {
            long worth = smellLaw(p);
            return worth == ERROR ? p.force : (int) Math.max(0, Math.min(99, worth));
        }

        int own(int house, int kind) {
            int sum = 0;
            for (Person p : people) {
                sum += p.house == house && p.kind == kind && !p.washed ? smell(p) : 0;
            }
            for (Coat c : coats) {
                sum += c.house == house && c.kind == kind ? c.force : 0;
            }
            return sum;
        }

        int brought(int house, int kind) {
            return house == 0 ? 0 : air(house - 1, kind) * wind / 100;
        }

        int air(int house, int kind) {
            return own(house, kind) + brought(house, kind);
        }

        long noseLaw(Dog d, int house, int kind) {
            return law("nose", d.nose, kind, 0, air(house, kind), house);
        }

        boolean isSmelled(Dog d, int house, int kind) {
            int air = air(house, kind);
            if (air <= dishes.get(house)) {
                return false;
            }
            long worth = noseLaw(d, house, kind);
            return worth == ERROR ? air >= d.nose : worth != 0;
        }

        int smells(Dog d, int house) {
            int bits = 0;
            for (int kind = 0; kind < 8; kind++) {
                bits += isSmelled(d, house, kind) ? 1 << kind : 0;
            }
            return bits;
        }

        int counts(Dog d, int house) {
            return Integer.bitCount(smells(d, house));
        }

        int count(int house) {
            int most = -1;
            for (Dog d : dogs) {
                most = d.house == house ? Math.max(most, counts(d, house)) : most;
            }
            return most;
        }

        int allCounts() {
            int sum = 0;
            for (int house = 0; house < houses.size(); house++) {
                sum += Math.max(0, count(house));
            }
            return sum;
        }

        int heads(int house) {
            int heads = 0;
            for (Person p : people) {
                heads += p.house == house ? 1 : 0;
            }
            return heads;
        }

        long dueLaw(int house) {
            return law("due", 0, 0, count(house), 0, house);
        }

        int due(int house) {
            long worth = dueLaw(house);
            return worth == ERROR ? tax * count(house) : (int) Math.max(0, Math.min(999, worth));
        }

        int paidInAll() {
            int sum = 0;
            for (int one : paid) {
                sum += one;
            }
            return sum;
        }

        void passYear() {
            for (int house = 0; house < houses.size(); house++) {
                if (count(house) >= 0) {
                    paid.set(house, paid.get(house) + due(house));
                }
            }
            coats.replaceAll(c -> new Coat(c.house, c.kind, Math.max(0, c.force - 1)));
            people.replaceAll(p -> p.washed(false));
            year++;
        }
    }

    /** A FAULT of a text at a place. */
    static final class Fault extends Exception {
        private static final long serialVersionUID = 1L;
        final int what;
        final int place;

        Fault(int what, int place) {
            this.what = what;
            this.place = place;
        }
    }

    /** A text cut into tokens first and then read by the grammar. */
    static final class Text {
        static final List<String> LANGUAGE = List.of("house", "person", "coat", "dish", "dog", "wind", "tax", "seed",
                "law", "smell", "nose", "due", "or", "and", "not", "force", "kind", "heads", "air", "place", "year");
        static final Set<String> NAMES = Set.of("force", "kind", "heads", "dish", "air", "place", "year");
        static final Set<String> COMPARISONS = Set.of("<", "<=", "=", "<>", ">=", ">");
        static final Set<String> SIGNS = Set.of(";", "(", ")", "+", "-", "*", "/", "<", "=", ">", "<=", "<>", ">=");

        final Town town = new Town();
        final Set<String> told = new HashSet<>();
        final List<String> tokens = new ArrayList<>();
        final List<Integer> places = new ArrayList<>();
        int at;
        int lines;
        int knots;

        Text(String text) throws Fault {
            cut(text);
            while (!token().isEmpty()) {
                line();
                take(";");
                lines++;
            }
        }

        private void cut(String text) {
            int from = 0;
            while (from < text.length()) {
                char sign = text.charAt(from);
                int to = from + 1;
                if (sign == ' ' || sign == '\n') {
                    from = to;
                    continue;
                }
                while (to < text.length() && isOne(text.substring(from, to + 1))) {
                    to++;
                }
                places.add(from);
                tokens.add(text.substring(from, to));
                from = to;
            }
            places.add(text.length());
            tokens.add("");
        }

        private static boolean isOne(String piece) {
            return piece.matches("[a-z]+|[0-9]+") || SIGNS.contains(piece);
        }

        private String token() {
            return tokens.get(at);
        }

        private Fault fault(int what) {
            return new Fault(what, places.get(at));
        }

        private void take(String due) throws Fault {
            if (!token().equals(due)) {
                throw fault(1);
            }
            at++;
        }

        private String name() throws Fault {
            if (!token().matches("[a-z]{1,6}") || LANGUAGE.contains(token())) {
                throw fault(1);
            }
            return token();
        }

        private String newName(String kind) throws Fault {
            String name = name();
            if (!told.add(kind + " " + name)) {
                throw fault(3);
            }
            at++;
            return name;
        }

        private int house() throws Fault {
            int house = town.houses.indexOf(name());
            if (house < 0) {
                throw fault(4);
            }
            at++;
            return house;
        }

        private int number(int least, int most) throws Fault {
            if (!token().matches("[0-9]+")) {
                throw fault(1);
            }
            String digits = token().replaceFirst("^0+(?=.)", "");
            if (digits.length() > 6 || Integer.parseInt(digits) < least || Integer.parseInt(digits) > most) {
                throw fault(2);
            }
            at++;
            return Integer.parseInt(digits);
        }

        private void limit(int some, int most) throws Fault {
            if (some == most) {
                throw fault(2);
            }
        }

        private void line() throws Fault {
            String word = token();
            switch (word) {
                case "house" -> {
                    limit(town.houses.size(), 7);
                    at++;
                    town.houses.add(newName(word));
                    town.dishes.add(0);
                    town.paid.add(0);
                }
                case "person" -> {
                    limit(town.people.size(), 9);
                    at++;
                    town.people.add(new Person(newName(word), house(), number(0, 7), number(1, 9), false));
                }
                case "coat" -> {
                    limit(town.coats.size(), 8);
                    at++;
                    town.coats.add(new Coat(house(), number(0, 7), number(1, 9)));
                }
                case "dish" -> {
                    at++;
                    int house = house();
                    at--;
                    newName(word);
                    town.dishes.set(house, number(0, 9));
                }
                case "dog" -> {
                    limit(town.dogs.size(), 3);
                    at++;
                    town.dogs.add(new Dog(newName(word), house(), number(1, 9)));
                }
                case "wind", "tax", "seed" -> single(word);
                case "law" -> law();
                default -> throw fault(1);
            }
        }

        private void single(String word) throws Fault {
            if (!told.add(word)) {
                throw fault(3);
            }
            at++;
            int number = number(0, word.equals("wind") ? 100 : word.equals("tax") ? 99 : 99999);
            if (word.equals("wind")) {
                town.wind = number;
            } else if (word.equals("tax")) {
                town.tax = number;
            }
        }

        private void law() throws Fault {
            at++;
            String rule = token();
            if (!Set.of("smell", "nose", "due").contains(rule)) {
                throw fault(1);
            }
            if (!told.add("law " + rule)) {
                throw fault(3);
            }
            at++;
            town.laws.put(rule, either(0));
        }

        private String knot() throws Fault {
            limit(knots, 64);
            knots++;
            at++;
            return tokens.get(at - 1);
        }

        private E either(int open) throws Fault {
            E left = both(open);
            while (token().equals("or")) {
                left = new E(knot(), 0, left, both(open));
            }
            return left;
        }

        private E both(int open) throws Fault {
            E left = negated(open);
            while (token().equals("and")) {
                left = new E(knot(), 0, left, negated(open));
            }
            return left;
        }

        private E negated(int open) throws Fault {
            if (token().equals("not")) {
                return new E(knot(), 0, negated(open), null);
            }
            E left = sum(open);
            return COMPARISONS.contains(token()) ? new E(knot(), 0, left, sum(open)) : left;
        }

        private E sum(int open) throws Fault {
            E left = product(open);
            while (token().equals("+") || token().equals("-")) {
                left = new E(knot(), 0, left, product(open));
            }
            return left;
        }

        private E product(int open) throws Fault {
            E left = part(open);
            while (token().equals("*") || token().equals("/")) {
                left = new E(knot(), 0, left, part(open));
            }
            return left;
        }

        private E part(int open) throws Fault {
            if (token().equals("(")) {
                limit(open, 8);
                at++;
                E inner = either(open + 1);
                take(")");
                return inner;
            }
            if (NAMES.contains(token())) {
                return new E(knot(), 0, null, null);
            }
            int number = number(0, 9999);
            at--;
            knot();
            return new E("", number, null, null);
        }
    }

    private final StringBuilder tape = new StringBuilder();
    private int fault;
    private int place = -1;
    private int knots;
    Town now = new Town();
    private Town start = new Town();
    private Town image;
    private List<Town> past = new ArrayList<>();
    List<Note> notes = new ArrayList<>();
    private int known = -1;

    private boolean isHouse(int house) {
        return house >= 0 && house < now.houses.size();
    }

    private boolean isPerson(int person) {
        return person >= 0 && person < now.people.size();
    }

    private boolean isDog(int dog) {
        return dog >= 0 && dog < now.dogs.size();
    }

    private static boolean isIn(int number, int least, int most) {
        return number >= least && number <= most;
    }

    int feed(int a, int b, int c, int d, int e) {
        if (tape.length() + 20 > 700) {
            return -1;
        }
        for (int four : new int[] {a, b, c, d, e}) {
            tape.append((char) (four >>> 24)).append((char) (four >>> 16 & 255)).append((char) (four >>> 8 & 255))
                    .append((char) (four & 255));
        }
        return tape.length();
    }

    int text(int n) {
        if (n < 0 || n > tape.length()) {
            return -2;
        }
        String told = tape.substring(0, n);
        tape.setLength(0);
        try {
            Text text = new Text(told);
            fault = 0;
            place = -1;
            knots = text.knots;
            now = text.town;
            start = now.copy();
            image = null;
            past = new ArrayList<>();
            notes = new ArrayList<>();
            known = -1;
            return text.lines;
        } catch (Fault f) {
            fault = f.what;
            place = f.place;
            return -1;
        }
    }

    int fault(int what) {
        return what == 0 ? fault : what == 1 ? place : -1;
    }

    int named(int what, int letters) {
        List<String> names = new ArrayList<>();
        if (what == 0) {
            names.addAll(now.houses);
        } else if (what == 1) {
            now.people.forEach(p -> names.add(p.name));
        } else if (what == 2) {
            now.dogs.forEach(d -> names.add(d.name));
        }
        for (int i = 0; i < names.size(); i++) {
            if (Check.letters(names.get(i)) == letters) {
                return i;
            }
        }
        return -1;
    }

    int person(int person, int what) {
        if (!isPerson(person)) {
            throw new IndexOutOfBoundsException();
        }
        if (!isIn(what, 0, 4)) {
            throw new NoSuchElementException();
        }
        Person p = now.people.get(person);
        return new int[] {p.house, p.kind, p.force, p.washed ? 1 : 0, now.smell(p)}[what];
    }

    int house(int house, int what) {
        if (!isHouse(house) || !isIn(what, 0, 4)) {
            return -2;
        }
        int count = now.count(house);
        int due = count < 0 ? -1 : now.due(house);
        return new int[] {now.dishes.get(house), now.heads(house), count, due, now.paid.get(house)}[what];
    }

    int coat(int coat, int what) {
        if (!isIn(coat, 0, now.coats.size() - 1) || !isIn(what, 0, 2)) {
            return -1;
        }
        Coat c = now.coats.get(coat);
        return new int[] {c.house, c.kind, c.force}[what];
    }

    int dog(int dog, int what) {
        if (!isDog(dog) || !isIn(what, 0, 1)) {
            return -1;
        }
        return what == 0 ? now.dogs.get(dog).house : now.dogs.get(dog).nose;
    }

    int air(int house, int kind) {
        return isHouse(house) && isIn(kind, 0, 7) ? now.air(house, kind) : -1;
    }

    int smells(int dog, int house) {
        return isDog(dog) && isHouse(house) ? now.smells(now.dogs.get(dog), house) : -1;
    }

    long law(int what, int one, int kind) {
        if (what == 0 && isPerson(one)) {
            return now.smellLaw(now.people.get(one));
        }
        if (what == 1 && isDog(one) && isIn(kind, 0, 7)) {
            return now.noseLaw(now.dogs.get(one), now.dogs.get(one).house, kind);
        }
        return what == 2 && isHouse(one) && now.count(one) >= 0 ? now.dueLaw(one) : ERROR;
    }

    private void remember() {
        past.add(now.copy());
        if (past.size() > 20) {
            past.remove(0);
        }
    }

    boolean move(int person, int house) {
        if (!isPerson(person) || !isHouse(house) || now.people.get(person).house == house) {
            return false;
        }
        remember();
        now.people.set(person, now.people.get(person).in(house));
        return true;
    }

    boolean wash(int person, boolean is) {
        if (!isPerson(person) || now.people.get(person).washed == is) {
            return false;
        }
        remember();
        now.people.set(person, now.people.get(person).washed(is));
        return true;
    }

    int hang(int house, int kind, int force) {
        if (!isHouse(house) || !isIn(kind, 0, 7) || !isIn(force, 1, 9) || now.coats.size() == 12) {
            return -1;
        }
        remember();
        now.coats.add(new Coat(house, kind, force));
        return now.coats.size() - 1;
    }

    boolean cook(int house, int dish) {
        if (!isHouse(house) || !isIn(dish, 0, 99) || now.dishes.get(house) == dish) {
            return false;
        }
        remember();
        now.dishes.set(house, dish);
        return true;
    }

    boolean send(int dog, int house) {
        if (!isDog(dog) || !isHouse(house) || now.dogs.get(dog).house == house) {
            return false;
        }
        remember();
        Dog d = now.dogs.get(dog);
        now.dogs.set(dog, new Dog(d.name, house, d.nose));
        return true;
    }

    boolean blow(int wind) {
        if (!isIn(wind, 0, 100) || now.wind == wind) {
            return false;
        }
        remember();
        now.wind = wind;
        return true;
    }

    int years(int n) {
        if (!isIn(n, 0, 99) || now.year + n > 999) {
            return -1;
        }
        for (int i = 0; i < n; i++) {
            now.passYear();
            past.clear();
        }
        return now.year;
    }

    int walk(int dog, int steps, int what) {
        if (!isDog(dog) || !isIn(steps, 0, 12) || !isIn(what, 0, 2)) {
            return -1;
        }
        Dog d = now.dogs.get(dog);
        // Every walk is walked: where the dog stands, and the ends that it has been to.
        Set<List<Integer>> walks = new HashSet<>();
        walks.add(List.of(d.house, d.house, d.house));
        for (int step = 0; step < steps; step++) {
            for (List<Integer> walk : List.copyOf(walks)) {
                for (int next : new int[] {walk.get(0) - 1, walk.get(0) + 1}) {
                    if (isHouse(next)) {
                        walks.add(List.of(next, Math.min(next, walk.get(1)), Math.max(next, walk.get(2))));
                    }
                }
            }
        }
        int[] best = {99, 99, -1};
        for (List<Integer> walk : walks) {
            int left = walk.get(1);
            int end = walk.get(2);
            int right = 0;
            for (int house = left; house <= end; house++) {
                right += now.counts(d, house) == now.heads(house) ? 1 : 0;
            }
            boolean before = left < best[0] || left == best[0] && end < best[1];
            if (right > best[2] || right == best[2] && before) {
                best = new int[] {left, end, right};
            }
        }
        return best[what];
    }

    int washed(int house, int dog, int n) {
        if (!isHouse(house) || !isDog(dog) || !isIn(n, 0, 8)) {
            return -1;
        }
        for (int fewest = 0; fewest <= 9; fewest++) {
            for (int set = 0; set < 1 << now.people.size(); set++) {
                if (Integer.bitCount(set) == fewest && countsWashed(house, dog, set) == n) {
                    return set;
                }
            }
        }
        return -2;
    }

    private int countsWashed(int house, int dog, int set) {
        Town other = now.copy();
        for (int i = 0; i < other.people.size(); i++) {
            Person p = other.people.get(i);
            if ((set >> i & 1) == 1) {
                if (p.washed || p.house != house) {
                    return -1;
                }
                other.people.set(i, p.washed(true));
            }
        }
        return other.counts(other.dogs.get(dog), house);
    }

    private List<Integer> sets(int house, int dog) {
        List<Integer> sets = new ArrayList<>();
        int wanted = now.smells(now.dogs.get(dog), house);
        for (int set = 0; set < 1 << now.people.size(); set++) {
            Town other = now.copy();
            other.people.clear();
            other.coats.clear();
            other.wind = 0;
            for (int i = 0; i < now.people.size(); i++) {
                if ((set >> i & 1) == 1) {
                    other.people.add(now.people.get(i).in(house).washed(false));
                }
            }
            if (other.smells(other.dogs.get(dog), house) == wanted) {
                sets.add(set);
            }
        }
        return sets;
    }

    int who(int house, int dog) {
        return isHouse(house) && isDog(dog) ? sets(house, dog).size() : -1;
    }

    private static int kth(List<Integer> list, int k) {
        return k < list.size() ? list.get(k) : -2;
    }

    int set(int house, int dog, int k) {
        return isHouse(house) && isDog(dog) && k >= 0 ? kth(sets(house, dog), k) : -1;
    }

    int share(int house, int kind, int what) {
        if (!isHouse(house) || !isIn(kind, 0, 7) || !isIn(what, 0, 1)) {
            return -1;
        }
        int below = Math.max(1, now.air(house, kind));
        int above = now.brought(house, kind);
        for (int divisor = below; divisor > 1; divisor--) {
            if (below % divisor == 0 && above % divisor == 0) {
                below /= divisor;
                above /= divisor;
            }
        }
        return what == 0 ? above : below;
    }

    int ghosts() {
        int bits = 0;
        for (int house = 0; house < now.houses.size(); house++) {
            bits += now.heads(house) == 0 && now.count(house) > 0 ? 1 << house : 0;
        }
        return bits;
    }

    int wrong() {
        int bits = 0;
        for (int house = 0; house < now.houses.size(); house++) {
            bits += now.count(house) >= 0 && now.count(house) != now.heads(house) ? 1 << house : 0;
        }
        return bits;
    }

    int hide(int house, int dog) {
        if (!isHouse(house) || !isDog(dog)) {
            return -1;
        }
        for (int dish = 0; dish <= 99; dish++) {
            Town other = now.copy();
            other.dishes.set(house, dish);
            if (other.counts(other.dogs.get(dog), house) == 0) {
                return dish;
            }
        }
        return -2;
    }

    int keeps(int coat) {
        if (!isIn(coat, 0, now.coats.size() - 1) || now.coats.get(coat).force == 0) {
            return -1;
        }
        Coat c = now.coats.get(coat);
        Town other = now.copy();
        for (int years = 0; years <= 9; years++) {
            boolean smelled = false;
            for (Dog d : other.dogs) {
                smelled |= other.isSmelled(d, c.house, c.kind);
            }
            if (!smelled) {
                return years;
            }
            other.passYear();
        }
        return -2;
    }

    private boolean cook(int[][] one, int[][] other, int first, int second) {
        if (!isHouse(first) || !isHouse(second) || first == second || now.count(first) < 0 || now.count(second) < 0) {
            return false;
        }
        for (int a = 0; a < 10; a++) {
            for (int b = 0; b < 10; b++) {
                Town town = now.copy();
                town.dishes.set(first, a);
                town.dishes.set(second, b);
                one[a][b] = town.due(first) + a;
                other[a][b] = town.due(second) + b;
            }
        }
        return true;
    }

    /** None where there can't be any. */
    private List<Integer> restList(int first, int second) {
        int[][] one = new int[10][10];
        int[][] other = new int[10][10];
        if (!cook(one, other, first, second)) {
            return null;
        }
        List<Integer> list = new ArrayList<>();
        for (int a = 0; a < 10; a++) {
            for (int b = 0; b < 10; b++) {
                boolean rests = true;
                for (int c = 0; c < 10; c++) {
                    rests &= one[c][b] >= one[a][b] && other[a][c] >= other[a][b];
                }
                if (rests) {
                    list.add(10 * a + b);
                }
            }
        }
        return list;
    }

    int rests(int one, int other) {
        List<Integer> list = restList(one, other);
        return list == null ? -1 : list.size();
    }

    int rest(int one, int other, int k) {
        List<Integer> list = restList(one, other);
        return list == null || k < 0 ? -1 : kth(list, k);
    }

    int seats(int k, int house) {
        if (!isIn(k, 1, 99) || !isHouse(house)) {
            return -1;
        }
        int[] seats = new int[now.houses.size()];
        for (int i = 0; i < k; i++) {
            int best = 0;
            for (int one = 0; one < seats.length; one++) {
                double mine = Math.max(0, now.count(one)) * 27720.0 / (seats[one] + 1);
                double its = Math.max(0, now.count(best)) * 27720.0 / (seats[best] + 1);
                best = mine > its + 0.001 ? one : best;
            }
            seats[best]++;
        }
        return seats[house];
    }

    int note(int years, int house, int count, boolean atLeast) {
        if (!isIn(years, 0, 8) || !isHouse(house) || !isIn(count, 0, 8) || notes.size() == 24) {
            return -1;
        }
        notes.add(new Note(-1, years, house, count, atLeast));
        return notes.size() - 1;
    }

    int out(int note) {
        if (!isIn(note, 0, notes.size() - 1) || notes.size() == 24) {
            return -1;
        }
        notes.add(new Note(note, 0, 0, 0, true));
        return notes.size() - 1;
    }

    boolean known(int n) {
        if (!isIn(n, -1, notes.size())) {
            return false;
        }
        known = n;
        return true;
    }

    private int knownBy() {
        return known < 0 ? notes.size() : known;
    }

    private boolean isStruck(int note) {
        for (int i = note + 1; i < knownBy(); i++) {
            if (notes.get(i).strikes == note && !isStruck(i)) {
                return true;
            }
        }
        return false;
    }

    private boolean isSo(Note note, int person, int kind) {
        Town town = start.copy();
        town.people.set(person, town.people.get(person).of(kind));
        for (int i = 0; i < note.years; i++) {
            town.passYear();
        }
        return Math.max(0, town.count(note.house)) >= note.count == note.atLeast;
    }

    int sort(int person) {
        if (!isPerson(person)) {
            return -1;
        }
        int bits = 255;
        for (int i = 0; i < knownBy(); i++) {
            Note note = notes.get(i);
            for (int kind = 0; kind < 8 && note.strikes < 0 && !isStruck(i); kind++) {
                bits &= isSo(note, person, kind) ? 255 : 255 - (1 << kind);
            }
        }
        return bits;
    }

    int chance(int seed, int n, int paid) {
        if (seed < 0 || !isIn(n, 1, 30) || !isIn(paid, 0, 9999)) {
            return -1;
        }
        int times = 0;
        long number = seed;
        for (int time = 0; time < 10; time++) {
            Town other = now.copy();
            for (int year = 0; year < n; year++) {
                number = (number * 1103515245L + 12345L) % 2147483648L;
                other.wind = (int) (number / 65536 % 101);
                other.passYear();
            }
            times += other.paidInAll() - now.paidInAll() >= paid ? 1 : 0;
        }
        return times;
    }

    int tried(int what, int i) {
        if (!isIn(what, 0, 5) || (what == 2 ? !isPerson(i) : i != 0)) {
            return -1;
        }
        Town other = now.copy();
        switch (what) {
            case 1 -> other.wind = 0;
            case 2 -> other.people.remove(i);
            case 3 -> other.dishes.replaceAll(dish -> 0);
            case 4 -> other.coats.clear();
            case 5 -> other.people.replaceAll(p -> p.washed(false));
            default -> {
            }
        }
        return other.allCounts();
    }

    int undo() {
        if (past.isEmpty()) {
            return -1;
        }
        now = past.remove(past.size() - 1);
        return past.size();
    }

    int keep() {
        image = now.copy();
        return now.year;
    }

    int back() {
        if (image == null) {
            return -1;
        }
        now = image.copy();
        past.clear();
        return now.year;
    }

    int count(int what) {
        return switch (what) {
            case 0 -> now.houses.size();
            case 1 -> now.people.size();
            case 2 -> now.coats.size();
            case 3 -> (int) now.coats.stream().filter(c -> c.force > 0).count();
            case 4 -> now.dogs.size();
            case 5 -> knots;
            case 6 -> now.year;
            case 7 -> now.wind;
            case 8 -> now.allCounts();
            case 9 -> now.paidInAll();
            case 10 -> (int) now.people.stream().filter(Person::washed).count();
            case 11 -> notes.size();
            case 12 -> knownBy();
            case 13 -> past.size();
            default -> -1;
        };
    }
}
