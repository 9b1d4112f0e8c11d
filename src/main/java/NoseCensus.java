import java.util.NoSuchElementException;

/** Counts the people of a row of houses by the noses of dogs; ../shared/DOC.md says what each call promises. */
public final class NoseCensus {
    public static final int NONE = -1;

    private static final int NOT_SO = -2;
    private static final int KINDS = 8;
    private static final int MOST_HOUSES = 7;
    private static final int MOST_PEOPLE = 9;
    private static final int MOST_COATS_TOLD = 8;
    private static final int MOST_COATS = 12;
    private static final int MOST_DOGS = 3;
    private static final int MOST_DISH = 99;
    private static final int MOST_FORCE = 9;
    private static final int MOST_WIND = 100;
    private static final int MOST_NOTES = 24;
    private static final int MOST_KNOTS = 64;
    private static final int MOST_OPEN = 8;
    private static final int MOST_UNDONE = 20;
    private static final int LAST_YEAR = 999;
    private static final int TAPE = 700;
    private static final int FED = 20;

    private static final int RULE_SMELL = 0;
    private static final int RULE_NOSE = 1;
    private static final int RULE_DUE = 2;
    private static final int RULES = 3;
    private static final long ERROR = Long.MIN_VALUE;

    private static final int END = 0;
    private static final int BAD = 1;
    private static final int NAME = 2;
    private static final int NUMBER = 3;
    private static final int SEMICOLON = 4;
    private static final int OPEN = 5;
    private static final int CLOSE = 6;
    private static final int PLUS = 7;
    private static final int MINUS = 8;
    private static final int TIMES = 9;
    private static final int BY = 10;
    private static final int LESS = 11;
    private static final int AT_MOST = 12;
    private static final int EQUAL = 13;
    private static final int UNLIKE = 14;
    private static final int AT_LEAST = 15;
    private static final int MORE = 16;
    // From here on the tokens stand in the order of these words.
    private static final String LANGUAGE =
            "force kind heads dish air place year smell nose due or and not house person coat dog wind tax seed law ";
    private static final int FORCE = 20;
    private static final int DISH = 23;
    private static final int YEAR = 26;
    private static final int SMELL = 27;
    private static final int DUE = 29;
    private static final int OR = 30;
    private static final int AND = 31;
    private static final int NOT = 32;
    private static final int HOUSE = 33;
    private static final int PERSON = 34;
    private static final int COAT = 35;
    private static final int DOG = 36;
    private static final int WIND = 37;
    private static final int TAX = 38;
    private static final int SEED = 39;
    private static final int LAW = 40;

    private final int[] tape;
    private int held;
    private final Reader reader;
    private Plan plan;
    private Plan spare;
    private final Town now;
    private final Town image;
    private boolean imaged;
    private final Past past;
    private final Notebook notes;
    private final Nose nose;
    private final Questions questions;

    public NoseCensus() {
        int[] bytes = new int[TAPE];
        Plan told = new Plan();
        Plan untold = new Plan();
        Town town = new Town();
        Nose sniffing = new Nose(told.laws, town);
        tape = bytes;
        reader = new Reader(bytes, untold);
        plan = told;
        spare = untold;
        now = town;
        image = new Town();
        past = new Past();
        notes = new Notebook();
        nose = sniffing;
        questions = new Questions(sniffing);
    }

    public int feed(int a, int b, int c, int d, int e) {
        if (held + FED > TAPE) {
            return NONE;
        }
        putFour(a);
        putFour(b);
        putFour(c);
        putFour(d);
        putFour(e);
        return held;
    }

    private void putFour(int bytes) {
        for (int shift = 24; shift >= 0 && held < TAPE; shift -= 8) {
            tape[held] = (bytes >>> shift) & 255;
            held++;
        }
    }

    public int text(int n) {
        if (n < 0 || n > held) {
            return NOT_SO;
        }
        held = 0;
        if (!reader.reads(n, spare)) {
            return NONE;
        }
        Plan told = spare;
        spare = plan;
        plan = told;
        now.become(plan.start);
        nose.laws = plan.laws;
        past.size = 0;
        notes.forget();
        imaged = false;
        return reader.lines;
    }

    public int fault(int what) {
        if (what == 0) {
            return reader.fault;
        }
        return what == 1 ? reader.place : NONE;
    }

    public int named(int what, int letters) {
        switch (what) {
            case 0:
                return plan.houses.find(letters);
            case 1:
                return plan.people.find(letters);
            case 2:
                return plan.dogs.find(letters);
            default:
                return NONE;
        }
    }

    public int person(int person, int what) throws IndexOutOfBoundsException, NoSuchElementException {
        if (!isPerson(person)) {
            throw new IndexOutOfBoundsException("no such person");
        }
        switch (what) {
            case 0:
                return now.home[person];
            case 1:
                return now.kind[person];
            case 2:
                return now.force[person];
            case 3:
                return now.isClean(person) ? 1 : 0;
            case 4:
                nose.sniff(now);
                return nose.scent[person];
            default:
                throw new NoSuchElementException("no such what");
        }
    }

    public int house(int house, int what) {
        if (!isHouse(house) || what < 0 || what > 4) {
            return NOT_SO;
        }
        if (what == 0) {
            return now.dish[house];
        }
        if (what == 1) {
            return now.peopleIn(house);
        }
        if (what == 4) {
            return now.paid[house];
        }
        nose.sniff(now);
        int heads = nose.countIn(house);
        return what == 2 || heads == NONE ? heads : nose.dueOf(house, heads);
    }

    public int coat(int coat, int what) {
        if (!isCoat(coat)) {
            return NONE;
        }
        switch (what) {
            case 0:
                return now.coatHouse[coat];
            case 1:
                return now.coatKind[coat];
            case 2:
                return now.coatForce[coat];
            default:
                return NONE;
        }
    }

    public int dog(int dog, int what) {
        if (!isDog(dog)) {
            return NONE;
        }
        if (what == 0) {
            return now.dogHouse[dog];
        }
        return what == 1 ? now.noses[dog] : NONE;
    }

    public int air(int house, int kind) {
        if (!isHouse(house) || !isKind(kind)) {
            return NONE;
        }
        nose.sniff(now);
        return nose.airs[house * KINDS + kind];
    }

    public int smells(int dog, int house) {
        if (!isDog(dog) || !isHouse(house)) {
            return NONE;
        }
        nose.sniff(now);
        return nose.smelledIn(dog, house);
    }

    public long law(int what, int one, int kind) {
        nose.sniff(now);
        switch (what) {
            case RULE_SMELL:
                return isPerson(one) ? nose.smellLaw(one, now.home[one]) : ERROR;
            case RULE_NOSE:
                return isDog(one) && isKind(kind) ? nose.noseLawWhereItIs(one, kind) : ERROR;
            case RULE_DUE:
                return hasCount(one) ? nose.dueLaw(one, nose.countIn(one)) : ERROR;
            default:
                return ERROR;
        }
    }

    public boolean move(int person, int house) {
        if (!isPerson(person) || !isHouse(house) || now.home[person] == house) {
            return false;
        }
        past.push(Past.MOVED, person, now.home[person]);
        now.home[person] = house;
        return true;
    }

    public boolean wash(int person, boolean is) {
        if (!isPerson(person) || now.isClean(person) == is) {
            return false;
        }
        past.push(Past.WASHED, person, is ? 0 : 1);
        now.setClean(person, is);
        return true;
    }

    public int hang(int house, int kind, int force) {
        if (!isHouse(house) || !isKind(kind) || force < 1 || force > MOST_FORCE || now.coats >= MOST_COATS) {
            return NONE;
        }
        past.push(Past.HUNG, now.coats, 0);
        now.addCoat(house, kind, force);
        return now.coats - 1;
    }

    public boolean cook(int house, int dish) {
        if (!isHouse(house) || dish < 0 || dish > MOST_DISH || now.dish[house] == dish) {
            return false;
        }
        past.push(Past.COOKED, house, now.dish[house]);
        now.dish[house] = dish;
        return true;
    }

    public boolean send(int dog, int house) {
        if (!isDog(dog) || !isHouse(house) || now.dogHouse[dog] == house) {
            return false;
        }
        past.push(Past.SENT, dog, now.dogHouse[dog]);
        now.dogHouse[dog] = house;
        return true;
    }

    public boolean blow(int wind) {
        if (wind < 0 || wind > MOST_WIND || now.wind == wind) {
            return false;
        }
        past.push(Past.BLOWN, 0, now.wind);
        now.wind = wind;
        return true;
    }

    public int years(int n) {
        if (n < 0 || n > 99 || now.year + n > LAST_YEAR) {
            return NONE;
        }
        for (int i = 0; i < n; i++) {
            nose.sniff(now);
            nose.evening();
            now.passYear();
        }
        if (n > 0) {
            past.size = 0;
        }
        return now.year;
    }

    public int walk(int dog, int steps, int what) {
        if (!isDog(dog) || steps < 0 || steps > 12 || what < 0 || what > 2) {
            return NONE;
        }
        nose.sniff(now);
        return questions.bestWalk(dog, steps, what);
    }

    public int washed(int house, int dog, int n) {
        if (!isHouse(house) || !isDog(dog) || n < 0 || n > KINDS) {
            return NONE;
        }
        nose.sniff(now);
        return questions.fewestToWash(house, dog, n);
    }

    public int who(int house, int dog) {
        if (!isHouse(house) || !isDog(dog)) {
            return NONE;
        }
        nose.sniff(now);
        questions.fittingSet(house, dog, NONE);
        return questions.found;
    }

    public int set(int house, int dog, int k) {
        if (!isHouse(house) || !isDog(dog) || k < 0) {
            return NONE;
        }
        nose.sniff(now);
        return questions.fittingSet(house, dog, k);
    }

    public int share(int house, int kind, int what) {
        if (!isHouse(house) || !isKind(kind) || what < 0 || what > 1) {
            return NONE;
        }
        nose.sniff(now);
        int whole = nose.airs[house * KINDS + kind];
        int part = nose.brought(house, kind);
        int divisor = greatestDivisor(whole, part);
        if (divisor == 0) {
            return what;
        }
        return (what == 0 ? part : whole) / divisor;
    }

    private static int greatestDivisor(int a, int b) {
        int one = a;
        int other = b;
        for (int i = 0; i < 64 && other != 0; i++) {
            int left = one % other;
            one = other;
            other = left;
        }
        return one;
    }

    public int ghosts() {
        nose.sniff(now);
        int bits = 0;
        for (int house = 0; house < now.houses; house++) {
            if (now.peopleIn(house) == 0 && nose.countIn(house) > 0) {
                bits |= 1 << house;
            }
        }
        return bits;
    }

    public int wrong() {
        nose.sniff(now);
        int bits = 0;
        for (int house = 0; house < now.houses; house++) {
            int heads = nose.countIn(house);
            if (heads != NONE && heads != now.peopleIn(house)) {
                bits |= 1 << house;
            }
        }
        return bits;
    }

    public int hide(int house, int dog) {
        if (!isHouse(house) || !isDog(dog)) {
            return NONE;
        }
        return questions.leastDish(now, house, dog);
    }

    public int keeps(int coat) {
        if (!isCoat(coat) || now.coatForce[coat] == 0) {
            return NONE;
        }
        return questions.yearsSmelled(now, coat);
    }

    public int rests(int one, int other) {
        if (!canCook(one, other)) {
            return NONE;
        }
        questions.restingDishes(now, one, other, NONE);
        return questions.found;
    }

    public int rest(int one, int other, int k) {
        if (k < 0 || !canCook(one, other)) {
            return NONE;
        }
        return questions.restingDishes(now, one, other, k);
    }

    private boolean canCook(int one, int other) {
        nose.sniff(now);
        return one != other && hasCount(one) && hasCount(other);
    }

    public int seats(int k, int house) {
        if (k < 1 || k > 99 || !isHouse(house)) {
            return NONE;
        }
        nose.sniff(now);
        return questions.seatsOf(k, house);
    }

    public int note(int years, int house, int count, boolean atLeast) {
        if (years < 0 || years > Notebook.MOST_YEARS || !isHouse(house) || count < 0 || count > KINDS) {
            return NONE;
        }
        return notes.write(years, house, count, atLeast);
    }

    public int out(int note) {
        if (note < 0 || note >= notes.size) {
            return NONE;
        }
        return notes.strike(note);
    }

    public boolean known(int n) {
        if (n < Notebook.ALL || n > notes.size) {
            return false;
        }
        notes.first = n;
        return true;
    }

    public int sort(int person) {
        if (!isPerson(person)) {
            return NONE;
        }
        return questions.kindsThatFit(plan.start, person, notes);
    }

    public int chance(int seed, int n, int paid) {
        if (seed < 0 || n < 1 || n > 30 || paid < 0 || paid > 9999) {
            return NONE;
        }
        return questions.timesPaid(now, seed, n, paid);
    }

    public int tried(int what, int i) {
        if (what < 0 || what > 5 || (what == 2 ? !isPerson(i) : i != 0)) {
            return NONE;
        }
        return questions.countsOtherwise(now, what, i);
    }

    public int undo() {
        if (past.size == 0) {
            return NONE;
        }
        past.popInto(now);
        return past.size;
    }

    public int keep() {
        image.become(now);
        imaged = true;
        return now.year;
    }

    public int back() {
        if (!imaged) {
            return NONE;
        }
        now.become(image);
        past.size = 0;
        return now.year;
    }

    public int count(int what) {
        switch (what) {
            case 0:
                return now.houses;
            case 1:
                return now.people;
            case 2:
                return now.coats;
            case 3:
                return now.coatsLeft();
            case 4:
                return now.dogs;
            case 5:
                return plan.laws.size;
            case 6:
                return now.year;
            case 7:
                return now.wind;
            case 8:
                nose.sniff(now);
                return nose.allCounts();
            case 9:
                return now.paidInAll();
            case 10:
                return Integer.bitCount(now.clean);
            case 11:
                return notes.size;
            case 12:
                return notes.knownBy();
            case 13:
                return past.size;
            default:
                return NONE;
        }
    }

    private boolean isHouse(int house) {
        return house >= 0 && house < now.houses;
    }

    private boolean isPerson(int person) {
        return person >= 0 && person < now.people;
    }

    private boolean isCoat(int coat) {
        return coat >= 0 && coat < now.coats;
    }

    private boolean isDog(int dog) {
        return dog >= 0 && dog < now.dogs;
    }

    private static boolean isKind(int kind) {
        return kind >= 0 && kind < KINDS;
    }

    /** The nose must have sniffed the town of now. */
    private boolean hasCount(int house) {
        return isHouse(house) && nose.countIn(house) != NONE;
    }

    /** All that calls and years change, and what goes with it into images and trials. */
    private static final class Town {
        int houses;
        final int[] dish = new int[MOST_HOUSES];
        final int[] paid = new int[MOST_HOUSES];
        int people;
        final int[] home = new int[MOST_PEOPLE];
        final int[] kind = new int[MOST_PEOPLE];
        final int[] force = new int[MOST_PEOPLE];
        /** Who is WASHED, a bit each. */
        int clean;
        int coats;
        final int[] coatHouse = new int[MOST_COATS];
        final int[] coatKind = new int[MOST_COATS];
        final int[] coatForce = new int[MOST_COATS];
        int dogs;
        final int[] dogHouse = new int[MOST_DOGS];
        final int[] noses = new int[MOST_DOGS];
        int wind;
        int tax = 2;
        int year;

        void become(Town other) {
            houses = other.houses;
            people = other.people;
            coats = other.coats;
            dogs = other.dogs;
            wind = other.wind;
            tax = other.tax;
            clean = other.clean;
            year = other.year;
            System.arraycopy(other.dish, 0, dish, 0, MOST_HOUSES);
            System.arraycopy(other.paid, 0, paid, 0, MOST_HOUSES);
            System.arraycopy(other.home, 0, home, 0, MOST_PEOPLE);
            System.arraycopy(other.kind, 0, kind, 0, MOST_PEOPLE);
            System.arraycopy(other.force, 0, force, 0, MOST_PEOPLE);
            System.arraycopy(other.coatHouse, 0, coatHouse, 0, MOST_COATS);
            System.arraycopy(other.coatKind, 0, coatKind, 0, MOST_COATS);
            System.arraycopy(other.coatForce, 0, coatForce, 0, MOST_COATS);
            System.arraycopy(other.dogHouse, 0, dogHouse, 0, MOST_DOGS);
            System.arraycopy(other.noses, 0, noses, 0, MOST_DOGS);
        }

        /** As a TEXT without LINES tells it; people, coats and dogs are written over as they come. */
        void empty() {
            houses = 0;
            people = 0;
            coats = 0;
            dogs = 0;
            wind = 0;
            tax = 2;
            for (int house = 0; house < MOST_HOUSES; house++) {
                dish[house] = 0;
            }
        }

        void addPerson(int house, int ofKind, int strong) {
            if (people < MOST_PEOPLE) {
                home[people] = house;
                kind[people] = ofKind;
                force[people] = strong;
                people++;
            }
        }

        void addCoat(int house, int ofKind, int strong) {
            if (coats < MOST_COATS) {
                coatHouse[coats] = house;
                coatKind[coats] = ofKind;
                coatForce[coats] = strong;
                coats++;
            }
        }

        void addDog(int house, int sharp) {
            if (dogs < MOST_DOGS) {
                dogHouse[dogs] = house;
                noses[dogs] = sharp;
                dogs++;
            }
        }

        int peopleIn(int house) {
            int heads = 0;
            for (int person = 0; person < people; person++) {
                if (home[person] == house) {
                    heads++;
                }
            }
            return heads;
        }

        int coatsLeft() {
            int left = 0;
            for (int coat = 0; coat < coats; coat++) {
                if (coatForce[coat] > 0) {
                    left++;
                }
            }
            return left;
        }

        boolean isClean(int person) {
            return (clean >> person & 1) == 1;
        }

        void setClean(int person, boolean is) {
            clean = is ? clean | 1 << person : clean & ~(1 << person);
        }

        int paidInAll() {
            int sum = 0;
            for (int house = 0; house < houses; house++) {
                sum += paid[house];
            }
            return sum;
        }

        /** What a YEAR brings behind its evening. */
        void passYear() {
            for (int coat = 0; coat < coats; coat++) {
                if (coatForce[coat] > 0) {
                    coatForce[coat]--;
                }
            }
            clean = 0;
            year++;
        }
    }

    /** Names of one sort, each of six letters in thirty bits; of no sort there are more than of people. */
    private static final class Names {
        final int[] codes = new int[MOST_PEOPLE];
        int size;

        int find(int code) {
            for (int i = 0; i < size; i++) {
                if (codes[i] == code) {
                    return i;
                }
            }
            return NONE;
        }

        void add(int code) {
            if (size < MOST_PEOPLE) {
                codes[size] = code;
                size++;
            }
        }
    }

    /** What a TEXT told. Its seed is read, but no call asks for it. */
    private static final class Plan {
        final Town start = new Town();
        final Laws laws = new Laws();
        final Names houses = new Names();
        final Names people = new Names();
        final Names dogs = new Names();
        final boolean[] dishTold = new boolean[MOST_HOUSES];
        /** Of wind, tax and seed. */
        final boolean[] numberTold = new boolean[SEED - WIND + 1];

        void empty() {
            start.empty();
            laws.empty();
            houses.size = 0;
            people.size = 0;
            dogs.size = 0;
            for (int i = 0; i < numberTold.length; i++) {
                numberTold[i] = false;
            }
            for (int house = 0; house < MOST_HOUSES; house++) {
                dishTold[house] = false;
            }
        }
    }

    /** The E of the three laws, each in a row with its signs behind their sides, and how to work them out. */
    private static final class Laws {
        private static final long MOST = 1000000000000L;
        private static final int NAMES = YEAR - FORCE + 1;

        /** A number is itself, all else its token below 0. */
        final int[] knots = new int[MOST_KNOTS];
        int size;
        final int[] from = new int[RULES];
        final int[] to = new int[RULES];
        final boolean[] told = new boolean[RULES];
        private final long[] names = new long[NAMES];
        private final long[] values = new long[MOST_KNOTS];

        void empty() {
            size = 0;
            for (int rule = 0; rule < RULES; rule++) {
                told[rule] = false;
            }
        }

        void add(int knot) {
            if (size < MOST_KNOTS) {
                knots[size] = knot;
                size++;
            }
        }

        void tell(int force, int kind, int heads, int dish, int air, int place, int year) {
            names[0] = force;
            names[1] = kind;
            names[2] = heads;
            names[3] = dish;
            names[4] = air;
            names[5] = place;
            names[6] = year;
        }

        /** The worth of a rule's E by the names told last; ERROR also without such a law. */
        long worth(int rule) {
            if (!told[rule]) {
                return ERROR;
            }
            int depth = 0;
            for (int i = from[rule]; i < to[rule]; i++) {
                int knot = knots[i];
                int token = -knot;
                if (knot >= 0 || token >= FORCE && token <= YEAR) {
                    if (depth >= MOST_KNOTS) {
                        return ERROR;
                    }
                    values[depth] = knot >= 0 ? knot : names[token - FORCE];
                    depth++;
                } else if (token == NOT && depth > 0) {
                    values[depth - 1] = values[depth - 1] == 0 ? 1 : 0;
                } else if (depth > 1) {
                    depth--;
                    values[depth - 1] = joined(token, values[depth - 1], values[depth]);
                    if (values[depth - 1] == ERROR) {
                        return ERROR;
                    }
                }
            }
            return values[0];
        }

        private static long joined(int sign, long a, long b) {
            switch (sign) {
                case PLUS:
                    return a + b > MOST || a + b < -MOST ? ERROR : a + b;
                case MINUS:
                    return a - b > MOST || a - b < -MOST ? ERROR : a - b;
                case TIMES:
                    // The product of two values may be beyond a long, so it is bounded ahead.
                    return a != 0 && (b < 0 ? -b : b) > MOST / (a < 0 ? -a : a) ? ERROR : a * b;
                case BY:
                    return b == 0 ? ERROR : a / b;
                case LESS:
                    return a < b ? 1 : 0;
                case AT_MOST:
                    return a <= b ? 1 : 0;
                case EQUAL:
                    return a == b ? 1 : 0;
                case UNLIKE:
                    return a != b ? 1 : 0;
                case AT_LEAST:
                    return a >= b ? 1 : 0;
                case MORE:
                    return a > b ? 1 : 0;
                case AND:
                    return a != 0 && b != 0 ? 1 : 0;
                case OR:
                    return a != 0 || b != 0 ? 1 : 0;
                default:
                    return ERROR;
            }
        }
    }

    /** The TAPE's bytes as tokens, one at a time. */
    private static final class Tokens {
        private static final int WORDS = LAW - FORCE + 1;
        private static final int LETTERS = 6;
        private static final int BITS = 5;
        // Above every number that a TEXT may hold, and far below what an int holds.
        private static final int TOO_GREAT = 1000000;

        private final int[] words = new int[WORDS];
        private final int[] bytes;
        private int length;
        private int at;
        int token;
        int place;
        int number;
        int code;

        Tokens(int[] tape) {
            bytes = tape;
            int word = 0;
            int letters = 0;
            for (int i = 0; i < LANGUAGE.length() && word < WORDS; i++) {
                char sign = LANGUAGE.charAt(i);
                if (sign == ' ') {
                    words[word] <<= BITS * (LETTERS - letters);
                    word++;
                    letters = 0;
                } else {
                    words[word] = (words[word] << BITS) + sign - 'a' + 1;
                    letters++;
                }
            }
        }

        void start(int n) {
            length = n;
            at = 0;
            next();
        }

        void next() {
            while (at < length && (bytes[at] == ' ' || bytes[at] == 10)) {
                at++;
            }
            place = at;
            if (at >= length) {
                token = END;
            } else if (bytes[at] >= 'a' && bytes[at] <= 'z') {
                nextWord();
            } else if (bytes[at] >= '0' && bytes[at] <= '9') {
                nextNumber();
            } else {
                token = signOf(bytes[at]);
                at++;
                joinSign();
            }
        }

        private void nextWord() {
            int bits = 0;
            int letters = 0;
            while (at < length && bytes[at] >= 'a' && bytes[at] <= 'z') {
                bits = (bits << BITS) + bytes[at] - 'a' + 1;
                letters++;
                at++;
            }
            if (letters > LETTERS) {
                token = BAD;
                return;
            }
            code = bits << BITS * (LETTERS - letters);
            token = NAME;
            for (int i = 0; i < WORDS; i++) {
                if (words[i] == code) {
                    token = FORCE + i;
                }
            }
        }

        private void nextNumber() {
            token = NUMBER;
            number = 0;
            while (at < length && bytes[at] >= '0' && bytes[at] <= '9') {
                number = number > TOO_GREAT ? number : number * 10 + bytes[at] - '0';
                at++;
            }
        }

        private static int signOf(int sign) {
            switch (sign) {
                case ';':
                    return SEMICOLON;
                case '(':
                    return OPEN;
                case ')':
                    return CLOSE;
                case '+':
                    return PLUS;
                case '-':
                    return MINUS;
                case '*':
                    return TIMES;
                case '/':
                    return BY;
                case '<':
                    return LESS;
                case '=':
                    return EQUAL;
                case '>':
                    return MORE;
                default:
                    return BAD;
            }
        }

        /** A = (or > behind <) right behind < or > belongs to it. */
        private void joinSign() {
            if (at >= length || token != LESS && token != MORE) {
                return;
            }
            if (bytes[at] == '=') {
                token = token == LESS ? AT_MOST : AT_LEAST;
                at++;
            } else if (bytes[at] == '>' && token == LESS) {
                token = UNLIKE;
                at++;
            }
        }
    }

    /** Reads a TEXT into a plan up to its first FAULT; what reads something answers false with a FAULT. */
    private static final class Reader {
        private static final int MISPLACED = 1;
        private static final int TOO_MUCH = 2;
        private static final int TOLD = 3;
        private static final int UNTOLD = 4;
        /** Of wind, tax and seed. */
        private static final int[] MOST_NUMBERS = {MOST_WIND, 99, 99999};

        int lines;
        int fault;
        int place = NONE;
        private final Tokens tokens;
        private Plan plan;
        private int knotsMet;
        /** What was taken last of each. */
        private int house;
        private int kind;
        private int number;

        Reader(int[] tape, Plan first) {
            tokens = new Tokens(tape);
            plan = first;
        }

        boolean reads(int n, Plan into) {
            plan = into;
            plan.empty();
            lines = 0;
            fault = 0;
            place = NONE;
            knotsMet = 0;
            tokens.start(n);
            for (int i = 0; i < n && tokens.token != END; i++) {
                if (!line() || !take(SEMICOLON)) {
                    return false;
                }
                lines++;
            }
            return true;
        }

        private boolean fail(int what) {
            fault = what;
            place = tokens.place;
            return false;
        }

        private boolean take(int token) {
            if (tokens.token != token) {
                return fail(MISPLACED);
            }
            tokens.next();
            return true;
        }

        private boolean line() {
            switch (tokens.token) {
                case HOUSE:
                    return houseLine();
                case PERSON:
                    return personLine();
                case COAT:
                    return coatLine();
                case DISH:
                    return dishLine();
                case DOG:
                    return dogLine();
                case WIND:
                case TAX:
                case SEED:
                    return numberLine();
                case LAW:
                    return lawLine();
                default:
                    return fail(MISPLACED);
            }
        }

        private boolean houseLine() {
            if (!begin(plan.start.houses, MOST_HOUSES) || !takeNewName(plan.houses)) {
                return false;
            }
            plan.start.houses++;
            return true;
        }

        private boolean personLine() {
            if (!begin(plan.start.people, MOST_PEOPLE) || !takeNewName(plan.people) || !takeSmell()) {
                return false;
            }
            plan.start.addPerson(house, kind, number);
            return true;
        }

        private boolean coatLine() {
            if (!begin(plan.start.coats, MOST_COATS_TOLD) || !takeSmell()) {
                return false;
            }
            plan.start.addCoat(house, kind, number);
            return true;
        }

        private boolean dishLine() {
            tokens.next();
            if (!isHouseTold()) {
                return false;
            }
            if (plan.dishTold[house]) {
                return fail(TOLD);
            }
            plan.dishTold[house] = true;
            tokens.next();
            if (!takeNumber(0, 9)) {
                return false;
            }
            plan.start.dish[house] = number;
            return true;
        }

        private boolean dogLine() {
            if (!begin(plan.start.dogs, MOST_DOGS) || !takeNewName(plan.dogs) || !isHouseTold()) {
                return false;
            }
            tokens.next();
            if (!takeNumber(1, MOST_FORCE)) {
                return false;
            }
            plan.start.addDog(house, number);
            return true;
        }

        private boolean numberLine() {
            int which = tokens.token - WIND;
            if (plan.numberTold[which]) {
                return fail(TOLD);
            }
            plan.numberTold[which] = true;
            tokens.next();
            if (!takeNumber(0, MOST_NUMBERS[which])) {
                return false;
            }
            if (which == 0) {
                plan.start.wind = number;
            } else if (which == 1) {
                plan.start.tax = number;
            }
            return true;
        }

        /** Takes the word of a LINE that tells one more of what there are some already. */
        private boolean begin(int some, int most) {
            if (some >= most) {
                return fail(TOO_MUCH);
            }
            tokens.next();
            return true;
        }

        private boolean takeNewName(Names names) {
            if (tokens.token != NAME) {
                return fail(MISPLACED);
            }
            if (names.find(tokens.code) != NONE) {
                return fail(TOLD);
            }
            names.add(tokens.code);
            tokens.next();
            return true;
        }

        /** A HOUSE, a KIND and a FORCE, as people and coats have them. */
        private boolean takeSmell() {
            if (!isHouseTold()) {
                return false;
            }
            tokens.next();
            if (!takeNumber(0, KINDS - 1)) {
                return false;
            }
            kind = number;
            return takeNumber(1, MOST_FORCE);
        }

        /** Leaves the token, for a FAULT of the LINE may still be at it. */
        private boolean isHouseTold() {
            if (tokens.token != NAME) {
                return fail(MISPLACED);
            }
            int told = plan.houses.find(tokens.code);
            if (told == NONE) {
                return fail(UNTOLD);
            }
            house = told;
            return true;
        }

        private boolean takeNumber(int least, int most) {
            if (!isNumber(least, most)) {
                return false;
            }
            number = tokens.number;
            tokens.next();
            return true;
        }

        private boolean isNumber(int least, int most) {
            if (tokens.token != NUMBER) {
                return fail(MISPLACED);
            }
            return tokens.number >= least && tokens.number <= most || fail(TOO_MUCH);
        }

        private boolean lawLine() {
            tokens.next();
            if (tokens.token < SMELL || tokens.token > DUE) {
                return fail(MISPLACED);
            }
            int rule = tokens.token - SMELL;
            if (plan.laws.told[rule]) {
                return fail(TOLD);
            }
            plan.laws.told[rule] = true;
            plan.laws.from[rule] = plan.laws.size;
            tokens.next();
            boolean read = alternatives(0);
            plan.laws.to[rule] = plan.laws.size;
            return read;
        }

        /** Takes a token that is a KNOT. */
        private boolean takeKnot() {
            if (knotsMet >= MOST_KNOTS) {
                return fail(TOO_MUCH);
            }
            knotsMet++;
            tokens.next();
            return true;
        }

        private boolean alternatives(int open) {
            if (!conditions(open)) {
                return false;
            }
            for (int i = 0; i < TAPE && tokens.token == OR; i++) {
                if (!takeKnot() || !conditions(open)) {
                    return false;
                }
                plan.laws.add(-OR);
            }
            return true;
        }

        private boolean conditions(int open) {
            if (!condition(open)) {
                return false;
            }
            for (int i = 0; i < TAPE && tokens.token == AND; i++) {
                if (!takeKnot() || !condition(open)) {
                    return false;
                }
                plan.laws.add(-AND);
            }
            return true;
        }

        private boolean condition(int open) {
            int nots = 0;
            for (int i = 0; i < TAPE && tokens.token == NOT; i++) {
                if (!takeKnot()) {
                    return false;
                }
                nots++;
            }
            if (!comparison(open)) {
                return false;
            }
            for (int i = 0; i < nots; i++) {
                plan.laws.add(-NOT);
            }
            return true;
        }

        private boolean comparison(int open) {
            if (!sum(open)) {
                return false;
            }
            int sign = tokens.token;
            if (sign < LESS || sign > MORE) {
                return true;
            }
            if (!takeKnot() || !sum(open)) {
                return false;
            }
            plan.laws.add(-sign);
            return true;
        }

        private boolean sum(int open) {
            if (!product(open)) {
                return false;
            }
            for (int i = 0; i < TAPE && (tokens.token == PLUS || tokens.token == MINUS); i++) {
                int sign = tokens.token;
                if (!takeKnot() || !product(open)) {
                    return false;
                }
                plan.laws.add(-sign);
            }
            return true;
        }

        private boolean product(int open) {
            if (!part(open)) {
                return false;
            }
            for (int i = 0; i < TAPE && (tokens.token == TIMES || tokens.token == BY); i++) {
                int sign = tokens.token;
                if (!takeKnot() || !part(open)) {
                    return false;
                }
                plan.laws.add(-sign);
            }
            return true;
        }

        private boolean part(int open) {
            int token = tokens.token;
            if (token == OPEN) {
                return open < MOST_OPEN ? enclosed(open + 1) : fail(TOO_MUCH);
            }
            if (token >= FORCE && token <= YEAR) {
                plan.laws.add(-token);
                return takeKnot();
            }
            if (!isNumber(0, 9999)) {
                return false;
            }
            plan.laws.add(tokens.number);
            return takeKnot();
        }

        private boolean enclosed(int open) {
            tokens.next();
            return alternatives(open) && take(CLOSE);
        }
    }

    /** What there is to smell in a town, and what dogs make of it. All but sniff() speak of the town sniffed last. */
    private static final class Nose {
        Laws laws;
        Town town;
        /** The SMELL of each PERSON where that one is, as if unWASHED. */
        final int[] scent = new int[MOST_PEOPLE];
        /** The AIR, KINDS of them for each HOUSE. */
        final int[] airs = new int[MOST_HOUSES * KINDS];

        Nose(Laws first, Town sniffed) {
            laws = first;
            town = sniffed;
        }

        void sniff(Town sniffed) {
            town = sniffed;
            for (int i = 0; i < town.houses * KINDS; i++) {
                airs[i] = 0;
            }
            for (int person = 0; person < town.people; person++) {
                int house = town.home[person];
                scent[person] = smellOf(person, house);
                if (!town.isClean(person)) {
                    airs[house * KINDS + town.kind[person]] += scent[person];
                }
            }
            for (int coat = 0; coat < town.coats; coat++) {
                airs[town.coatHouse[coat] * KINDS + town.coatKind[coat]] += town.coatForce[coat];
            }
            for (int house = 1; house < town.houses; house++) {
                for (int kind = 0; kind < KINDS; kind++) {
                    airs[house * KINDS + kind] += brought(house, kind);
                }
            }
        }

        /** What the WIND brings of a KIND to a HOUSE. */
        int brought(int house, int kind) {
            return house == 0 ? 0 : airs[(house - 1) * KINDS + kind] * town.wind / 100;
        }

        long smellLaw(int person, int house) {
            laws.tell(town.force[person], town.kind[person], 0, town.dish[house], 0, house, town.year);
            return laws.worth(RULE_SMELL);
        }

        /** The SMELL of a PERSON who would be in a HOUSE. */
        int smellOf(int person, int house) {
            long worth = smellLaw(person, house);
            return worth == ERROR ? town.force[person] : within(worth, 99);
        }

        private static int within(long worth, int most) {
            if (worth < 0) {
                return 0;
            }
            return worth > most ? most : (int) worth;
        }

        long noseLaw(int dog, int house, int kind, int air) {
            laws.tell(town.noses[dog], kind, 0, town.dish[house], air, house, town.year);
            return laws.worth(RULE_NOSE);
        }

        long noseLawWhereItIs(int dog, int kind) {
            int house = town.dogHouse[dog];
            return noseLaw(dog, house, kind, airs[house * KINDS + kind]);
        }

        /** KINDS (bits) that a DOG would SMELL in a HOUSE, if its AIR were the row's KINDS numbers from a place on. */
        int smelledOf(int dog, int house, int[] row, int first) {
            int bits = 0;
            for (int kind = 0; kind < KINDS && first + kind < row.length; kind++) {
                int air = row[first + kind];
                if (air > town.dish[house]) {
                    long worth = noseLaw(dog, house, kind, air);
                    if (worth == ERROR ? air >= town.noses[dog] : worth != 0) {
                        bits |= 1 << kind;
                    }
                }
            }
            return bits;
        }

        int smelledIn(int dog, int house) {
            return smelledOf(dog, house, airs, house * KINDS);
        }

        /** The COUNT of a HOUSE. */
        int countIn(int house) {
            int most = NONE;
            for (int dog = 0; dog < town.dogs; dog++) {
                if (town.dogHouse[dog] == house) {
                    int bits = smelledOf(dog, house, airs, house * KINDS);
                    most = Math.max(most, Integer.bitCount(bits));
                }
            }
            return most;
        }

        int allCounts() {
            int sum = 0;
            for (int house = 0; house < town.houses; house++) {
                sum += Math.max(0, countIn(house));
            }
            return sum;
        }

        long dueLaw(int house, int heads) {
            laws.tell(0, 0, heads, town.dish[house], 0, house, town.year);
            return laws.worth(RULE_DUE);
        }

        int dueOf(int house, int heads) {
            long worth = dueLaw(house, heads);
            return worth == ERROR ? town.tax * heads : within(worth, 999);
        }

        /** Each HOUSE with a COUNT pays; how much in sum. */
        int evening() {
            int sum = 0;
            for (int house = 0; house < town.houses; house++) {
                int heads = countIn(house);
                if (heads != NONE) {
                    int due = dueOf(house, heads);
                    town.paid[house] += due;
                    sum += due;
                }
            }
            return sum;
        }
    }

    /** What was done by calls since the last YEAR, the latest twenty. */
    private static final class Past {
        static final int MOVED = 0;
        static final int WASHED = 1;
        static final int HUNG = 2;
        static final int COOKED = 3;
        static final int SENT = 4;
        static final int BLOWN = 5;

        int size;
        private final int[] what = new int[MOST_UNDONE];
        private final int[] which = new int[MOST_UNDONE];
        private final int[] before = new int[MOST_UNDONE];

        void push(int done, int one, int old) {
            if (size >= MOST_UNDONE) {
                dropFirst();
            }
            what[size] = done;
            which[size] = one;
            before[size] = old;
            size++;
        }

        private void dropFirst() {
            size = MOST_UNDONE - 1;
            System.arraycopy(what, 1, what, 0, size);
            System.arraycopy(which, 1, which, 0, size);
            System.arraycopy(before, 1, before, 0, size);
        }

        void popInto(Town town) {
            if (size <= 0) {
                return;
            }
            size--;
            int one = which[size];
            int old = before[size];
            switch (what[size]) {
                case MOVED:
                    town.home[one] = old;
                    break;
                case WASHED:
                    town.setClean(one, old != 0);
                    break;
                case HUNG:
                    town.coats = one;
                    break;
                case COOKED:
                    town.dish[one] = old;
                    break;
                case SENT:
                    town.dogHouse[one] = old;
                    break;
                default:
                    town.wind = old;
            }
        }
    }

    /** The NOTES, those that strike others among them. */
    private static final class Notebook {
        static final int ALL = -1;
        static final int MOST_YEARS = 8;

        int size;
        /** By how many it is KNOWN, or ALL. */
        int first = ALL;
        /** The last YEAR of which a note tells that counts, by settle(). */
        int lastYear = NONE;
        private final int[] years = new int[MOST_NOTES];
        private final int[] houses = new int[MOST_NOTES];
        private final int[] counts = new int[MOST_NOTES];
        private final boolean[] atLeast = new boolean[MOST_NOTES];
        private final int[] strikes = new int[MOST_NOTES];
        private final boolean[] struck = new boolean[MOST_NOTES];

        void forget() {
            size = 0;
            first = ALL;
        }

        int write(int behind, int house, int heads, boolean least) {
            if (size >= MOST_NOTES) {
                return NONE;
            }
            years[size] = behind;
            houses[size] = house;
            counts[size] = heads;
            atLeast[size] = least;
            strikes[size] = NONE;
            size++;
            return size - 1;
        }

        int strike(int one) {
            if (size >= MOST_NOTES) {
                return NONE;
            }
            strikes[size] = one;
            size++;
            return size - 1;
        }

        int knownBy() {
            return first == ALL ? size : first;
        }

        /** Finds which are STRUCK, from the last one on: so each is settled before it strikes one ahead of it. */
        void settle() {
            int n = knownBy();
            lastYear = NONE;
            for (int i = 0; i < n; i++) {
                struck[i] = false;
            }
            for (int i = n - 1; i >= 0; i--) {
                if (!struck[i] && strikes[i] == NONE) {
                    lastYear = Math.max(lastYear, years[i]);
                } else if (!struck[i]) {
                    struck[strikes[i]] = true;
                }
            }
        }

        /** Whether a note that was settled tells of a YEAR and counts. */
        boolean tellsOf(int i, int year) {
            return !struck[i] && strikes[i] == NONE && years[i] == year;
        }

        boolean isSo(int i, int heads) {
            return atLeast[i] ? heads >= counts[i] : heads < counts[i];
        }

        int houseOf(int i) {
            return houses[i];
        }
    }

    /** The answers that try many things; where no town is given, they speak of the town that the nose sniffed last. */
    private static final class Questions {
        private static final int DISHES = 10;
        private static final int TIMES_DRAWN = 10;

        /** How many the last search found. */
        int found;
        private final Nose nose;
        private final Town trial = new Town();
        private final int[] row = new int[KINDS];
        private final int[] scents = new int[MOST_PEOPLE];
        private final int[] prices = new int[DISHES * DISHES];
        private final int[] otherPrices = new int[DISHES * DISHES];
        private final int[] heads = new int[MOST_HOUSES];
        private final int[] dealt = new int[MOST_HOUSES];

        Questions(Nose asked) {
            nose = asked;
        }

        int bestWalk(int dog, int steps, int what) {
            int own = nose.town.dogHouse[dog];
            int right = rightHouses(dog);
            int bestLeft = own;
            int bestEnd = own;
            int most = NONE;
            for (int left = 0; left <= own; left++) {
                for (int end = own; end < nose.town.houses; end++) {
                    int walked = (2 << end) - (1 << left);
                    int among = Integer.bitCount(right & walked);
                    if (among > most && stepsOf(own - left, end - own) <= steps) {
                        most = among;
                        bestLeft = left;
                        bestEnd = end;
                    }
                }
            }
            if (what == 2) {
                return most;
            }
            return what == 0 ? bestLeft : bestEnd;
        }

        /** HOUSES (bits) in which a DOG would COUNT what is TRUE. */
        private int rightHouses(int dog) {
            int bits = 0;
            for (int house = 0; house < nose.town.houses; house++) {
                if (Integer.bitCount(nose.smelledIn(dog, house)) == nose.town.peopleIn(house)) {
                    bits |= 1 << house;
                }
            }
            return bits;
        }

        /** The shorter side is walked to and fro. */
        private static int stepsOf(int toLeft, int toRight) {
            return toLeft + toRight + Math.min(toLeft, toRight);
        }

        int fewestToWash(int house, int dog, int n) {
            Town town = nose.town;
            int may = 0;
            for (int person = 0; person < town.people; person++) {
                if (town.home[person] == house && !town.isClean(person)) {
                    may |= 1 << person;
                }
            }
            int best = NOT_SO;
            int fewest = MOST_PEOPLE + 1;
            for (int set = 0; set <= may; set++) {
                if ((set & ~may) == 0 && Integer.bitCount(set) < fewest) {
                    airWithout(set, house);
                    if (Integer.bitCount(nose.smelledOf(dog, house, row, 0)) == n) {
                        best = set;
                        fewest = Integer.bitCount(set);
                    }
                }
            }
            return best;
        }

        private void airWithout(int set, int house) {
            Town town = nose.town;
            System.arraycopy(nose.airs, house * KINDS, row, 0, KINDS);
            for (int person = 0; person < town.people; person++) {
                if ((set >> person & 1) == 1) {
                    row[town.kind[person]] -= nose.scent[person];
                }
            }
        }

        /** The k-th set of WHO; without so many, found tells how many there are. */
        int fittingSet(int house, int dog, int k) {
            Town town = nose.town;
            int wanted = nose.smelledIn(dog, house);
            for (int person = 0; person < town.people; person++) {
                scents[person] = nose.smellOf(person, house);
            }
            found = 0;
            for (int set = 0; set < 1 << town.people; set++) {
                airOf(set);
                if (nose.smelledOf(dog, house, row, 0) == wanted) {
                    if (found == k) {
                        return set;
                    }
                    found++;
                }
            }
            return NOT_SO;
        }

        private void airOf(int set) {
            Town town = nose.town;
            for (int kind = 0; kind < KINDS; kind++) {
                row[kind] = 0;
            }
            for (int person = 0; person < town.people; person++) {
                if ((set >> person & 1) == 1) {
                    row[town.kind[person]] += scents[person];
                }
            }
        }

        int leastDish(Town now, int house, int dog) {
            trial.become(now);
            for (int dish = 0; dish <= MOST_DISH; dish++) {
                trial.dish[house] = dish;
                nose.sniff(trial);
                if (nose.smelledIn(dog, house) == 0) {
                    return dish;
                }
            }
            return NOT_SO;
        }

        int yearsSmelled(Town now, int coat) {
            trial.become(now);
            for (int year = 0; year <= 9; year++) {
                nose.sniff(trial);
                if (!isSmelled(trial.coatKind[coat], trial.coatHouse[coat])) {
                    return year;
                }
                trial.passYear();
            }
            return NOT_SO;
        }

        private boolean isSmelled(int kind, int house) {
            for (int dog = 0; dog < nose.town.dogs; dog++) {
                if ((nose.smelledIn(dog, house) >> kind & 1) == 1) {
                    return true;
                }
            }
            return false;
        }

        /** The k-th REST; without so many, found tells how many there are. */
        int restingDishes(Town now, int one, int other, int k) {
            priceDishes(now, one, other);
            found = 0;
            for (int pair = 0; pair < DISHES * DISHES; pair++) {
                if (isRest(pair)) {
                    if (found == k) {
                        return pair;
                    }
                    found++;
                }
            }
            return NOT_SO;
        }

        private void priceDishes(Town now, int one, int other) {
            trial.become(now);
            for (int pair = 0; pair < DISHES * DISHES; pair++) {
                trial.dish[one] = pair / DISHES;
                trial.dish[other] = pair % DISHES;
                nose.sniff(trial);
                prices[pair] = nose.dueOf(one, nose.countIn(one)) + trial.dish[one];
                otherPrices[pair] = nose.dueOf(other, nose.countIn(other)) + trial.dish[other];
            }
        }

        private boolean isRest(int pair) {
            int dish = pair / DISHES;
            int otherDish = pair % DISHES;
            for (int i = 0; i < DISHES; i++) {
                if (prices[i * DISHES + otherDish] < prices[pair]
                        || otherPrices[dish * DISHES + i] < otherPrices[pair]) {
                    return false;
                }
            }
            return true;
        }

        int seatsOf(int k, int asked) {
            int houses = nose.town.houses;
            for (int house = 0; house < houses; house++) {
                heads[house] = Math.max(0, nose.countIn(house));
                dealt[house] = 0;
            }
            for (int seat = 0; seat < k; seat++) {
                int best = 0;
                for (int house = 1; house < houses; house++) {
                    if (heads[house] * (dealt[best] + 1) > heads[best] * (dealt[house] + 1)) {
                        best = house;
                    }
                }
                dealt[best]++;
            }
            return dealt[asked];
        }

        int kindsThatFit(Town start, int person, Notebook notes) {
            notes.settle();
            int bits = 0;
            for (int kind = 0; kind < KINDS; kind++) {
                trial.become(start);
                trial.kind[person] = kind;
                if (isAllSo(notes)) {
                    bits |= 1 << kind;
                }
            }
            return bits;
        }

        private boolean isAllSo(Notebook notes) {
            for (int year = 0; year <= notes.lastYear; year++) {
                nose.sniff(trial);
                for (int i = 0; i < notes.knownBy(); i++) {
                    if (notes.tellsOf(i, year) && !notes.isSo(i, Math.max(0, nose.countIn(notes.houseOf(i))))) {
                        return false;
                    }
                }
                trial.passYear();
            }
            return true;
        }

        int timesPaid(Town now, int seed, int years, int least) {
            long number = seed;
            int times = 0;
            for (int time = 0; time < TIMES_DRAWN; time++) {
                trial.become(now);
                int sum = 0;
                for (int year = 0; year < years; year++) {
                    number = (number * 1103515245L + 12345L) & 0x7fffffffL;
                    trial.wind = (int) (number / 65536 % 101);
                    nose.sniff(trial);
                    sum += nose.evening();
                    trial.passYear();
                }
                if (sum >= least) {
                    times++;
                }
            }
            return times;
        }

        int countsOtherwise(Town now, int what, int person) {
            trial.become(now);
            switch (what) {
                case 1:
                    trial.wind = 0;
                    break;
                case 2:
                    // Who is WASHED counts in no AIR, just as one who isn't there.
                    trial.setClean(person, true);
                    break;
                case 3:
                    for (int house = 0; house < trial.houses; house++) {
                        trial.dish[house] = 0;
                    }
                    break;
                case 4:
                    trial.coats = 0;
                    break;
                case 5:
                    trial.clean = 0;
                    break;
                default:
                    break;
            }
            nose.sniff(trial);
            return nose.allCounts();
        }
    }
}
