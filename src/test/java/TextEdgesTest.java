import java.math.BigInteger;

/** The sentences of "Terms" up to ==== 2 that name an edge, each with a test of its own. */
public final class TextEdgesTest {
    private static final int NONE = NoseCensus.NONE;
    private static final String[] LANGUAGE = {"house", "person", "coat", "dish", "dog", "wind", "tax", "seed", "law",
        "smell", "nose", "due", "or", "and", "not", "force", "kind", "heads", "air", "place", "year"};
    private static final String[] NAMES = {"force", "kind", "heads", "dish", "air", "place", "year"};
    private static final String[] SIGNS = {"+", "-", "*", "/", "<", "<=", "=", "<>", ">=", ">"};
    /** Lines that may stand behind AHEAD, a blank between any two tokens. */
    private static final String AHEAD = "house a;";
    private static final String[] LINES = {"house b ;", "person p a 0 1 ;", "coat a 0 1 ;", "dish a 1 ;",
        "dog d a 1 ;", "wind 1 ;", "tax 1 ;", "seed 1 ;", "law smell 1 ;", "law nose air >= force ;",
        "law due ( force + 2 ) * 3 < ( not 4 ) and not 5 or 6 - 7 / 8 ;"};
    /** What may stand there: l a word that begins a line, w a new name, h a house, n a number, r a rule. */
    private static final String[] FORMS = {"lw;", "lwhnn;", "lhnn;", "lhn;", "lwhn;", "ln;", "ln;", "ln;"};

    public static void main(String[] args) {
        aTextIsLinesWithSigns();
        allLinesThatThereMayBe();
        eachByteAlone();
        eachByteBetween();
        wordsOfOneToSixLetters();
        wordsOfTheLanguage();
        numbersAreDigits();
        theLeastAndTheMostAreTold();
        withoutALine();
        namesOfTheirKind();
        lengthIfMoreMustCome();
        tokensThatCantStandThere();
        eachRuleOfE();
        signsOfTwo();
        eighthHouseAndSoOn();
        ninthBracket();
        knotsAreOneEach();
        the65thKnot();
        toldAlready();
        housesNotToldAhead();
        ofOnePlaceTheLeast();
        faultsOfOneTextAlone();
        Check.end();
    }

    private static void faulty(String text, int fault, int place) {
        Check.faulty(text, fault, place);
    }

    private static NoseCensus fine(String text) {
        return Check.fine(text);
    }

    /** "A TEXT: { LINE ';' }." */
    private static void aTextIsLinesWithSigns() {
        for (String none : new String[] {"", " ", "\n", " \n \n"}) {
            Check.same("lines of none", Check.told(new NoseCensus(), none), 0);
        }
        fine("wind 1;");
        fine("wind 1;tax 1;");
        faulty(";", 1, 0);
        faulty(" ;", 1, 1);
        faulty("wind 1;;", 1, 7);
        faulty("wind 1", 1, 6);
        faulty("wind 1 tax 1;", 1, 7);
        faulty("wind 1;tax 1", 1, 12);
    }

    private static String many(int n, String front, String back) {
        StringBuilder text = new StringBuilder();
        for (int i = 0; i < n; i++) {
            text.append(front).append((char) ('a' + i)).append(back);
        }
        return text.toString();
    }

    /** "at most 7", "at most 9", "at most 8", "at most 3", "each once": all full in one text of 700 bytes. */
    private static void allLinesThatThereMayBe() {
        String lines = many(7, "house ", ";") + many(9, "person ", " g 7 9;") + "coat g 7 9;".repeat(8)
                + many(7, "dish ", " 9;") + many(3, "dog ", " g 9;") + "wind 100;tax 99;seed 99999;law smell 99;"
                + "law nose 1;";
        String last = "law due 999;";
        NoseCensus x = fine(lines + " ".repeat(700 - lines.length() - last.length()) + last);
        int[] due = {7, 9, 8, 8, 3, 3, 0, 100, 1};
        for (int what = 0; what < due.length; what++) {
            Check.same("all full: count(" + what + ")", x.count(what), due[what]);
        }
        Check.same("all full: named(0, g)", x.named(0, Check.letters("g")), 6);
        Check.same("all full: named(1, i)", x.named(1, Check.letters("i")), 8);
        Check.same("all full: named(2, c)", x.named(2, Check.letters("c")), 2);
        Check.same("all full: air(6, 7)", x.air(6, 7), 9 * 99 + 8 * 9);
        Check.same("all full: house(6, 3)", x.house(6, 3), 999);
        faulty(" ".repeat(694) + "wind 1", 1, 700);
        faulty(" ".repeat(699) + "#", 1, 699);
        fine(" ".repeat(693) + "wind 1;");
    }

    /** "Blanks 10, 32"; "a TOKEN that is none". */
    private static void eachByteAlone() {
        for (int sign = 0; sign < 256; sign++) {
            if (sign == 10 || sign == 32) {
                fine("" + (char) sign);
            } else {
                faulty("" + (char) sign, 1, 0);
            }
        }
    }

    private static void eachByteBetween() {
        for (int sign = 0; sign < 256; sign++) {
            String text = "wind 5" + (char) sign + ";";
            if (sign == 10 || sign == 32) {
                Check.same("blank " + sign, fine(text).count(7), 5);
            } else if (sign >= '0' && sign <= '9') {
                Check.same("digit " + sign, fine(text).count(7), 50 + sign - '0');
            } else {
                faulty(text, 1, sign == ';' ? 7 : 6);
            }
            String word = "house a" + (char) sign + "b;";
            if (sign >= 'a' && sign <= 'z') {
                Check.same("letter " + sign, fine(word).named(0, Check.letters("a" + (char) sign + "b")), 0);
            } else {
                faulty(word, 1, sign == 10 || sign == 32 || sign == ';' ? 8 : 7);
            }
        }
        fine("\n\n house\na\n;\n \nperson  p \na 0\n1 ; wind5\n;");
    }

    /** "W: one of 1 .. 6 letters"; "a word of more than 6 letters that is none of the language, too". */
    private static void wordsOfOneToSixLetters() {
        String word = "zabcdefghijklmnopqrstuvwxyzabcdefghijk";
        for (int letters = 1; letters <= 6; letters++) {
            String name = word.substring(0, letters);
            NoseCensus x = fine("house " + name + ";person " + name + " " + name + " 0 1;coat " + name + " 0 1;dish "
                    + name + " 1;dog " + name + " " + name + " 1;");
            for (int what = 0; what <= 2; what++) {
                Check.same("named(" + what + ", " + name + ")", x.named(what, Check.letters(name)), 0);
            }
        }
        for (int letters : new int[] {7, 8, 12, 13, 33, 38}) {
            String name = word.substring(0, letters);
            faulty(name + " a;", 1, 0);
            faulty("house " + name + ";", 1, 6);
            // Its first six letters are told, its last six too.
            String ahead = "house " + name.substring(0, 6) + ";house " + name.substring(letters - 6) + ";house h;";
            faulty(ahead + "person " + name + " h 0 1;", 1, ahead.length() + 7);
            faulty(ahead + "person p " + name + " 0 1;", 1, ahead.length() + 9);
            faulty(ahead + "coat " + name + " 0 1;", 1, ahead.length() + 5);
            faulty(ahead + "dish " + name + " 1;", 1, ahead.length() + 5);
            faulty(ahead + "dog " + name + " h 1;", 1, ahead.length() + 4);
            faulty(ahead + "dog d " + name + " 1;", 1, ahead.length() + 6);
            faulty("law " + name + " 1;", 1, 4);
            faulty("law due " + name + ";", 1, 8);
        }
        for (String longer : new String[] {"houses", "lawlaw", "yearyea", "forcee", "personp", "aperson"}) {
            faulty(longer + " a;", 1, 0);
            faulty("law due " + longer + ";", 1, 8);
        }
        Check.same("a longer word of six", fine("house houses;").named(0, Check.letters("houses")), 0);
        Check.same("a shorter word", fine("house hous;").named(0, Check.letters("hous")), 0);
    }

    /** "none of those of the language". */
    private static void wordsOfTheLanguage() {
        for (String word : LANGUAGE) {
            faulty("house " + word + ";", 1, 6);
            faulty("house a;person " + word + " a 0 1;", 1, 15);
            faulty("house a;person p " + word + " 0 1;", 1, 17);
            faulty("house a;coat " + word + " 0 1;", 1, 13);
            faulty("house a;dish " + word + " 1;", 1, 13);
            faulty("house a;dog " + word + " a 1;", 1, 12);
            faulty("house a;dog d " + word + " 1;", 1, 14);
        }
    }

    /** One place of a number: what stands ahead of it and behind it, and its bounds. */
    private static void number(String ahead, String behind, int least, int most) {
        fine(ahead + least + behind);
        fine(ahead + most + behind);
        fine(ahead + "0000000000000000000000" + least + behind);
        fine(ahead + "0000000000000000000000" + most + behind);
        if (least > 0) {
            faulty(ahead + (least - 1) + behind, 2, ahead.length());
            faulty(ahead + "000" + behind, 2, ahead.length());
        }
        faulty(ahead + (most + 1) + behind, 2, ahead.length());
        faulty(ahead + "00" + (most + 1) + behind, 2, ahead.length());
        faulty(ahead + most + "0" + behind, 2, ahead.length());
        for (int bits : new int[] {8, 16, 31, 32, 63, 64, 128}) {
            BigInteger wrapped = BigInteger.ONE.shiftLeft(bits).add(BigInteger.valueOf(least));
            if (wrapped.compareTo(BigInteger.valueOf(most)) > 0) {
                faulty(ahead + wrapped + behind, 2, ahead.length());
            }
        }
        faulty(ahead + "9".repeat(300) + behind, 2, ahead.length());
        faulty(ahead + "-" + least + behind, 1, ahead.length());
        faulty(ahead + "+" + least + behind, 1, ahead.length());
        faulty(ahead + "x" + behind, 1, ahead.length());
    }

    /** "a number beyond what is said", each number of a line and of E; "N: digits". */
    private static void numbersAreDigits() {
        number("house a;person p a ", " 1;", 0, 7);
        number("house a;person p a 0 ", ";", 1, 9);
        number("house a;coat a ", " 1;", 0, 7);
        number("house a;coat a 0 ", ";", 1, 9);
        number("house a;dish a ", ";", 0, 9);
        number("house a;dog d a ", ";", 1, 9);
        number("wind ", ";", 0, 100);
        number("tax ", ";", 0, 99);
        number("seed ", ";", 0, 99999);
        number("law smell ", ";", 0, 9999);
        number("law nose (", ");", 0, 9999);
        number("law due 1+(force*", ");", 0, 9999);
    }

    private static void theLeastAndTheMostAreTold() {
        NoseCensus x = fine("house a;person p a 0 1;person q a 7 9;coat a 0 1;coat a 7 9;dish a 9;dog d a 1;dog e a 9;"
                + "wind 100;tax 99;seed 99999;law due 9999;");
        int[][] people = {{0, 0, 1, 0}, {0, 7, 9, 0}};
        int[][] coats = {{0, 0, 1}, {0, 7, 9}};
        for (int one = 0; one < 2; one++) {
            for (int what = 0; what < 4; what++) {
                Check.same("person told", x.person(one, what), people[one][what]);
            }
            for (int what = 0; what < 3; what++) {
                Check.same("coat told", x.coat(one, what), coats[one][what]);
            }
            Check.same("nose told", x.dog(one, 1), one == 0 ? 1 : 9);
        }
        Check.same("dish 9", x.house(0, 0), 9);
        Check.same("wind 100", x.count(7), 100);
        Check.same("9999 of E", x.law(2, 0, 0), 9999);
        x = fine("house a;person p a 0 1;dish a 0;dog d a 1;wind 0;tax 0;law smell 0001;");
        Check.same("dish 0", x.house(0, 0), 0);
        Check.same("wind 0", x.count(7), 0);
        Check.same("count by tax 0", x.house(0, 2), 1);
        Check.same("tax 0", x.house(0, 3), 0);
        Check.same("0001 of E", x.law(0, 0, 0), 1);
        x = fine("house a;person p a 0 1;dog d a 1;tax 99;law smell 0;");
        Check.same("0 of E", x.law(0, 0, 0), 0);
        x = fine("house a;person p a 0 1;dog d a 1;tax 99;");
        Check.same("tax 99", x.house(0, 3), 99);
    }

    /** "(each once; 0 without)", "wind: of a hundred 0 .. 100 (0)", "tax: 0 .. 99 a head (2)". */
    private static void withoutALine() {
        NoseCensus x = fine("house a;house b;person p a 0 1;person q a 1 1;dog d a 1;");
        Check.same("dish without", x.house(0, 0), 0);
        Check.same("dish of another without", x.house(1, 0), 0);
        Check.same("wind without", x.count(7), 0);
        Check.same("tax without: 2 a head", x.house(0, 3), 4);
        Check.same("knots without laws", x.count(5), 0);
        String[] seeds = {"seed 5;", "wind 7;seed 5;", "seed 5;wind 7;", "tax 3;seed 5;", "seed 5;tax 3;"};
        int[] winds = {0, 7, 7, 0, 0};
        int[] taxes = {2, 2, 2, 3, 3};
        for (int i = 0; i < seeds.length; i++) {
            x = fine("house a;person p a 0 1;dog d a 1;" + seeds[i]);
            Check.same("wind of " + seeds[i], x.count(7), winds[i]);
            Check.same("tax of " + seeds[i], x.house(0, 3), taxes[i]);
        }
    }

    /** "All numbered as they come; HOUSES, PEOPLE, DOGS have names of their kind." */
    private static void namesOfTheirKind() {
        NoseCensus x = fine("house b;house a;person a a 0 1;person c b 1 2;person b a 2 3;dog c a 1;"
                + "dog b b 2;dog a b 3;");
        String[] names = {"a", "b", "c"};
        int[][] due = {{1, 0, NONE}, {0, 2, 1}, {2, 1, 0}};
        for (int what = 0; what < 3; what++) {
            for (int i = 0; i < 3; i++) {
                Check.same("named(" + what + ", " + names[i] + ")", x.named(what, Check.letters(names[i])),
                        due[what][i]);
            }
        }
        int[] homes = {1, 0, 1};
        int[] kennels = {1, 0, 0};
        for (int i = 0; i < 3; i++) {
            Check.same("house of person " + i, x.person(i, 0), homes[i]);
            Check.same("house of dog " + i, x.dog(i, 0), kennels[i]);
        }
    }

    /** "(the length, if more must come)": behind each token of each line but its last. */
    private static void lengthIfMoreMustCome() {
        for (String line : LINES) {
            for (int cut = line.indexOf(' '); cut >= 0; cut = line.indexOf(' ', cut + 1)) {
                String text = AHEAD + line.substring(0, cut);
                faulty(text, 1, text.length());
                faulty(text + " \n ", 1, text.length() + 3);
            }
            fine(AHEAD + line);
        }
    }

    private static boolean canStand(char form, String token) {
        switch (form) {
            case 'w':
            case 'h':
                return token.equals("a") || token.equals("zz");
            case 'n':
                return token.equals("5") || token.equals("99999999999");
            case ';':
                return token.equals(";");
            default:
                return token.equals("house") || token.equals("dish") || token.equals("law");
        }
    }

    /** "1 a TOKEN that ... can't stand there": each token of each line in place of each other one. */
    private static void tokensThatCantStandThere() {
        String[] tokens = {"a", "zz", "5", "99999999999", "house", "dish", "law", "smell", "due", "force", "year",
            "not", "and", "or", ";", "(", ")", "+", "-", "*", "/", "<", "<=", "<>", "=", ">", ">=", "#", "A",
            "longname"};
        for (int i = 0; i < FORMS.length; i++) {
            String[] own = LINES[i].split(" ");
            StringBuilder ahead = new StringBuilder(AHEAD);
            for (int at = 0; at < own.length; at++) {
                for (String token : tokens) {
                    if (!canStand(FORMS[i].charAt(at), token)) {
                        faulty(ahead + token + " 1 1 1;", 1, ahead.length());
                    }
                }
                ahead.append(own[at]).append(' ');
            }
        }
        for (String token : tokens) {
            if (!token.equals("smell") && !token.equals("due")) {
                faulty("law " + token + " 1;", 1, 4);
            }
        }
        for (String word : LANGUAGE) {
            boolean begins = "house person coat dish dog wind tax seed law".contains(word);
            if (!begins) {
                faulty(word + " a 1;", 1, 0);
                faulty("wind 1;" + word + " 1;", 1, 7);
            }
        }
    }

    /** "E: A { or A }" to "P: N | NAME | '(' E ')'": what may stand behind a part of E, and what may begin one. */
    private static void eachRuleOfE() {
        String[] begin = {"1", "9999", "force", "kind", "heads", "dish", "air", "place", "year", "(1)", "(not 1)",
            "(1 or 2)"};
        for (String part : begin) {
            fine("law due " + part + ";");
            fine("law due not " + part + ";");
            fine("law due 1 and not not " + part + " or " + part + ";");
            for (String sign : SIGNS) {
                fine("law due " + part + sign + part + ";");
                faulty("law due " + part + sign + ";", 1, 8 + part.length() + sign.length());
                faulty("law due " + part + sign + "not 1;", 1, 8 + part.length() + sign.length());
            }
            faulty("law due " + part + " " + part + ";", 1, 9 + part.length());
            faulty("law due " + part + " not 1;", 1, 9 + part.length());
            faulty("law due " + part + ");", 1, 8 + part.length());
            faulty("law due " + part + " and;", 1, 12 + part.length());
            faulty("law due " + part + " or;", 1, 11 + part.length());
            faulty("law due (" + part + ";", 1, 9 + part.length());
        }
        for (String wrong : new String[] {"and 1", "or 1", ")", "()", "a", "smell", "nose", "due", "house", "law", "#",
            "+1", "-1", "*1", "/1", "<1", "=1", ">1", ";"}) {
            faulty("law due " + wrong + ";", 1, wrong.equals("()") ? 9 : 8);
            faulty("law due not " + wrong + ";", 1, wrong.equals("()") ? 13 : 12);
        }
        String[] compared = {"<", "<=", "=", "<>", ">=", ">"};
        for (String one : compared) {
            for (String other : compared) {
                faulty("law due 1" + one + "2 " + other + "3;", 1, 11 + one.length());
                fine("law due (1" + one + "2)" + other + "3;");
                fine("law due 1" + one + "2 and 3" + other + "4;");
            }
        }
    }

    /** "A = (or > behind <) right behind < or > belongs to it." */
    private static void signsOfTwo() {
        String[] joined = {"<=", "<>", ">="};
        long[] less = {1, 1, 0};
        long[] same = {1, 0, 1};
        for (int i = 0; i < joined.length; i++) {
            Check.same("1" + joined[i] + "2", worth("1" + joined[i] + "2"), less[i]);
            Check.same("2" + joined[i] + "2", worth("2" + joined[i] + "2"), same[i]);
            for (String blank : new String[] {" ", "\n"}) {
                faulty("law due 1" + joined[i].charAt(0) + blank + joined[i].charAt(1) + "2;", 1, 11);
            }
            for (String more : new String[] {"=", "<", ">"}) {
                faulty("law due 1" + joined[i] + more + "2;", 1, 11);
            }
        }
        for (String apart : new String[] {"==", "=<", "=>", "><", ">>", "<<"}) {
            faulty("law due 1" + apart + "2;", 1, 10);
        }
    }

    private static long worth(String e) {
        return fine("house a;dog d a 1;law due " + e + ";").law(2, 0, 0);
    }

    /** "an eighth house and so on (at the word of the LINE)". */
    private static void eighthHouseAndSoOn() {
        String houses = many(7, "house ", ";");
        String people = AHEAD + many(9, "person ", " a 0 1;");
        String coats = AHEAD + "coat a 0 1;".repeat(8);
        String dogs = AHEAD + many(3, "dog ", " a 1;");
        String[] full = {houses, people, coats, dogs};
        String[] more = {"house z;", "person z a 0 1;", "coat a 0 1;", "dog z a 1;"};
        String[] words = {"house", "person", "coat", "dog"};
        for (int i = 0; i < full.length; i++) {
            fine(full[i]);
            fine(full[i] + "wind 1;");
            faulty(full[i] + more[i], 2, full[i].length());
            faulty(full[i] + "\n " + more[i], 2, full[i].length() + 2);
            // What is wrong behind the word comes later along the text.
            faulty(full[i] + words[i], 2, full[i].length());
            faulty(full[i] + words[i] + " a a;", 2, full[i].length());
            faulty(full[i] + words[i] + " #", 2, full[i].length());
            // And what is wrong ahead of it comes first.
            faulty(full[i] + "wind 101;" + more[i], 2, full[i].length() + 5);
        }
    }

    /** "a ninth '(' open". */
    private static void ninthBracket() {
        for (String rule : new String[] {"smell", "nose", "due"}) {
            String law = "law " + rule + " ";
            for (int open = 1; open <= 8; open++) {
                fine(law + "(".repeat(open) + "1" + ")".repeat(open) + ";");
            }
            faulty(law + "(".repeat(9) + "1" + ")".repeat(9) + ";", 2, law.length() + 8);
            faulty(law + "(".repeat(20) + ";", 2, law.length() + 8);
            faulty(law + "(".repeat(8) + "1+(1)" + ")".repeat(8) + ";", 2, law.length() + 10);
            faulty(law + "(1+".repeat(8) + "not (1" + ")".repeat(9) + ";", 1, law.length() + 24);
            faulty(law + "(not ".repeat(8) + "(1" + ")".repeat(9) + ";", 2, law.length() + 40);
            fine(law + "(".repeat(8) + "1" + ")".repeat(8) + "+" + "(".repeat(8) + "1" + ")".repeat(8) + ";");
            fine(law + "(".repeat(7) + "(1)+(2)" + ")".repeat(7) + "*((3));");
            faulty(law + "(".repeat(7) + "(1)+((2))" + ")".repeat(7) + ";", 2, law.length() + 12);
        }
        String eight = "(".repeat(8) + "1" + ")".repeat(8) + ";";
        fine("law smell " + eight + "law nose " + eight + "law due " + eight);
    }

    /** "KNOT of all E (N, NAMES, signs, not, and, or: one each)". */
    private static void knotsAreOneEach() {
        Check.same("knots of N", fine("law due 9999;").count(5), 1);
        for (String name : NAMES) {
            Check.same("knots of " + name, fine("law due " + name + ";").count(5), 1);
        }
        for (String sign : SIGNS) {
            Check.same("knots of " + sign, fine("law due 1" + sign + "2;").count(5), 3);
        }
        Check.same("knots of not", fine("law due not not 1;").count(5), 3);
        Check.same("knots of and", fine("law due 1 and 2;").count(5), 3);
        Check.same("knots of or", fine("law due 1 or 2;").count(5), 3);
        Check.same("brackets are none", fine("law due ((1)+(((2))));").count(5), 3);
        Check.same("of all E", fine("law due 1+2;law nose 3;law smell not 4;").count(5), 6);
    }

    /** "a 65th KNOT of all E": at it, whatever it is. */
    private static void the65thKnot() {
        String sides = "law due " + "1+".repeat(32);
        for (String name : NAMES) {
            faulty(sides + name + ";", 2, sides.length());
        }
        faulty(sides + "0;", 2, sides.length());
        faulty(sides + "((0));", 2, sides.length() + 2);
        String sums = "law due not " + "1+".repeat(31) + "1";
        Check.same("64 knots", fine(sums + ";").count(5), 64);
        for (String sign : SIGNS) {
            faulty(sums + sign + "1;", 2, sums.length());
            faulty(sums + " " + sign + ";", 2, sums.length() + 1);
        }
        faulty(sums + " and 1;", 2, sums.length() + 1);
        faulty(sums + " or 1;", 2, sums.length() + 1);
        String all = "law due " + "1 and ".repeat(32);
        faulty(all + "not 1;", 2, all.length());
        String nots = "law due " + "not ".repeat(63);
        Check.same("63 nots and a number", fine(nots + "1;").count(5), 64);
        faulty(nots + "not 1;", 2, nots.length() + 4);
        String three = "law smell " + "1+".repeat(20) + "1;law nose " + "1+".repeat(10) + "1;law due not ";
        Check.same("64 knots of three", fine(three + "1;").count(5), 41 + 21 + 2);
        faulty(three + "1+1;", 2, three.length() + 1);
        faulty(three + "not 1;", 2, three.length() + 4);
        String two = "law nose " + "1+".repeat(31) + "1;law smell 1;";
        Check.same("64 knots of two", fine(two).count(5), 64);
        faulty(two + "law due 1;", 2, two.length() + 8);
        faulty(two + "law due (1);", 2, two.length() + 9);
    }

    /** "3 told already: a name (at W), a dish (at W), wind, tax, seed (at the word), a law of its RULE (at RULE)." */
    private static void toldAlready() {
        faulty("house a;house b;house a;", 3, 22);
        faulty("house abcdef;house abcdef;", 3, 19);
        faulty("house a;person p a 0 1;person q a 0 1;person p a 0 1;", 3, 45);
        faulty("house a;house b;dog d a 1;dog d b 2;", 3, 30);
        faulty("house a;dish a 0;dish a 0;", 3, 22);
        faulty("house a;house b;dish b 1;dish a 1;dish b 2;", 3, 39);
        faulty("wind 0;wind 0;", 3, 7);
        faulty("tax 2;tax 2;", 3, 6);
        faulty("seed 0;\nseed 0;", 3, 8);
        for (String rule : new String[] {"smell", "nose", "due"}) {
            String law = "law " + rule + " 1;";
            faulty(law + law, 3, law.length() + 4);
            faulty("wind 1;" + law + "tax 1;" + law, 3, law.length() + 17);
        }
        fine("house a;house b;dish a 1;dish b 1;wind 1;tax 1;seed 1;law smell 1;law nose 1;law due 1;");
        fine("house a;house ab;house aa;house b;house ba;");
        fine("house a;coat a 0 1;coat a 0 1;");
    }

    /** "4 a HOUSE that isn't told ahead (at W)." */
    private static void housesNotToldAhead() {
        faulty("person p a 0 1;house a;", 4, 9);
        faulty("coat a 0 1;house a;", 4, 5);
        faulty("dish a 1;house a;", 4, 5);
        faulty("dog d a 1;house a;", 4, 6);
        // Names of another kind are no houses.
        String ahead = "house a;person b a 0 1;dog c a 1;";
        for (String name : new String[] {"b", "c", "aa", "z"}) {
            faulty(ahead + "person p " + name + " 0 1;", 4, ahead.length() + 9);
            faulty(ahead + "coat " + name + " 0 1;", 4, ahead.length() + 5);
            faulty(ahead + "dish " + name + " 1;", 4, ahead.length() + 5);
            faulty(ahead + "dog d " + name + " 1;", 4, ahead.length() + 6);
        }
    }

    /** "FAULTS, the first along the text (of one place the least)". */
    private static void ofOnePlaceTheLeast() {
        // 1 and 2: too much of what can't stand there at all.
        faulty("wind 5 101;", 1, 7);
        faulty("house 99999999;", 1, 6);
        faulty("law due 1 10000;", 1, 10);
        faulty("law due ((((((((1(2)))))))));", 1, 17);
        String sums = "law due not " + "1+".repeat(31) + "1";
        faulty(sums + " 1;", 1, sums.length() + 1);
        faulty(sums + " not 1;", 1, sums.length() + 1);
        faulty(sums + " year;", 1, sums.length() + 1);
        faulty(sums + ";law nose and 1;", 1, sums.length() + 10);
        faulty(sums + ";law nose a;", 1, sums.length() + 10);
        faulty(sums + ";law nose", 1, sums.length() + 9);
        String compared = "law due not " + "1+".repeat(30) + "1<1";
        faulty(compared + "<1;", 1, compared.length());
        String houses = many(7, "house ", ";");
        faulty(houses + "wind 5 house h;", 1, houses.length() + 7);
        // 1 and 3: told already, but it can't stand there.
        faulty("house a;house b a;", 1, 16);
        faulty("wind 5;tax 6 wind 7;", 1, 13);
        faulty("law due 1;law nose due;", 1, 19);
        faulty("house a;dish a a;", 1, 15);
        // 1 and 4: not told, but it can't stand there.
        faulty("house a b;", 1, 8);
        faulty("house a;coat a b;", 1, 15);
        // One place behind another.
        faulty("house a;person p b 8 0;", 4, 17);
        faulty("house a;person p a 8 0;", 2, 19);
        faulty("house a;person p a 7 0 0;", 2, 21);
        faulty("house a;person p a 0 1;person p b 8 0;", 3, 30);
        faulty("house a;dog d a 1;dog d b 0;", 3, 22);
        faulty("house a;dish a 1;dish a 10;", 3, 22);
        faulty("wind 1;wind 101;", 3, 7);
        faulty("law due 1;law due 10000;", 3, 14);
        faulty("house a;wind 101;house a;#", 2, 13);
    }

    /** What a text with a fault told is forgotten. */
    private static void faultsOfOneTextAlone() {
        NoseCensus x = new NoseCensus();
        String[] wrong = {many(8, "house ", ";"), "house a;wind 1;wind 1;", "law due " + "1+".repeat(40) + "1;",
            "house a;dish a 9;tax 1;seed 1;law smell 1;law smell 1;", "house a;person p a 0 1;dog d a 1;;"};
        String right = "house a;person p a 0 1;dish a 1;dog d a 1;wind 2;tax 2;seed 2;law smell 2;law due 2;";
        for (String text : wrong) {
            Check.same("text of " + text, Check.told(x, text), NONE);
            Check.same("text behind it", Check.told(x, right), 9);
            Check.same("its fault", x.fault(0), 0);
            Check.same("its place", x.fault(1), NONE);
            Check.same("its knots", x.count(5), 2);
        }
        Check.same("a text with a fault at last", Check.told(x, wrong[0]), NONE);
        Check.same("named(0, b) of it", x.named(0, Check.letters("b")), NONE);
        Check.same("its knots stay", x.count(5), 2);
    }
}
