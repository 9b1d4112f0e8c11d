/** The sentences of ==== 2 and of promises 6 to 12 and 41 that name an edge, each with a test of its own. */
public final class SmellEdgesTest {
    private static final int NONE = NoseCensus.NONE;
    private static final long ERROR = Long.MIN_VALUE;
    private static final String BILLIONS = "1000*1000*1000*1000";
    private static final String TWO_TO_31 = "2048*1024*1024";
    private static final String TWO_TO_32 = "4096*1024*1024";

    public static void main(String[] args) {
        ownOfThoseUnwashed();
        smellOfZeroTo99();
        windToEachButTheFirst();
        windIsCut();
        theMostAir();
        airAboveTheDish();
        airOfTheNoseAtLeast();
        noseIsNotZero();
        headsByKinds();
        theMostAnyDogCounts();
        trueHeads();
        dueOfZeroTo999();
        eveningOfAllWithACount();
        coatsFade();
        allAreUnwashed();
        stepsOfAYear();
        namesByRule();
        valuesAreLongs();
        zeroOrOne();
        cutTowardsZero();
        errors();
        person();
        house();
        coatAndDog();
        law();
        counts();
        Check.end();
    }

    private static NoseCensus town(String text) {
        return Check.town(text);
    }

    /** "the SMELL of each PERSON of the KIND in that HOUSE who isn't WASHED, and the FORCE of each COAT ... in sum". */
    private static void ownOfThoseUnwashed() {
        NoseCensus x = town("house a;house b;person p a 0 9;person q a 0 1;person r a 7 4;person s b 0 5;coat a 0 2;"
                + "coat a 0 9;coat a 7 1;coat b 0 3;");
        Check.same("all of a kind", x.air(0, 0), 9 + 1 + 2 + 9);
        Check.same("of another kind", x.air(0, 7), 4 + 1);
        Check.same("in another house", x.air(1, 0), 5 + 3);
        Check.same("of no one's kind", x.air(0, 3), 0);
        Check.same("of no one's kind there", x.air(1, 7), 0);
        x.wash(0, true);
        Check.same("one is washed", x.air(0, 0), 1 + 2 + 9);
        x.wash(1, true);
        Check.same("all are washed", x.air(0, 0), 2 + 9);
        Check.same("another kind stays", x.air(0, 7), 5);
        x.wash(0, false);
        Check.same("washed no more", x.air(0, 0), 9 + 2 + 9);
        x.move(0, 1);
        Check.same("one moved away", x.air(0, 0), 2 + 9);
        Check.same("to there", x.air(1, 0), 9 + 5 + 3);
    }

    private static void smell(String law, int due) {
        NoseCensus x = town("house a;person p a 0 7;dog d a 9;" + law);
        Check.same("person(0, 4) by " + law, x.person(0, 4), due);
        Check.same("air(0, 0) by " + law, x.air(0, 0), due);
        x.wash(0, true);
        Check.same("person(0, 4) washed by " + law, x.person(0, 4), due);
        Check.same("air(0, 0) washed by " + law, x.air(0, 0), 0);
    }

    /** "SMELL: E of smell (0 .. 99; FORCE without, with an ERROR)." */
    private static void smellOfZeroTo99() {
        smell("", 7);
        smell("law smell 0;", 0);
        smell("law smell 1;", 1);
        smell("law smell 98;", 98);
        smell("law smell 99;", 99);
        smell("law smell 100;", 99);
        smell("law smell 9999;", 99);
        smell("law smell " + TWO_TO_31 + ";", 99);
        smell("law smell " + TWO_TO_32 + ";", 99);
        smell("law smell " + TWO_TO_32 + "+5;", 99);
        smell("law smell " + BILLIONS + ";", 99);
        smell("law smell 0-1;", 0);
        smell("law smell 5-" + TWO_TO_32 + ";", 0);
        smell("law smell 0-" + TWO_TO_31 + "-1;", 0);
        smell("law smell 0-" + BILLIONS + ";", 0);
        smell("law smell 1/0;", 7);
        smell("law smell " + BILLIONS + "+1;", 7);
        smell("law smell 0-" + BILLIONS + "-1;", 7);
    }

    private static final String SEVEN = "house a;house b;house c;house d;house e;house f;house g;";

    private static void airs(NoseCensus x, String when, int... due) {
        for (int house = 0; house < due.length; house++) {
            Check.same(when + ": air(" + house + ", 0)", x.air(house, 0), due[house]);
        }
    }

    /** "The WIND brings to each HOUSE but the first one the AIR of the HOUSE to the left". */
    private static void windToEachButTheFirst() {
        NoseCensus x = town(SEVEN + "person p a 0 1;law smell 99;");
        airs(x, "no wind", 99, 0, 0, 0, 0, 0, 0);
        x.blow(100);
        airs(x, "a wind of 100", 99, 99, 99, 99, 99, 99, 99);
        x.blow(99);
        airs(x, "a wind of 99", 99, 98, 97, 96, 95, 94, 93);
        x.blow(1);
        airs(x, "a wind of 1", 99, 0, 0, 0, 0, 0, 0);
        x.blow(100);
        x.move(0, 6);
        airs(x, "from the last one", 0, 0, 0, 0, 0, 0, 99);
        x.move(0, 3);
        airs(x, "from the middle", 0, 0, 0, 99, 99, 99, 99);
        Check.same("of its kind alone", x.air(6, 1), 0);
        x.wash(0, true);
        airs(x, "washed", 0, 0, 0, 0, 0, 0, 0);
    }

    /** "times WIND by 100, cut (from the first one on)". */
    private static void windIsCut() {
        NoseCensus x = town(SEVEN + "person p a 0 1;law smell 99;wind 50;");
        airs(x, "half", 99, 49, 24, 12, 6, 3, 1);
        x.blow(34);
        airs(x, "a third", 99, 33, 11, 3, 1, 0, 0);
        x = town("house a;house b;coat a 0 3;");
        for (int wind = 1; wind <= 100; wind++) {
            x.blow(wind);
            Check.same("3 by a wind of " + wind, x.air(1, 0), 3 * wind / 100);
        }
        x = town("house a;house b;house c;coat a 0 1;coat b 0 1;wind 99;");
        airs(x, "just not one", 1, 1, 0);
        x.blow(100);
        airs(x, "just one", 1, 2, 2);
    }

    private static void theMostAir() {
        StringBuilder text = new StringBuilder("house a;house b;house c;house d;wind 100;law smell 99;");
        for (char name = 'a'; name <= 'i'; name++) {
            text.append("person ").append(name).append(" a 0 9;");
        }
        NoseCensus x = town(text + "coat a 0 9;".repeat(8));
        for (int i = 8; i < 12; i++) {
            x.hang(3, 0, 9);
        }
        int most = 9 * 99 + 8 * 9;
        airs(x, "the most air", most, most, most, most + 4 * 9);
        Check.same("share of the most air", x.share(3, 0, 0), most / 9);
        Check.same("share of the most air, below", x.share(3, 0, 1), (most + 36) / 9);
    }

    /** "if its AIR is above the DISH there". */
    private static void airAboveTheDish() {
        NoseCensus x = town("house a;person p a 3 1;dog d a 1;law smell 50;");
        int[] dishes = {1, 49, 50, 51, 99};
        int[] due = {8, 8, 0, 0, 0};
        for (int i = 0; i < dishes.length; i++) {
            x.cook(0, dishes[i]);
            Check.same("50 and a dish of " + dishes[i], x.smells(0, 0), due[i]);
        }
        x = town("house a;person p a 3 1;coat a 3 1;dog d a 1;law smell 99;");
        x.cook(0, 99);
        Check.same("100 and a dish of 99", x.smells(0, 0), 8);
        x.wash(0, true);
        x.cook(0, 0);
        Check.same("1 and no dish", x.smells(0, 0), 8);
        x.cook(0, 1);
        Check.same("1 and a dish of 1", x.smells(0, 0), 0);
        x = town("house a;dog d a 1;law nose 1;");
        Check.same("0 isn't above no dish", x.smells(0, 0), 0);
        x = town("house a;house b;person p a 0 3;person q b 1 3;dish a 5;dog d a 1;");
        Check.same("the dish there", x.smells(0, 0), 0);
        Check.same("no dish there", x.smells(0, 1), 2);
    }

    /** "(AIR is NOSE of the DOG at least, without, with an ERROR)". */
    private static void airOfTheNoseAtLeast() {
        for (String law : new String[] {"", "law nose 1/0;", "law nose " + BILLIONS + "+air;"}) {
            for (int nose = 1; nose <= 9; nose++) {
                NoseCensus x = town("house a;person p a 0 5;person q a 1 4;person r a 2 6;dog d a " + nose + ";" + law);
                int due = (5 >= nose ? 1 : 0) + (4 >= nose ? 2 : 0) + (6 >= nose ? 4 : 0);
                Check.same("a nose of " + nose + " " + law, x.smells(0, 0), due);
            }
        }
    }

    /** "and E of nose isn't 0". */
    private static void noseIsNotZero() {
        String[] laws = {"0", "1", "0-1", "9999", "1/2", "0/5", "1-1", TWO_TO_32, TWO_TO_31, "0-" + TWO_TO_32, BILLIONS,
            "0-" + BILLIONS, "air-5", "air-4", "kind-3", "force-9", "force-8"};
        int[] due = {0, 8, 8, 8, 0, 0, 0, 8, 8, 8, 8, 8, 0, 8, 0, 0, 8};
        for (int i = 0; i < laws.length; i++) {
            NoseCensus x = town("house a;person p a 3 5;dog d a 9;law nose " + laws[i] + ";");
            Check.same("smells by " + laws[i], x.smells(0, 0), due[i]);
        }
    }

    /** "It COUNTS as many heads as KINDS it SMELLS." */
    private static void headsByKinds() {
        StringBuilder text = new StringBuilder("house a;dog d a 1;");
        for (int kind = 0; kind < 8; kind++) {
            Check.same("count of " + kind + " kinds", town(text.toString()).house(0, 2), kind);
            text.append("person ").append((char) ('a' + kind)).append(" a ").append(kind).append(" 1;");
        }
        NoseCensus x = town(text.toString());
        Check.same("count of 8 kinds", x.house(0, 2), 8);
        Check.same("bits of 8 kinds", x.smells(0, 0), 255);
        Check.same("due of 8 kinds", x.house(0, 3), 16);
        x = town("house a;person p a 5 9;person q a 5 9;person r a 5 9;coat a 5 9;dog d a 1;");
        Check.same("count of one kind", x.house(0, 2), 1);
        x = town("house a;person p a 5 3;person q a 5 3;person r a 5 3;dog d a 9;");
        Check.same("one kind smelled by three together", x.house(0, 2), 1);
    }

    /** "The COUNT of a HOUSE: the most any DOG that is there COUNTS; NONE, if there is none." */
    private static void theMostAnyDogCounts() {
        NoseCensus x = town("house a;house b;person p a 0 3;person q a 1 5;person r a 2 7;dog d a 9;"
                + "dog e a 4;dog f b 1;");
        Check.same("by the first two", x.house(0, 2), 2);
        Check.same("of none smelled", x.house(1, 2), 0);
        x.send(1, 1);
        Check.same("by the first one: none", x.house(0, 2), 0);
        x.send(2, 0);
        Check.same("by the last one", x.house(0, 2), 3);
        x.send(0, 1);
        x.send(2, 1);
        Check.same("NONE", x.house(0, 2), NONE);
        Check.same("NONE as 0", x.count(8), 0);
        Check.same("ghosts without a count", x.ghosts(), 0);
        Check.same("wrong without a count", x.wrong(), 0);
        x = town("house a;person p a 0 3;");
        Check.same("NONE without dogs", x.house(0, 2), NONE);
        // Dogs of two kinds each: the most one of them counts, not all together.
        x = town("house a;person p a 0 3;person q a 1 9;person r a 2 3;dog d a 1;dog e a 2;"
                + "law nose (force=1 and kind<2) or (force=2 and kind=2);");
        Check.same("the most, not the sum", x.house(0, 2), 2);
    }

    /** "TRUE: how many PEOPLE are in a HOUSE." */
    private static void trueHeads() {
        StringBuilder text = new StringBuilder("house a;house b;");
        for (char name = 'a'; name <= 'i'; name++) {
            text.append("person ").append(name).append(" b 1 9;");
        }
        NoseCensus x = town(text + "coat a 1 9;");
        Check.same("none", x.house(0, 1), 0);
        Check.same("all nine", x.house(1, 1), 9);
        x.wash(4, true);
        Check.same("the washed too", x.house(1, 1), 9);
        x.move(4, 0);
        Check.same("one", x.house(0, 1), 1);
        Check.same("eight", x.house(1, 1), 8);
    }

    private static void due(String law, int due) {
        NoseCensus x = town("house a;person p a 0 7;person q a 1 7;dog d a 1;tax 7;" + law);
        Check.same("house(0, 3) by " + law, x.house(0, 3), due);
        x.years(1);
        Check.same("house(0, 4) by " + law, x.house(0, 4), due);
        Check.same("count(9) by " + law, x.count(9), due);
        Check.same("chance by " + law, x.chance(0, 1, due), 10);
        Check.same("chance of more by " + law, x.chance(0, 1, due + 1), 0);
    }

    /** "E of due (0 .. 999; tax times the COUNT without, with an ERROR)". */
    private static void dueOfZeroTo999() {
        due("", 14);
        due("law due 0;", 0);
        due("law due 1;", 1);
        due("law due 998;", 998);
        due("law due 999;", 999);
        due("law due 1000;", 999);
        due("law due " + TWO_TO_31 + ";", 999);
        due("law due " + TWO_TO_32 + "+5;", 999);
        due("law due " + BILLIONS + ";", 999);
        due("law due 0-1;", 0);
        due("law due 5-" + TWO_TO_32 + ";", 0);
        due("law due 0-" + BILLIONS + ";", 0);
        due("law due heads/0;", 14);
        due("law due " + BILLIONS + "+1;", 14);
        due("law due 0-" + BILLIONS + "-1;", 14);
        NoseCensus x = town("house a;dog d a 1;tax 99;");
        Check.same("tax times a count of 0", x.house(0, 3), 0);
    }

    /** "(1) the evening: each HOUSE with a COUNT pays". */
    private static void eveningOfAllWithACount() {
        NoseCensus x = town("house a;house b;house c;person p a 0 9;person q c 0 9;dog d a 1;dog e b 1;"
                + "law due 5+heads;");
        x.years(1);
        Check.same("a count of 1", x.house(0, 4), 6);
        Check.same("a count of 0 pays too", x.house(1, 4), 5);
        Check.same("without a count none", x.house(2, 4), 0);
        Check.same("paid in all", x.count(9), 11);
        x.years(99);
        Check.same("a hundred years", x.house(0, 4), 600);
        x = town("house a;house b;house c;dog d a 1;dog e b 1;dog f c 1;law due 999;");
        for (int i = 0; i < 10; i++) {
            x.years(99);
        }
        x.years(9);
        Check.same("the most one pays", x.house(2, 4), 999 * 999);
        Check.same("the most all pay", x.count(9), 3 * 999 * 999);
    }

    /** "(2) each COAT's FORCE is 1 less; at 0 it is none any more." */
    private static void coatsFade() {
        NoseCensus x = town("house a;coat a 0 1;coat a 1 2;coat a 2 9;dog d a 1;");
        int[][] due = {{1, 2, 9, 3}, {0, 1, 8, 2}, {0, 0, 7, 1}, {0, 0, 6, 1}, {0, 0, 5, 1}, {0, 0, 4, 1}, {0, 0, 3, 1},
            {0, 0, 2, 1}, {0, 0, 1, 1}, {0, 0, 0, 0}, {0, 0, 0, 0}};
        for (int year = 0; year < due.length; year++) {
            for (int coat = 0; coat < 3; coat++) {
                Check.same("coat " + coat + " in " + year, x.coat(coat, 2), due[year][coat]);
                Check.same("its air in " + year, x.air(0, coat), due[year][coat]);
                Check.same("keeps in " + year, x.keeps(coat), due[year][coat] == 0 ? NONE : due[year][coat]);
            }
            Check.same("coats still in " + year, x.count(3), due[year][3]);
            Check.same("coats ever in " + year, x.count(2), 3);
            Check.same("heads in " + year, x.house(0, 2), due[year][3]);
            x.years(1);
        }
        x = town("house a;coat a 0 9;");
        x.years(99);
        Check.same("it stays at 0", x.coat(0, 2), 0);
        Check.same("its house", x.coat(0, 0), 0);
        Check.same("its kind", x.coat(0, 1), 0);
    }

    /** "(3) all are unWASHED." */
    private static void allAreUnwashed() {
        StringBuilder text = new StringBuilder("house a;");
        for (char name = 'a'; name <= 'i'; name++) {
            text.append("person ").append(name).append(" a 1 9;");
        }
        NoseCensus x = town(text.toString());
        for (int person = 0; person < 9; person++) {
            x.wash(person, true);
            Check.same("washed", x.count(10), person + 1);
        }
        Check.same("air of all washed", x.air(0, 1), 0);
        x.years(0);
        Check.same("no year", x.count(10), 9);
        x.years(1);
        Check.same("a year", x.count(10), 0);
        Check.same("the last one", x.person(8, 3), 0);
        Check.same("air of all unwashed", x.air(0, 1), 81);
    }

    /** The evening comes ahead of (2) and (3), and "Then it is the next YEAR". */
    private static void stepsOfAYear() {
        NoseCensus x = town("house a;person p a 0 9;coat a 1 3;dog d a 3;law due 100*heads+year;");
        x.wash(0, true);
        x.years(1);
        Check.same("the coat ahead of fading, one washed, the year ahead", x.house(0, 4), 100);
        x.years(1);
        Check.same("the coat faded, one unwashed, the year 1", x.house(0, 4), 100 + 101);
        Check.same("the year", x.count(6), 2);
        Check.same("due in it", x.law(2, 0, 0), 102);
    }

    /** "NAMES: force: ...": each in each rule, with 0 where the document says so. */
    private static void namesByRule() {
        String[] names = {"force", "kind", "heads", "dish", "air", "place", "year"};
        int[][] due = {{4, 3, 0, 6, 0, 2, 5}, {8, 3, 0, 6, 10, 2, 5}, {0, 0, 1, 6, 0, 2, 5}};
        for (int i = 0; i < names.length; i++) {
            String told = "house a;house b;house c;person p c 3 4;person q b 3 6;dish c 6;dog d c 8;wind 100;";
            NoseCensus x = town(told + "law smell " + names[i] + ";");
            x.years(5);
            Check.same("smell: " + names[i], x.law(0, 0, 0), due[0][i]);
            x = town(told + "law nose " + names[i] + ";");
            x.years(5);
            Check.same("nose: " + names[i], x.law(1, 0, 3), due[1][i]);
            x = town(told + "law due " + names[i] + ";");
            x.years(5);
            Check.same("due: " + names[i], x.law(2, 2, 0), due[2][i]);
        }
        NoseCensus x = town("house a;person p a 0 1;dog d a 1;law due year;law smell year;law nose year;");
        for (int i = 0; i < 10; i++) {
            x.years(99);
        }
        x.years(9);
        Check.same("the last year: due", x.law(2, 0, 0), 999);
        Check.same("the last year: smell", x.law(0, 0, 0), 999);
        Check.same("the last year: nose", x.law(1, 0, 0), 999);
    }

    private static void worth(String e, long due) {
        Check.same("worth of " + e, town("house a;dog d a 1;law due " + e + ";").law(2, 0, 0), due);
    }

    /** "VALUES are longs". */
    private static void valuesAreLongs() {
        worth(TWO_TO_31, 2147483648L);
        worth(TWO_TO_32, 4294967296L);
        worth("0-" + TWO_TO_32, -4294967296L);
        worth("0-" + TWO_TO_31 + "-1", -2147483649L);
        worth(TWO_TO_32 + "=0", 0);
        worth(TWO_TO_32 + ">0", 1);
        worth(TWO_TO_31 + ">0", 1);
        worth("0-" + TWO_TO_31 + "<0", 1);
        worth(TWO_TO_31 + "<" + TWO_TO_32, 1);
        worth(TWO_TO_32 + "/2", 2147483648L);
        worth(TWO_TO_32 + " and 1", 1);
        worth("not " + TWO_TO_32, 0);
        worth(TWO_TO_32 + " or 0", 1);
        worth("9999*9999*9999", 999700029999L);
        for (int a = 0; a <= 3; a++) {
            for (int b = 0; b <= 3; b++) {
                worth(a + "*" + b, a * b);
                worth("(0-" + a + ")*" + b, -a * b);
                worth(a + "*(0-" + b + ")", -a * b);
                worth("(0-" + a + ")*(0-" + b + ")", a * b);
                worth(a + "-" + b, a - b);
                worth("(0-" + a + ")+" + b, b - a);
            }
        }
    }

    /** "comparisons, and, or, not are 1 or 0 (what isn't 0 is as 1, both sides are worked out)". */
    private static void zeroOrOne() {
        String[] signs = {"<", "<=", "=", "<>", ">=", ">"};
        int[][] due = {{1, 0, 0}, {1, 1, 0}, {0, 1, 0}, {1, 0, 1}, {0, 1, 1}, {0, 0, 1}};
        for (int i = 0; i < signs.length; i++) {
            for (int left = 4; left <= 6; left++) {
                worth(left + signs[i] + "5", due[i][left - 4]);
                worth("(0-" + (10 - left) + ")" + signs[i] + "(0-5)", due[i][left - 4]);
            }
        }
        String[] sides = {"0", "1", "2", "9999", "(0-1)"};
        for (String one : sides) {
            worth("not " + one, one.equals("0") ? 1 : 0);
            worth("not not " + one, one.equals("0") ? 0 : 1);
            for (String other : sides) {
                worth(one + " and " + other, one.equals("0") || other.equals("0") ? 0 : 1);
                worth(one + " or " + other, one.equals("0") && other.equals("0") ? 0 : 1);
            }
        }
        for (String error : new String[] {"0 and 1/0", "1/0 and 0", "1 or 1/0", "1/0 or 1", "not 1/0", "1/0=1/0",
            "1/0<1", "0*(1/0)", "0 and (" + BILLIONS + "+1)", "1 or (" + BILLIONS + "+1)"}) {
            worth(error, ERROR);
        }
    }

    /** "/ is cut towards 0". */
    private static void cutTowardsZero() {
        for (int a = 0; a <= 7; a++) {
            for (int b = 1; b <= 4; b++) {
                worth(a + "/" + b, a / b);
                worth("(0-" + a + ")/" + b, -(a / b));
                worth(a + "/(0-" + b + ")", -(a / b));
                worth("(0-" + a + ")/(0-" + b + ")", a / b);
            }
        }
        worth("9998/9999", 0);
        worth("9999/9998", 1);
    }

    /** "ERROR: / by 0, a value above 10 to the 12 or below 0 by more than that." */
    private static void errors() {
        worth("1/0", ERROR);
        worth("0/0", ERROR);
        worth("5/(3-3)", ERROR);
        worth("5/(1/2)", ERROR);
        worth(BILLIONS, 1000000000000L);
        worth(BILLIONS + "+0", 1000000000000L);
        worth(BILLIONS + "+1", ERROR);
        worth(BILLIONS + "-1+1", 1000000000000L);
        worth(BILLIONS + "-1+2", ERROR);
        worth(BILLIONS + "-(0-1)", ERROR);
        worth("1+" + BILLIONS, ERROR);
        worth("0-" + BILLIONS, -1000000000000L);
        worth("0-" + BILLIONS + "-0", -1000000000000L);
        worth("0-" + BILLIONS + "-1", ERROR);
        worth("(0-1)-" + BILLIONS, ERROR);
        worth("(0-1)+(0-" + BILLIONS + ")", ERROR);
        worth("1+(0-" + BILLIONS + ")", -999999999999L);
        worth("1000*1000*1000*1001", ERROR);
        worth("(0-1000)*1000*1000*1000", -1000000000000L);
        worth("1000*1000*1000*(0-1000)", -1000000000000L);
        worth("1000*1000*1000*(0-1001)", ERROR);
        worth("(0-1000)*1000*1000*1001", ERROR);
        worth("(0-1000)*1000*(0-1000)*1000", 1000000000000L);
        worth("(0-1000)*1000*(0-1000)*1001", ERROR);
        worth("9999*9999*9999*2", ERROR);
        worth("(" + BILLIONS + ")*1", 1000000000000L);
        worth("(" + BILLIONS + ")*2", ERROR);
        worth("2*(" + BILLIONS + ")", ERROR);
        worth("(" + BILLIONS + ")*0", 0);
        worth("0*(" + BILLIONS + ")", 0);
        // 10 to the 12 squared is 10 to the 24, which wraps around in a long.
        worth("(" + BILLIONS + ")*(" + BILLIONS + ")", ERROR);
        worth("(" + BILLIONS + ")*(0-" + BILLIONS + ")", ERROR);
        // 2 to the 32 squared is 2 to the 64, which wraps around to 0 in a long.
        worth("(" + TWO_TO_32 + ")*(" + TWO_TO_32 + ")", ERROR);
        worth("(" + TWO_TO_31 + ")*(" + TWO_TO_32 + ")", ERROR);
        worth("(" + BILLIONS + "+1)*0", ERROR);
        worth("(" + BILLIONS + "+1)/1000", ERROR);
        worth(BILLIONS + "+1-1", ERROR);
        worth("(" + BILLIONS + ")/(0-1)", -1000000000000L);
    }

    /** Promise 6: "4 SMELL (as if unWASHED)"; "IndexOutOfBoundsException ... NoSuchElementException". */
    private static void person() {
        NoseCensus x = town("house a;house b;person p b 7 9;law smell force*(1+place);");
        int[] due = {1, 7, 9, 0, 18};
        int[] washed = {0, 7, 9, 1, 9};
        for (int what = 0; what < 5; what++) {
            Check.same("person(0, " + what + ")", x.person(0, what), due[what]);
        }
        x.move(0, 0);
        x.wash(0, true);
        for (int what = 0; what < 5; what++) {
            Check.same("person(0, " + what + ") moved and washed", x.person(0, what), washed[what]);
        }
        int[] beyond = {Integer.MIN_VALUE, -1, 1, 9, Integer.MAX_VALUE};
        for (int person : beyond) {
            for (int what : new int[] {0, 4, -1, 5}) {
                Check.same("person(" + person + ", " + what + ")", Probe.person(x, person, what), Probe.NO_INDEX);
            }
        }
        for (int what : new int[] {Integer.MIN_VALUE, -1, 5, Integer.MAX_VALUE}) {
            Check.same("person(0, " + what + ")", Probe.person(x, 0, what), Probe.NO_ELEMENT);
        }
    }

    /** Promise 7: "3 what is due now (NONE without a COUNT), 4 what it paid in all. -2: no such ones." */
    private static void house() {
        NoseCensus x = town("house a;house b;dish b 9;person p b 0 9;person q b 1 1;coat b 1 9;dog d b 9;tax 99;");
        int[] first = {0, 0, NONE, NONE, 0};
        int[] second = {9, 2, 1, 99, 0};
        for (int what = 0; what < 5; what++) {
            Check.same("house(0, " + what + ")", x.house(0, what), first[what]);
            Check.same("house(1, " + what + ")", x.house(1, what), second[what]);
        }
        for (int other : new int[] {Integer.MIN_VALUE, -2, -1, 2, 7, Integer.MAX_VALUE}) {
            Check.same("house(" + other + ", 0)", x.house(other, 0), -2);
            Check.same("house(" + other + ", 3)", x.house(other, 3), -2);
        }
        for (int what : new int[] {Integer.MIN_VALUE, -1, 5, Integer.MAX_VALUE}) {
            Check.same("house(0, " + what + ")", x.house(0, what), -2);
            Check.same("house(1, " + what + ")", x.house(1, what), -2);
        }
        x.send(0, 0);
        Check.same("due without a count", x.house(1, 3), NONE);
        x.years(1);
        Check.same("paid without a count", x.house(1, 4), 0);
    }

    /** Promises 8 and 9: "(numbered as they come, those by call too)"; "NONE: no such ones." */
    private static void coatAndDog() {
        NoseCensus x = town("house a;house b;coat b 7 9;dog d b 9;");
        Check.same("coat(1, 0) ahead", x.coat(1, 0), NONE);
        Check.same("one by call", x.hang(0, 0, 1), 1);
        int[][] due = {{1, 7, 9}, {0, 0, 1}};
        for (int coat = 0; coat < 2; coat++) {
            for (int what = 0; what < 3; what++) {
                Check.same("coat(" + coat + ", " + what + ")", x.coat(coat, what), due[coat][what]);
            }
        }
        Check.same("dog(0, 0)", x.dog(0, 0), 1);
        Check.same("dog(0, 1)", x.dog(0, 1), 9);
        for (int other : new int[] {Integer.MIN_VALUE, -1, 2, 12, Integer.MAX_VALUE}) {
            Check.same("coat(" + other + ", 0)", x.coat(other, 0), NONE);
            Check.same("dog(" + other + ", 0)", x.dog(other, 0), NONE);
            Check.same("dog(0, " + other + ")", x.dog(0, other), NONE);
        }
        for (int what : new int[] {Integer.MIN_VALUE, -1, 3, Integer.MAX_VALUE}) {
            Check.same("coat(0, " + what + ")", x.coat(0, what), NONE);
        }
        Check.same("dog(1, 0)", x.dog(1, 0), NONE);
        x.years(1);
        Check.same("one that is none any more: force", x.coat(1, 2), 0);
        Check.same("one that is none any more: kind", x.coat(1, 1), 0);
    }

    /** Promise 12: "smell of a PERSON where that one is", "a DOG where it is", "due of a HOUSE with a COUNT". */
    private static void law() {
        NoseCensus x = town("house a;house b;person p a 2 4;dog d a 3;law smell force+10*place;law nose air+100*place;"
                + "law due 5-heads/place;");
        Check.same("smell in the first", x.law(0, 0, 0), 4);
        x.wash(0, true);
        Check.same("smell of one washed", x.law(0, 0, 0), 4);
        Check.same("nose of no air", x.law(1, 0, 2), 0);
        x.wash(0, false);
        Check.same("nose of air", x.law(1, 0, 2), 4);
        Check.same("due with an error", x.law(2, 0, 0), ERROR);
        Check.same("due of none that counts", x.law(2, 1, 0), ERROR);
        x.move(0, 1);
        x.send(0, 1);
        Check.same("smell in the second", x.law(0, 0, 0), 14);
        Check.same("nose in the second", x.law(1, 0, 2), 114);
        Check.same("due of the second", x.law(2, 1, 0), 4);
        Check.same("due of the first then", x.law(2, 0, 0), ERROR);
        x.cook(1, 99);
        Check.same("nose of what a dish covers", x.law(1, 0, 2), 114);
        Check.same("due of a count of 0", x.law(2, 1, 0), 5);
    }

    /** Promise 41, each where it is least and where it is full. */
    private static void counts() {
        NoseCensus x = Probe.busy();
        int[] due = {3, 3, 2, 2, 2, 0, 2, 70, 2, 18, 2, 3, 2, 7};
        for (int what = 0; what < due.length; what++) {
            Check.same("busy: count(" + what + ")", x.count(what), due[what]);
        }
        x.known(0);
        Check.same("known by none", x.count(12), 0);
        x.known(-1);
        Check.same("known by all", x.count(12), 3);
        x.note(0, 0, 0, true);
        Check.same("and those to come", x.count(12), 4);
        x.years(99);
        Check.same("coats still", x.count(3), 0);
        Check.same("coats ever", x.count(2), 2);
        Check.same("washed", x.count(10), 0);
        Check.same("undone", x.count(13), 0);
        for (int what : new int[] {Integer.MIN_VALUE, -1, 14, Integer.MAX_VALUE}) {
            Check.same("count(" + what + ")", x.count(what), NONE);
        }
    }
}
