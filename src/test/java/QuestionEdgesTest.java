/** The sentences of ==== 3 and of promises 20 to 31, 36 and 37 that name an edge, each with a test of its own. */
public final class QuestionEdgesTest {
    private static final int NONE = NoseCensus.NONE;
    private static final String SEVEN = "house a;house b;house c;house d;house e;house f;house g;";
    public static void main(String[] args) {
        walkToAndFro();
        walkFromTheEnds();
        walkOfSeveral();
        walkByWhatItWouldCount();
        washTheFewest();
        washThoseThereUnwashed();
        washByNone();
        whoOfSets();
        whoOfNobody();
        whoAlone();
        shareInLeastTerms();
        ghostsAndWrong();
        hideByTheLeast();
        hideIfItWereThere();
        keepsFromNowOn();
        keepsOfDogsAnywhere();
        cooksOfZeroToNine();
        restsInOrder();
        restsByCountsOfZero();
        seatsOneByOne();
        seatsTheFirstOfSeveral();
        chanceByNumbers();
        chanceOfYears();
        chanceOfTheMost();
        triedOtherwise();
        fullTown();
        fullTownAsItGoes();
        Check.end();
    }

    private static NoseCensus town(String text) {
        return Check.town(text);
    }

    /** Nine people of one house, of KINDS 0 to 7 and 0 again, FORCE 1. */
    private static String nine(String house) {
        StringBuilder text = new StringBuilder();
        for (int i = 0; i < 9; i++) {
            text.append("person p").append((char) ('a' + i)).append(' ').append(house).append(' ').append(i % 8)
                    .append(" 1;");
        }
        return text.toString();
    }

    private static void walk(NoseCensus x, String when, int steps, int left, int right, int most) {
        Check.same(when + " by " + steps + " steps: left", x.walk(0, steps, 0), left);
        Check.same(when + " by " + steps + " steps: right", x.walk(0, steps, 1), right);
        Check.same(when + " by " + steps + " steps: houses", x.walk(0, steps, 2), most);
    }

    /** "WALK of a DOG for m steps 0 .. 12": "if the steps suffice". */
    private static void walkToAndFro() {
        // Nobody is there and nothing is smelled: each house is right.
        NoseCensus x = town(SEVEN + "dog d d 1;");
        int[][] due = {{3, 3}, {2, 3}, {1, 3}, {0, 3}, {0, 3}, {0, 4}, {0, 4}, {0, 5}, {0, 5}, {0, 6}, {0, 6}, {0, 6},
            {0, 6}};
        for (int steps = 0; steps <= 12; steps++) {
            walk(x, "from the middle", steps, due[steps][0], due[steps][1], due[steps][1] - due[steps][0] + 1);
        }
        x.send(0, 1);
        // By two to five steps to the right alone there are more houses than with a, which costs two steps.
        int[][] near = {{1, 1}, {0, 1}, {1, 3}, {1, 4}, {1, 5}, {1, 6}, {0, 5}, {0, 6}};
        for (int steps = 0; steps < near.length; steps++) {
            walk(x, "from the second", steps, near[steps][0], near[steps][1], near[steps][1] - near[steps][0] + 1);
        }
    }

    private static void walkFromTheEnds() {
        NoseCensus x = town(SEVEN + "dog d a 1;");
        for (int steps = 0; steps <= 12; steps++) {
            walk(x, "from the first", steps, 0, Math.min(steps, 6), Math.min(steps, 6) + 1);
        }
        x.send(0, 6);
        for (int steps = 0; steps <= 12; steps++) {
            walk(x, "from the last", steps, Math.max(0, 6 - steps), 6, Math.min(steps, 6) + 1);
        }
        x = town("house a;dog d a 1;");
        walk(x, "of one house", 0, 0, 0, 1);
        walk(x, "of one house", 12, 0, 0, 1);
    }

    /** "of several the one whose left end is lesser, then the one whose right end is". */
    private static void walkOfSeveral() {
        // One is in each house and none is smelled: no house is right.
        String wrong = SEVEN + "person a a 0 1;person b b 0 1;person c c 0 1;person d d 0 1;person e e 0 1;"
                + "person f f 0 1;person g g 0 1;dog d d 9;";
        NoseCensus x = town(wrong);
        int[] left = {3, 2, 1, 0, 0, 0};
        for (int steps = 0; steps < left.length; steps++) {
            walk(x, "of none right", steps, left[steps], 3, 0);
        }
        walk(x, "of none right", 12, 0, 3, 0);
        // Now c and e are right.
        x.move(2, 1);
        x.move(4, 5);
        walk(x, "of one on each side", 0, 3, 3, 0);
        walk(x, "of one on each side", 1, 2, 3, 1);
        walk(x, "of one on each side", 2, 1, 3, 1);
        walk(x, "of one on each side", 3, 2, 4, 2);
        walk(x, "of one on each side", 4, 1, 4, 2);
        walk(x, "of one on each side", 5, 0, 4, 2);
        walk(x, "of one on each side", 12, 0, 4, 2);
    }

    /** "the HOUSES in which it would COUNT what is TRUE". */
    private static void walkByWhatItWouldCount() {
        // d counts 1 in a, 1 in b by the wind, and e isn't looked at.
        NoseCensus x = town("house a;house b;person p a 0 9;dog d a 5;dog e b 1;wind 100;");
        walk(x, "with the wind", 1, 0, 0, 1);
        x.blow(50);
        walk(x, "with less wind", 1, 0, 1, 2);
        x.wash(0, true);
        walk(x, "of one washed", 1, 0, 1, 1);
        x.cook(1, 9);
        x.move(0, 1);
        walk(x, "of one moved", 1, 0, 0, 1);
    }

    /** "the fewest PEOPLE ... (bits, of several the least)". */
    private static void washTheFewest() {
        NoseCensus x = town("house a;dog d a 1;" + nine("a"));
        // Of KIND 0 there are two, so others are fewer.
        int[] due = {511, 254, 126, 62, 30, 14, 6, 2, 0};
        for (int n = 0; n <= 8; n++) {
            Check.same("washed(0, 0, " + n + ")", x.washed(0, 0, n), due[n]);
        }
        // Less air is smelled where more isn't: 5 of both, 3 of p, 2 of q.
        x = town("house a;person p a 0 3;person q a 0 2;dog d a 1;law nose air=3;");
        Check.same("none counted as it is", x.washed(0, 0, 0), 0);
        Check.same("one washed that another counts", x.washed(0, 0, 1), 2);
        x = town("house a;person p a 0 2;person q a 0 2;person r a 0 2;dog d a 1;law nose air=2 or air=4;");
        Check.same("one of three alike", x.washed(0, 0, 1), 1);
        x = town("house a;person p a 0 2;person q a 0 2;person r a 0 2;dog d a 1;law nose air=2;");
        Check.same("two of three alike", x.washed(0, 0, 1), 3);
    }

    /** "PEOPLE there who aren't WASHED". */
    private static void washThoseThereUnwashed() {
        NoseCensus x = town("house a;house b;person p b 0 5;person q a 0 5;person r b 0 5;person s b 1 5;dog d a 5;");
        Check.same("only those there", x.washed(1, 0, 1), 8);
        Check.same("all those there", x.washed(1, 0, 0), 13);
        Check.same("of the other house", x.washed(0, 0, 0), 2);
        x.wash(0, true);
        Check.same("only the unwashed", x.washed(1, 0, 0), 12);
        Check.same("the least of one each", x.washed(1, 0, 1), 4);
        x.wash(2, true);
        x.wash(3, true);
        Check.same("all are washed", x.washed(1, 0, 0), 0);
        Check.same("none is left to wash", x.washed(1, 0, 1), -2);
        x.move(1, 1);
        Check.same("nobody there", x.washed(0, 0, 0), 0);
        Check.same("nobody there to count", x.washed(0, 0, 1), -2);
    }

    /** "-2: by none". */
    private static void washByNone() {
        NoseCensus x = town("house a;house b;person p a 0 9;person q b 1 9;coat b 2 9;dog d a 1;wind 100;");
        Check.same("the wind and a coat stay", x.washed(1, 0, 0), -2);
        Check.same("the wind and a coat stay: 1", x.washed(1, 0, 1), -2);
        Check.same("the wind and a coat stay: 2", x.washed(1, 0, 2), 2);
        Check.same("as it is", x.washed(1, 0, 3), 0);
        Check.same("more than there are", x.washed(1, 0, 4), -2);
        Check.same("the most", x.washed(1, 0, 8), -2);
        Check.same("beyond the most", x.washed(1, 0, 9), NONE);
        Check.same("below the least", x.washed(1, 0, -1), NONE);
    }

    /** "how many sets, the k-th of them"; "-2: there are no so many; NONE: no such ones, k is below 0". */
    private static void whoOfSets() {
        NoseCensus x = town("house a;dog d a 9;" + nine("a"));
        Check.same("all sets", x.who(0, 0), 512);
        for (int k : new int[] {0, 1, 255, 510, 511}) {
            Check.same("set(0, 0, " + k + ")", x.set(0, 0, k), k);
        }
        Check.same("set(0, 0, 512)", x.set(0, 0, 512), -2);
        Check.same("set of the greatest k", x.set(0, 0, Integer.MAX_VALUE), -2);
        Check.same("set(0, 0, -1)", x.set(0, 0, -1), NONE);
        Check.same("set of the least k", x.set(0, 0, Integer.MIN_VALUE), NONE);
        x = town("house a;dog d a 1;" + nine("a"));
        // All eight kinds: the first or the last person of KIND 0, or both.
        Check.same("sets of all kinds", x.who(0, 0), 3);
        int[] sets = {255, 510, 511, -2};
        for (int k = 0; k < sets.length; k++) {
            Check.same("set(0, 0, " + k + ") of all kinds", x.set(0, 0, k), sets[k]);
        }
    }

    private static void whoOfNobody() {
        NoseCensus x = town("house a;coat a 0 5;dog d a 1;");
        Check.same("nobody, but a coat", x.who(0, 0), 0);
        Check.same("no set", x.set(0, 0, 0), -2);
        x.years(5);
        Check.same("nobody, and no coat", x.who(0, 0), 1);
        Check.same("the empty set", x.set(0, 0, 0), 0);
        Check.same("no second one", x.set(0, 0, 1), -2);
    }

    /** "(the others of no matter where)"; "if they alone were in the HOUSE, unWASHED, without COATS there and WIND". */
    private static void whoAlone() {
        NoseCensus x = town("house a;house b;person p a 0 4;person q b 0 3;person r b 1 9;coat b 0 1;"
                + "wind 100;dog d b 4;");
        // In b 4 + 3 + 1 of KIND 0 and 9 of KIND 1 are smelled; p alone is 4, q alone 3, both are 7.
        Check.same("sets", x.who(1, 0), 2);
        Check.same("p and r", x.set(1, 0, 0), 5);
        Check.same("all three", x.set(1, 0, 1), 7);
        x.wash(0, true);
        x.wash(2, true);
        // Now 3 + 1 of KIND 0 are, KIND 1 isn't: p is in such a set though washed.
        Check.same("sets of those washed too", x.who(1, 0), 2);
        Check.same("p", x.set(1, 0, 0), 1);
        Check.same("p and q", x.set(1, 0, 1), 3);
        // In a nothing is smelled: nobody, or q alone.
        Check.same("sets of none smelled", x.who(0, 0), 2);
        Check.same("nobody", x.set(0, 0, 0), 0);
        Check.same("q", x.set(0, 0, 1), 2);
    }

    private static void share(NoseCensus x, int house, int kind, int above, int below) {
        Check.same("share(" + house + ", " + kind + ", 0)", x.share(house, kind, 0), above);
        Check.same("share(" + house + ", " + kind + ", 1)", x.share(house, kind, 1), below);
    }

    /** "SHARE in least terms ... (0 by 1 without AIR)". */
    private static void shareInLeastTerms() {
        NoseCensus x = town("house a;house b;house c;person p a 0 8;person q b 0 4;person r b 7 9;"
                + "coat c 7 3;wind 100;");
        share(x, 0, 0, 0, 1);
        share(x, 1, 0, 2, 3);
        share(x, 2, 0, 1, 1);
        share(x, 0, 7, 0, 1);
        share(x, 1, 7, 0, 1);
        share(x, 2, 7, 3, 4);
        share(x, 2, 3, 0, 1);
        x.blow(99);
        // 8 of a are 7 in b, with 4 are 11, of which 10 are in c.
        share(x, 1, 0, 7, 11);
        share(x, 2, 0, 1, 1);
        x.blow(0);
        share(x, 1, 0, 0, 1);
        share(x, 2, 7, 0, 1);
        share(x, 2, 0, 0, 1);
        x.wash(0, true);
        share(x, 0, 0, 0, 1);
    }

    /** "GHOSTS: HOUSES (bits) without PEOPLE with a COUNT above 0. WRONG: ... with a COUNT that isn't TRUE." */
    private static void ghostsAndWrong() {
        NoseCensus x = town(SEVEN + "person p d 0 9;coat a 1 9;coat d 1 9;coat g 1 1;dog d a 1;dog e d 1;dog f g 1;");
        Check.same("ghosts in the first and the last", x.ghosts(), 65);
        Check.same("wrong in all", x.wrong(), 73);
        x.years(1);
        Check.same("a count of 0", x.ghosts(), 1);
        Check.same("a count of 0 where nobody is", x.wrong(), 9);
        x.wash(0, true);
        Check.same("one washed is there", x.ghosts(), 1);
        Check.same("one counted by a coat", x.wrong(), 1);
        x.move(0, 0);
        Check.same("a ghost in the middle", x.ghosts(), 8);
        Check.same("wrong in the middle", x.wrong(), 8);
        x.send(1, 1);
        Check.same("no ghost without a count", x.ghosts(), 0);
        Check.same("none wrong without a count", x.wrong(), 0);
    }

    /** "the least DISH 0 .. 99 by which the DOG ... COUNTS 0"; "-2: by none". */
    private static void hideByTheLeast() {
        for (int smell : new int[] {0, 1, 2, 50, 98, 99}) {
            NoseCensus x = town("house a;person p a 0 9;person q a 1 1;dog d a 1;law smell " + smell + "*(kind=0);");
            Check.same("hide of " + smell, x.hide(0, 0), smell);
            x.cook(0, 99);
            Check.same("hide of " + smell + ", not by the dish of now", x.hide(0, 0), smell);
        }
        NoseCensus x = town("house a;person p a 0 9;coat a 0 1;dog d a 1;law smell 99;");
        Check.same("hide of 100", x.hide(0, 0), -2);
        x.years(1);
        Check.same("hide of 99", x.hide(0, 0), 99);
        x = town("house a;person p a 0 9;dog d a 1;law nose dish<>7;");
        Check.same("by a law at 7", x.hide(0, 0), 7);
        x = town("house a;person p a 0 9;dog d a 1;law smell 1+dish;");
        Check.same("by a law that goes up to 99", x.hide(0, 0), 99);
        x = town("house a;person p a 0 9;coat a 0 1;dog d a 1;law smell dish;");
        Check.same("by a law that is always above", x.hide(0, 0), -2);
    }

    private static void hideIfItWereThere() {
        NoseCensus x = town("house a;house b;person p a 0 9;person q a 1 4;coat b 0 2;dog d a 1;dog e a 5;wind 50;");
        Check.same("where it is", x.hide(0, 0), 9);
        Check.same("in the other house, with the wind", x.hide(1, 0), 6);
        Check.same("of a worse nose", x.hide(0, 1), 9);
        x.wash(0, true);
        Check.same("a worse nose smells none", x.hide(0, 1), 0);
        Check.same("a better one another kind", x.hide(0, 0), 4);
    }

    /** "in how many YEARS from now on, 9 at most"; "(0: none SMELLS it now); -2: not by then". */
    private static void keepsFromNowOn() {
        for (int nose = 1; nose <= 9; nose++) {
            NoseCensus x = town("house a;coat a 2 9;coat a 3 1;dog d a " + nose + ";");
            Check.same("a coat of 9 and a nose of " + nose, x.keeps(0), 10 - nose);
            Check.same("a coat of 1 and a nose of " + nose, x.keeps(1), nose == 1 ? 1 : 0);
        }
        NoseCensus x = town("house a;coat a 2 1;person p a 2 1;dog d a 1;");
        Check.same("not by then", x.keeps(0), -2);
        x.wash(0, true);
        Check.same("washed this year only", x.keeps(0), -2);
        x.cook(0, 1);
        Check.same("covered now", x.keeps(0), 0);
        x.undo();
        x.years(1);
        Check.same("none any more", x.keeps(0), NONE);
        for (int last = 7; last <= 11; last++) {
            x = town("house a;coat a 2 1;person p a 2 1;dog d a 1;law nose year<" + last + ";");
            Check.same("by a law up to " + last, x.keeps(0), last <= 9 ? last : -2);
            x.hang(0, 2, 9);
            Check.same("of another coat too", x.keeps(1), last <= 9 ? last : -2);
        }
        x = town("house a;coat a 2 9;dog d a 1;law nose year=1;");
        Check.same("the first so", x.keeps(0), 0);
    }

    /** "no DOG of now, if it were in the COAT's HOUSE". */
    private static void keepsOfDogsAnywhere() {
        NoseCensus x = town("house a;house b;coat a 2 5;coat b 2 9;dog d b 4;dog e b 2;");
        Check.same("by the best nose of another house", x.keeps(0), 4);
        x.send(1, 0);
        Check.same("wherever it is", x.keeps(0), 4);
        x.blow(100);
        Check.same("by the wind into the other house", x.keeps(1), 8);
        x = town("house a;coat a 2 5;");
        Check.same("without dogs", x.keeps(0), 0);
    }

    /** "each chooses a DISH 0 .. 9; it pays what is due then and the DISH itself". */
    private static void cooksOfZeroToNine() {
        String two = "house a;house b;person p a 0 1;person q b 0 1;dog d a 1;dog e b 1;";
        // What smells of 9 a dish of 9 hides: it pays 9 instead of the tax.
        int[] tax = {8, 9, 10};
        int[][] due = {{0}, {0, 9, 90, 99}, {99}};
        for (int i = 0; i < tax.length; i++) {
            NoseCensus x = town(two + "law smell 9;tax " + tax[i] + ";");
            Check.same("rests by a tax of " + tax[i], x.rests(0, 1), due[i].length);
            for (int k = 0; k < due[i].length; k++) {
                Check.same("rest " + k + " by a tax of " + tax[i], x.rest(0, 1, k), due[i][k]);
            }
            Check.same("no more by a tax of " + tax[i], x.rest(0, 1, due[i].length), -2);
        }
        // What smells of 10 none hides.
        NoseCensus x = town(two + "law smell 10;tax 99;");
        Check.same("rests of 10", x.rests(0, 1), 1);
        Check.same("the rest of 10", x.rest(0, 1, 0), 0);
        x.cook(0, 99);
        Check.same("not by a dish of now", x.rest(0, 1, 0), 0);
    }

    /** "RESTS: by the first one's, then the second one's"; "ten times the first one's DISH and the second one's". */
    private static void restsInOrder() {
        NoseCensus x = town("house a;house b;house c;dog d a 1;dog e c 1;law due 9-dish;");
        Check.same("all are rests", x.rests(0, 2), 100);
        for (int k : new int[] {0, 1, 9, 10, 98, 99}) {
            Check.same("rest(0, 2, " + k + ")", x.rest(0, 2, k), k);
        }
        Check.same("rest(0, 2, 100)", x.rest(0, 2, 100), -2);
        Check.same("rest of the greatest k", x.rest(0, 2, Integer.MAX_VALUE), -2);
        Check.same("rest(0, 2, -1)", x.rest(0, 2, -1), NONE);
        Check.same("rest of the least k", x.rest(0, 2, Integer.MIN_VALUE), NONE);
        // The first house is at rest by 3 and 5, the last one by 7.
        x = town("house a;house b;house c;dog d a 1;dog e c 1;"
                + "law due (place=0)*(dish<>3 and dish<>5)*50+(place=0)*(9-dish)+(place=2)*(dish<>7)*50;");
        Check.same("rests of two and one", x.rests(0, 2), 2);
        Check.same("the first", x.rest(0, 2, 0), 37);
        Check.same("the second", x.rest(0, 2, 1), 57);
        Check.same("the first the other way round", x.rest(2, 0, 0), 73);
        Check.same("the second the other way round", x.rest(2, 0, 1), 75);
    }

    private static void restsByCountsOfZero() {
        NoseCensus x = town("house a;house b;dog d a 1;dog e b 1;");
        Check.same("counts of 0 have rests", x.rests(0, 1), 1);
        Check.same("of no dish", x.rest(0, 1, 0), 0);
        x.send(1, 0);
        Check.same("without a count", x.rests(0, 1), NONE);
        Check.same("without a count, k", x.rest(1, 0, 0), NONE);
        x = town("house a;house b;");
        Check.same("without dogs", x.rests(0, 1), NONE);
    }

    private static void seats(NoseCensus x, int k, int... due) {
        for (int house = 0; house < due.length; house++) {
            Check.same("seats(" + k + ", " + house + ")", x.seats(k, house), due[house]);
        }
    }

    /** "SEATS of k 1 .. 99: dealt out one by one ... (COUNT by that number as a fraction; NONE as 0)". */
    private static void seatsOneByOne() {
        // Counts of 3 and 5: 5, 3, 5/2, 5/3, 3/2, 5/4, then 1 and 1.
        NoseCensus x = town("house a;house b;coat a 0 9;coat a 1 9;coat a 2 9;coat b 0 9;coat b 1 9;coat b 2 9;"
                + "coat b 3 9;coat b 4 9;dog d a 1;dog e b 1;house c;");
        int[][] due = {{0, 1, 0}, {1, 1, 0}, {1, 2, 0}, {1, 3, 0}, {2, 3, 0}, {2, 4, 0}, {3, 4, 0}, {3, 5, 0}};
        for (int k = 1; k <= due.length; k++) {
            seats(x, k, due[k - 1]);
        }
        seats(x, 96, 36, 60, 0);
        seats(x, 99, 37, 62, 0);
        seats(x, 0, NONE, NONE, NONE);
        seats(x, 100, NONE, NONE, NONE);
        Check.same("seats(1, 3)", x.seats(1, 3), NONE);
        Check.same("seats(1, -1)", x.seats(1, -1), NONE);
    }

    /** "the first of several". */
    private static void seatsTheFirstOfSeveral() {
        NoseCensus x = town("house a;house b;house c;coat a 0 9;coat b 0 9;coat c 0 9;dog d a 1;dog e b 1;dog f c 1;");
        int[][] due = {{1, 0, 0}, {1, 1, 0}, {1, 1, 1}, {2, 1, 1}, {2, 2, 1}, {2, 2, 2}};
        for (int k = 1; k <= due.length; k++) {
            seats(x, k, due[k - 1]);
        }
        seats(x, 99, 33, 33, 33);
        x.cook(0, 99);
        seats(x, 3, 0, 2, 1);
        x.cook(1, 99);
        x.cook(2, 99);
        seats(x, 99, 99, 0, 0);
        // A house without a count is as one of 0: the first of both.
        x = town("house a;house b;dog d b 1;");
        seats(x, 1, 1, 0);
        seats(x, 99, 99, 0);
        x = town(SEVEN);
        seats(x, 1, 1, 0, 0, 0, 0, 0, 0);
        seats(x, 99, 99, 0, 0, 0, 0, 0, 0);
    }

    /** "Numbers are the last one (at first the seed) times 1103515245 and 12345, without what is above 31 bits ...". */
    private static void chanceByNumbers() {
        // From a seed of 1 on the numbers are 16838, 5758, 10113, 17515, 31051, 5627, 23010, 7419, 16212, 4086:
        // winds of 72, 1, 13, 42, 44, 72, 83, 46, 52, 46, which of 99 bring 71, 0, 12, 41, 43, 71, 82, 45, 51, 45.
        NoseCensus x = town("house a;house b;person p a 0 1;dog d b 1;law smell 99;");
        int[] dishes = {1, 11, 12, 40, 41, 42, 43, 44, 45, 50, 51, 70, 71, 81, 82, 99, 0};
        int[] due = {9, 9, 8, 8, 7, 7, 6, 6, 4, 4, 3, 3, 1, 1, 0, 0, 9};
        for (int i = 0; i < dishes.length; i++) {
            x.cook(1, dishes[i]);
            Check.same("chance by a dish of " + dishes[i], x.chance(1, 1, 1), due[i]);
        }
        // From a seed of 0 on the first number is 0 (12345 by 65536): no wind.
        x = town("house a;house b;person p a 0 1;dog d b 1;law smell 99;law due year=0 and heads=0;");
        int[] number = {0, 1, Integer.MAX_VALUE};
        for (int seed : number) {
            long last = seed;
            int none = 0;
            for (int i = 0; i < 10; i++) {
                last = (last * 1103515245L + 12345L) % 2147483648L;
                none += last / 65536 % 101 < 2 ? 1 : 0;
            }
            Check.same("times of no wind from " + seed, x.chance(seed, 1, 1), none);
        }
        Check.same("the last seed below 0", x.chance(-1, 1, 0), NONE);
        Check.same("the least seed", x.chance(Integer.MIN_VALUE, 1, 0), NONE);
    }

    /** "one behind another; n 1 .. 30 YEARS from now". */
    private static void chanceOfYears() {
        // Numbers go on by 2749, 12767, 9084, 12060, 32225, 17543, 25089, 21183, 25137, 25566: winds of 22, 41, 95, 41,
        // 6, 70, 41, 74, 89, 13. Two years each: one of 72, 1; 44, 72; 83, 46; 95, 41; 6, 70; 41, 74; 89, 13 is 56.
        NoseCensus x = town("house a;house b;person p a 0 9;dog d b 5;law due 100*heads;");
        Check.same("two years: none", x.chance(1, 2, 0), 10);
        Check.same("two years: 1", x.chance(1, 2, 1), 7);
        Check.same("two years: 100", x.chance(1, 2, 100), 7);
        Check.same("two years: 101", x.chance(1, 2, 101), 0);
        Check.same("one year: 100", x.chance(1, 1, 100), 3);
        x.wash(0, true);
        Check.same("washed in the first", x.chance(1, 1, 100), 0);
        // Only the second one of each two: 72, 70, 74.
        Check.same("washed in the first of two", x.chance(1, 2, 100), 3);
        x.years(1);
        x.blow(33);
        Check.same("each time from now", x.chance(1, 2, 100), 7);
        Check.same("the wind of now stays", x.count(7), 33);
        Check.same("what was paid ahead doesn't count", x.chance(1, 1, 100), 3);
    }

    /** "so much 0 .. 9999 more at least in these YEARS". */
    private static void chanceOfTheMost() {
        NoseCensus x = town("house a;house b;house c;dog d a 1;law due 999;");
        Check.same("30 years", x.chance(5, 30, 9999), 10);
        Check.same("11 years", x.chance(5, 11, 9999), 10);
        Check.same("10 years", x.chance(5, 10, 9999), 0);
        Check.same("10 years: 9990", x.chance(5, 10, 9990), 10);
        Check.same("10 years: 9991", x.chance(5, 10, 9991), 0);
        Check.same("31 years", x.chance(5, 31, 0), NONE);
        Check.same("0 years", x.chance(5, 0, 0), NONE);
        Check.same("10000", x.chance(5, 30, 10000), NONE);
        Check.same("-1", x.chance(5, 30, -1), NONE);
        x = town("house a;house b;house c;dog d a 1;dog e b 1;dog f c 1;law due 1+place;");
        Check.same("all pay in sum", x.chance(5, 2, 12), 10);
        Check.same("no more in sum", x.chance(5, 2, 13), 0);
        x.years(99);
        Check.same("more than now", x.chance(5, 2, 12), 10);
        Check.same("no more than now", x.chance(5, 2, 13), 0);
    }

    /** Seven houses, nine people, twelve coats and three dogs, all of them in the last house. */
    private static NoseCensus full() {
        NoseCensus x = town(SEVEN + nine("g") + "coat g 7 9;".repeat(8) + "dog d g 1;dog e g 1;dog f g 1;");
        for (int coat = 8; coat < 12; coat++) {
            Check.same("full: hang", x.hang(6, 7, 9), coat);
        }
        return x;
    }

    /** What is asked of the last ones of each in a town that has all there may be. */
    private static void fullTown() {
        NoseCensus x = full();
        Check.same("full: air(6, 0)", x.air(6, 0), 2);
        Check.same("full: air(6, 7)", x.air(6, 7), 1 + 12 * 9);
        Check.same("full: smells(2, 6)", x.smells(2, 6), 255);
        Check.same("full: house(6, 1)", x.house(6, 1), 9);
        Check.same("full: house(6, 3)", x.house(6, 3), 16);
        Check.same("full: count(8)", x.count(8), 8);
        Check.same("full: wrong", x.wrong(), 64);
        Check.same("full: ghosts", x.ghosts(), 0);
        Check.same("full: walk(2, 12, 0)", x.walk(2, 12, 0), 0);
        Check.same("full: walk(2, 12, 1)", x.walk(2, 12, 1), 6);
        Check.same("full: walk(2, 12, 2)", x.walk(2, 12, 2), 6);
        Check.same("full: washed(6, 2, 1)", x.washed(6, 2, 1), 511 - 128);
        Check.same("full: washed(6, 2, 0)", x.washed(6, 2, 0), -2);
        Check.same("full: who(6, 2)", x.who(6, 2), 3);
        Check.same("full: set(6, 2, 2)", x.set(6, 2, 2), 511);
        Check.same("full: share(6, 7, 0)", x.share(6, 7, 0), 0);
        Check.same("full: hide(6, 2)", x.hide(6, 2), -2);
        Check.same("full: keeps(11)", x.keeps(11), -2);
        Check.same("full: seats(99, 6)", x.seats(99, 6), 99);
        for (int what = 0; what <= 5; what++) {
            Check.same("full: tried(" + what + ", 0)", x.tried(what, 0), 8);
        }
        Check.same("full: tried(2, 7)", x.tried(2, 7), 8);
        Check.same("full: tried(2, 6)", x.tried(2, 6), 7);
        Check.same("full: tried(2, 8)", x.tried(2, 8), 8);
        x.send(0, 5);
        // Of a dish of 2 only KIND 7 is left: 2 a head and 2.
        Check.same("full: rests(5, 6)", x.rests(5, 6), 1);
        Check.same("full: rest(5, 6, 0)", x.rest(5, 6, 0), 2);
        Check.same("full: rest(6, 5, 0)", x.rest(6, 5, 0), 20);
    }

    private static void fullTownAsItGoes() {
        NoseCensus x = full();
        for (int note = 0; note < 24; note++) {
            Check.same("full: note", x.note(8, 6, 8, true), note);
        }
        Check.same("full: sort(8)", x.sort(8), 255);
        Check.same("full: sort(6)", x.sort(6), 64);
        Check.same("full: chance", x.chance(1, 30, 480), 10);
        Check.same("full: chance of more", x.chance(1, 30, 481), 0);
        x.cook(6, 3);
        x.blow(100);
        Check.same("full: tried(3, 0) covered", x.tried(3, 0), 8);
        Check.same("full: tried(0, 0) covered", x.tried(0, 0), 1);
        Check.same("full: undo", x.undo(), 5);
        Check.same("full: undo", x.undo(), 4);
        x.keep();
        x.years(9);
        Check.same("full: count(9)", x.count(9), 144);
        Check.same("full: house(6, 4)", x.house(6, 4), 144);
        Check.same("full: coats still", x.count(3), 0);
        Check.same("full: back", x.back(), 0);
        Check.same("full: count(9) as in the image", x.count(9), 0);
        Check.same("full: coat(11, 2) as in the image", x.coat(11, 2), 9);
        Check.same("full: house(6, 4) as in the image", x.house(6, 4), 0);
    }

    /** "TRIED: all COUNTS in sum now (NONE as 0)"; "(i 0 of all but 2)". */
    private static void triedOtherwise() {
        NoseCensus x = town("house a;house b;house c;person p a 0 8;person q b 1 8;coat b 2 8;dish b 5;"
                + "dog d b 5;dog e a 9;wind 50;");
        x.wash(1, true);
        // In b: 4 of KIND 0 by the wind, 8 of KIND 2; e counts 0 in a, c has no count.
        int[] due = {1, 1, 1, 1, 0, 2};
        for (int what = 0; what <= 5; what++) {
            Check.same("tried(" + what + ", 0)", x.tried(what, 0), due[what]);
        }
        Check.same("without one washed", x.tried(2, 1), 1);
        Check.same("without no such one", x.tried(2, 2), NONE);
        x.blow(100);
        int[] windy = {2, 1, 1, 2, 1, 3};
        for (int what = 0; what <= 5; what++) {
            Check.same("tried(" + what + ", 0) with more wind", x.tried(what, 0), windy[what]);
        }
        x.cook(1, 8);
        int[] covered = {0, 0, 0, 2, 0, 0};
        for (int what = 0; what <= 5; what++) {
            Check.same("tried(" + what + ", 0) covered", x.tried(what, 0), covered[what]);
        }
        Check.same("the dish stays", x.house(1, 0), 8);
        // Of 100 and more in a nothing comes to b without a wind, and nothing goes.
        x = town("house a;house b;person p a 0 1;coat a 0 9;coat b 0 1;dog d b 1;law smell 99;wind 1;");
        Check.same("by the least wind", x.tried(0, 0), 1);
        Check.same("without it", x.tried(1, 0), 1);
        // A dish of 0 is told to the laws too.
        x = town("house a;house b;person p a 0 1;dish a 3;dish b 4;dog d a 1;dog e b 1;wind 100;law smell 5*(dish=0);");
        Check.same("by a law as it is", x.tried(0, 0), 0);
        Check.same("by a law of no dishes", x.tried(3, 0), 2);
    }
}
