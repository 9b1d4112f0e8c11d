/** Promises 20 to 31, 36 and 37: what is asked of the town as it is. */
public final class QuestionTest {
    public static void main(String[] args) {
        asFirstCall();
        walk();
        walkOfMany();
        washed();
        who();
        whoByLaw();
        share();
        ghostsAndWrong();
        hide();
        hideByLaw();
        keeps();
        keepsOfOthers();
        rests();
        restsByLaw();
        seats();
        chance();
        chanceAsItGoes();
        chanceOfWind();
        tried();
        nothingChanges();
        Check.end();
    }

    /** Each question asked of a town that no other call has looked at, and of one just changed. */
    private static void asFirstCall() {
        Check.same("walk first", Check.town(Check.ROW).walk(1, 1, 0), 1);
        Check.same("washed first", Check.town(Check.ROW).washed(0, 0, 1), 1);
        Check.same("who first", Check.town(Check.ROW).who(0, 0), 3);
        Check.same("set first", Check.town(Check.ROW).set(0, 0, 1), 6);
        Check.same("share first", Check.town(Check.ROW).share(1, 0, 1), 3);
        Check.same("ghosts first", Check.town(Check.ROW).ghosts(), 4);
        Check.same("wrong first", Check.town(Check.ROW).wrong(), 4);
        Check.same("hide first", Check.town(Check.ROW).hide(0, 0), 5);
        Check.same("keeps first", Check.town(Check.ROW).keeps(0), 4);
        Check.same("rests first", Check.town(Check.ROW).rests(0, 2), 1);
        Check.same("rest first", Check.town(Check.ROW).rest(0, 2, 0), 50);
        Check.same("seats first", Check.town(Check.ROW).seats(3, 2), 1);
        Check.same("chance first", Check.town(Check.ROW).chance(1, 1, 9), 10);
        Check.same("tried first", Check.town(Check.ROW).tried(0, 0), 3);
        Check.same("smells first", Check.town(Check.ROW).smells(0, 0), 3);
        Check.same("air first", Check.town(Check.ROW).air(1, 0), 6);
        Check.same("count first", Check.town(Check.ROW).count(8), 3);
        Check.same("house first", Check.town(Check.ROW).house(2, 2), 1);
        NoseCensus x = Check.town(Check.ROW);
        x.chance(1, 30, 0);
        Check.same("wrong behind a trial", x.wrong(), 4);
        x.chance(1, 30, 0);
        Check.same("seats behind a trial", x.seats(3, 2), 1);
        x.chance(1, 30, 0);
        x.wash(0, true);
        Check.same("set behind a trial and a change", x.set(0, 0, 0), 2);
    }

    private static void walk() {
        NoseCensus x = Check.town(Check.ROW);
        int[][] due = {{0, 0, 1}, {0, 1, 2}, {0, 1, 2}};
        for (int steps = 0; steps < 3; steps++) {
            for (int what = 0; what < 3; what++) {
                Check.same("walk(0, " + steps + ", " + what + ")", x.walk(0, steps, what), due[steps][what]);
            }
        }
        Check.same("walk(0, 12, 2)", x.walk(0, 12, 2), 2);
        Check.same("walk(0, 13, 2)", x.walk(0, 13, 2), -1);
        Check.same("walk(0, -1, 2)", x.walk(0, -1, 2), -1);
        Check.same("walk(2, 1, 2)", x.walk(2, 1, 2), -1);
        Check.same("walk(-1, 1, 2)", x.walk(-1, 1, 2), -1);
        Check.same("walk(0, 1, 3)", x.walk(0, 1, 3), -1);
        Check.same("walk(0, 1, -1)", x.walk(0, 1, -1), -1);
    }

    private static void walkOfMany() {
        // Houses a, c, d, f are right for the dog in d; b, e, g are not.
        NoseCensus x = Check.town("house a;house b;house c;house d;house e;house f;house g;"
                + "person p a 0 5;person q b 0 1;person r e 0 1;person s g 0 1;dog t d 2;");
        int[][] due = {{3, 3, 1}, {2, 3, 2}, {1, 3, 2}, {0, 3, 3}, {0, 3, 3}, {0, 3, 3}, {0, 3, 3}, {0, 5, 4}};
        for (int steps = 0; steps < due.length; steps++) {
            for (int what = 0; what < 3; what++) {
                Check.same("walk(0, " + steps + ", " + what + ") of seven", x.walk(0, steps, what), due[steps][what]);
            }
        }
        x.wash(0, true);
        Check.same("with the first one wrong", x.walk(0, 12, 2), 3);
        x.wash(0, false);
        x.send(0, 5);
        Check.same("from the right: left", x.walk(0, 4, 0), 1);
        Check.same("from the right: right", x.walk(0, 4, 1), 5);
        Check.same("from the right: houses", x.walk(0, 4, 2), 3);
    }

    private static void washed() {
        NoseCensus x = Check.town("house a;house b;person p a 0 3;person q b 5 9;person r a 0 3;person s a 1 2;"
                + "person t a 2 9;coat a 2 1;dog d b 3;");
        Check.same("as it is", x.washed(0, 0, 2), 0);
        Check.same("the fewest", x.washed(0, 0, 1), 16);
        Check.same("three of them", x.washed(0, 0, 0), 21);
        Check.same("by none", x.washed(0, 0, 3), -2);
        Check.same("of eight heads", x.washed(0, 0, 8), -2);
        x.wash(0, true);
        Check.same("the least of several", x.washed(0, 0, 1), 4);
        Check.same("one washed isn't washed again", x.washed(0, 0, 0), 20);
        Check.same("washed(0, 0, 9)", x.washed(0, 0, 9), -1);
        Check.same("washed(0, 0, -1)", x.washed(0, 0, -1), -1);
        Check.same("washed(2, 0, 0)", x.washed(2, 0, 0), -1);
        Check.same("washed(-1, 0, 0)", x.washed(-1, 0, 0), -1);
        Check.same("washed(0, 1, 0)", x.washed(0, 1, 0), -1);
        Check.same("washed(0, -1, 0)", x.washed(0, -1, 0), -1);
        x.hang(0, 2, 9);
        Check.same("a coat can't be washed", x.washed(0, 0, 0), -2);
        StringBuilder nine = new StringBuilder("house a;dog d a 1;");
        for (char name = 'a'; name <= 'i'; name++) {
            nine.append("person ").append(name).append(" a ").append((name - 'a') % 8).append(" 1;");
        }
        x = Check.town(nine.toString());
        Check.same("all nine", x.washed(0, 0, 0), 511);
        Check.same("none of eight kinds", x.washed(0, 0, 8), 0);
        Check.same("one of eight kinds", x.washed(0, 0, 7), 2);
        Check.same("all but one of them", x.washed(0, 0, 1), 254);
    }

    private static void who() {
        NoseCensus x = Check.town(Check.ROW);
        int[] sets = {3, 6, 7};
        Check.same("who(0, 0)", x.who(0, 0), 3);
        for (int k = 0; k < 3; k++) {
            Check.same("set(0, 0, " + k + ")", x.set(0, 0, k), sets[k]);
        }
        Check.same("set(0, 0, 3)", x.set(0, 0, 3), -2);
        Check.same("set(0, 0, -1)", x.set(0, 0, -1), -1);
        Check.same("by a coat and none", x.who(2, 1), 0);
        Check.same("set of none", x.set(2, 1, 0), -2);
        x.wash(0, true);
        x.wash(1, true);
        Check.same("who(0, 0) of nothing smelled", x.who(0, 0), 1);
        Check.same("nobody", x.set(0, 0, 0), 0);
        Check.same("who(3, 0)", x.who(3, 0), -1);
        Check.same("who(-1, 0)", x.who(-1, 0), -1);
        Check.same("who(0, 2)", x.who(0, 2), -1);
        Check.same("who(0, -1)", x.who(0, -1), -1);
        Check.same("set(3, 0, 0)", x.set(3, 0, 0), -1);
        Check.same("set(0, 2, 0)", x.set(0, 2, 0), -1);
        StringBuilder nine = new StringBuilder("house a;dog d a 9;");
        for (char name = 'a'; name <= 'i'; name++) {
            nine.append("person ").append(name).append(" a ").append((name - 'a') % 8).append(" 1;");
        }
        x = Check.town(nine.toString());
        Check.same("all sets", x.who(0, 0), 512);
        Check.same("the last of all", x.set(0, 0, 511), 511);
        Check.same("behind the last", x.set(0, 0, 512), -2);
    }

    private static void whoByLaw() {
        NoseCensus x = Check.town("house a;house b;person p a 0 2;person q b 0 3;dish b 4;dog d b 1;"
                + "law smell force*(1+place);wind 100;");
        Check.same("smelled with the wind", x.smells(0, 1), 1);
        // In house b p smells of 4 and q of 6, the dish there covers 4.
        Check.same("who(1, 0)", x.who(1, 0), 2);
        Check.same("set(1, 0, 0)", x.set(1, 0, 0), 2);
        Check.same("set(1, 0, 1)", x.set(1, 0, 1), 3);
    }

    private static void share() {
        NoseCensus x = Check.town("house a;house b;house c;person p a 0 9;person q b 0 2;coat b 1 3;wind 50;");
        int[][] due = {{0, 1}, {2, 3}, {1, 1}};
        for (int house = 0; house < 3; house++) {
            Check.same("share above", x.share(house, 0, 0), due[house][0]);
            Check.same("share below", x.share(house, 0, 1), due[house][1]);
        }
        Check.same("of a coat: below", x.share(2, 1, 1), 1);
        x.hang(2, 1, 3);
        Check.same("of coats: above", x.share(2, 1, 0), 1);
        Check.same("of coats: below", x.share(2, 1, 1), 4);
        x.undo();
        Check.same("nothing brought: above", x.share(1, 1, 0), 0);
        Check.same("nothing brought: below", x.share(1, 1, 1), 1);
        Check.same("without air: above", x.share(1, 7, 0), 0);
        Check.same("without air: below", x.share(1, 7, 1), 1);
        x.blow(100);
        Check.same("9 of 11: above", x.share(1, 0, 0), 9);
        Check.same("9 of 11: below", x.share(1, 0, 1), 11);
        Check.same("share(3, 0, 0)", x.share(3, 0, 0), -1);
        Check.same("share(-1, 0, 0)", x.share(-1, 0, 0), -1);
        Check.same("share(0, 8, 0)", x.share(0, 8, 0), -1);
        Check.same("share(0, -1, 0)", x.share(0, -1, 0), -1);
        Check.same("share(0, 0, 2)", x.share(0, 0, 2), -1);
        Check.same("share(0, 0, -1)", x.share(0, 0, -1), -1);
    }

    private static void ghostsAndWrong() {
        NoseCensus x = Check.town("house a;house b;house c;person p a 0 9;coat b 1 3;coat c 1 9;dog d a 1;dog e b 1;"
                + "dog f b 9;");
        Check.same("ghosts", x.ghosts(), 2);
        Check.same("wrong", x.wrong(), 2);
        x.wash(0, true);
        Check.same("people, but none counted", x.ghosts(), 2);
        Check.same("that is wrong too", x.wrong(), 3);
        x.cook(1, 9);
        Check.same("a count of 0 is no ghost", x.ghosts(), 0);
        Check.same("and right", x.wrong(), 1);
        x.send(2, 2);
        Check.same("one there now", x.ghosts(), 4);
        x.hang(0, 7, 1);
        x.move(0, 1);
        Check.same("the first one too", x.ghosts(), 5);
        x.undo();
        x.undo();
        x.move(0, 2);
        Check.same("a house of one is none", x.ghosts(), 0);
        Check.same("counted by a coat, yet right", x.wrong(), 0);
        Check.same("ghosts of none", new NoseCensus().ghosts(), 0);
        Check.same("wrong of none", new NoseCensus().wrong(), 0);
    }

    private static void hide() {
        NoseCensus x = Check.town(Check.ROW);
        Check.same("hide(0, 0)", x.hide(0, 0), 5);
        Check.same("hide(2, 1)", x.hide(2, 1), 6);
        Check.same("hide(2, 0)", x.hide(2, 0), 6);
        x.years(6);
        Check.same("hidden without", x.hide(2, 1), 0);
        Check.same("hide(3, 0)", x.hide(3, 0), -1);
        Check.same("hide(-1, 0)", x.hide(-1, 0), -1);
        Check.same("hide(0, 2)", x.hide(0, 2), -1);
        Check.same("hide(0, -1)", x.hide(0, -1), -1);
        Check.same("the dish stays", x.house(0, 0), 2);
    }

    private static void hideByLaw() {
        NoseCensus x = Check.town("house a;person p a 0 9;coat a 0 1;dog d a 1;law smell 99;");
        Check.same("by none", x.hide(0, 0), -2);
        x.wash(0, true);
        Check.same("by 1", x.hide(0, 0), 1);
        x = Check.town("house a;person p a 0 9;dog d a 1;law smell 99;");
        Check.same("by 99", x.hide(0, 0), 99);
        x = Check.town("house a;person p a 0 5;dog d a 1;law smell force+dish-2*(dish>7)*dish;");
        Check.same("smell by the dish", x.hide(0, 0), 8);
    }

    private static void keeps() {
        NoseCensus x = Check.town(Check.ROW);
        Check.same("keeps(0)", x.keeps(0), 4);
        x.years(2);
        Check.same("keeps(0) two years later", x.keeps(0), 2);
        x.years(2);
        Check.same("none smells it now", x.keeps(0), 0);
        x.years(2);
        Check.same("none any more", x.keeps(0), -1);
        Check.same("keeps(1)", x.keeps(1), -1);
        Check.same("keeps(-1)", x.keeps(-1), -1);
    }

    private static void keepsOfOthers() {
        NoseCensus x = Check.town("house a;house b;person p a 3 5;coat b 3 2;coat a 3 9;wind 100;dog d a 6;");
        // Air in b: 5 of p and 9 + 2 of the coats at first.
        Check.same("by the wind", x.keeps(0), 9);
        x.wash(0, true);
        Check.same("washed this year only", x.keeps(0), 9);
        x.hang(1, 3, 9);
        Check.same("at nine just none", x.keeps(0), 9);
        x.cook(1, 15);
        Check.same("washed now and covered", x.keeps(0), 4);
        x.undo();
        x.undo();
        x.undo();
        x.send(0, 1);
        Check.same("a dog anywhere", x.keeps(0), 9);
        x = Check.town("house a;person p a 3 5;coat a 3 1;dog d a 5;");
        Check.same("not by then", x.keeps(0), -2);
        x.wash(0, true);
        Check.same("now", x.keeps(0), 0);
        x = Check.town("house a;coat a 3 9;");
        Check.same("without dogs", x.keeps(0), 0);
        x = Check.town("house a;coat a 3 9;dog d a 1;");
        Check.same("nine years", x.keeps(0), 9);
        x = Check.town("house a;coat a 3 1;person p a 3 1;dog d a 1;law nose year<9;");
        Check.same("in the ninth year by the law", x.keeps(0), 9);
        x = Check.town("house a;coat a 3 1;person p a 3 1;dog d a 1;law nose year<10;");
        Check.same("in the tenth year: not by then", x.keeps(0), -2);
    }

    private static void rests() {
        NoseCensus x = Check.town(Check.ROW);
        Check.same("rests(0, 2)", x.rests(0, 2), 1);
        Check.same("rest(0, 2, 0)", x.rest(0, 2, 0), 50);
        Check.same("rest(2, 0, 0)", x.rest(2, 0, 0), 5);
        Check.same("rest(0, 2, 1)", x.rest(0, 2, 1), -2);
        Check.same("rest(0, 2, -1)", x.rest(0, 2, -1), -1);
        Check.same("without a count", x.rests(0, 1), -1);
        Check.same("without a count, rest", x.rest(1, 0, 0), -1);
        Check.same("alike", x.rests(0, 0), -1);
        Check.same("alike, rest", x.rest(2, 2, 0), -1);
        Check.same("rests(3, 0)", x.rests(3, 0), -1);
        Check.same("rests(0, 3)", x.rests(0, 3), -1);
        Check.same("rests(-1, 0)", x.rests(-1, 0), -1);
        Check.same("rest(0, -1, 0)", x.rest(0, -1, 0), -1);
        Check.same("the dish stays", x.house(0, 0), 2);
        x.cook(0, 99);
        Check.same("not by the dish of now", x.rest(0, 2, 0), 50);
    }

    private static void restsByLaw() {
        // Both pay 9 less the dish and the dish itself: all are alike.
        NoseCensus x = Check.town("house a;house b;dog d a 1;dog e b 1;law due 9-dish;");
        Check.same("all pairs rest", x.rests(0, 1), 100);
        Check.same("the first", x.rest(0, 1, 0), 0);
        Check.same("the 38th", x.rest(0, 1, 37), 37);
        Check.same("the last", x.rest(1, 0, 99), 99);
        Check.same("no more", x.rest(0, 1, 100), -2);
        // p smells by a dish of a of 5 and more; the wind brings that to b, which pays 20 then, but by a dish of 9.
        x = Check.town("house a;house b;person p a 0 1;dog d a 1;dog e b 1;wind 100;"
                + "law smell 9*(dish>=5);law due 20*heads*place+(1-place)*(20-4*dish)*(dish<=5);");
        Check.same("rests by what the other cooks", x.rests(0, 1), 1);
        Check.same("the rest", x.rest(0, 1, 0), 59);
        Check.same("the rest the other way round", x.rest(1, 0, 0), 95);
        // Each dish of a costs a alike, and b pays 20 by those of 5 and more, but by a dish of 9.
        x = Check.town("house a;house b;person p a 0 1;dog d a 1;dog e b 1;wind 100;"
                + "law smell 9*(dish>=5);law due 20*heads*place+(1-place)*(9-dish);");
        int[] due = {0, 10, 20, 30, 40, 59, 69, 79, 89, 99};
        Check.same("rests of several", x.rests(0, 1), due.length);
        for (int k = 0; k < due.length; k++) {
            Check.same("rest(0, 1, " + k + ") of several", x.rest(0, 1, k), due[k]);
        }
        int[] round = {0, 1, 2, 3, 4, 95, 96, 97, 98, 99};
        for (int k = 0; k < round.length; k++) {
            Check.same("rest(1, 0, " + k + ") of several", x.rest(1, 0, k), round[k]);
        }
    }

    private static void seats() {
        NoseCensus x = Check.town(Check.ROW);
        int[][] due = {{1, 0, 0}, {2, 0, 0}, {2, 0, 1}, {3, 0, 1}, {4, 0, 1}, {4, 0, 2}};
        for (int k = 1; k <= due.length; k++) {
            for (int house = 0; house < 3; house++) {
                Check.same("seats(" + k + ", " + house + ")", x.seats(k, house), due[k - 1][house]);
            }
        }
        Check.same("seats(99, 0)", x.seats(99, 0), 66);
        Check.same("seats(99, 2)", x.seats(99, 2), 33);
        Check.same("seats(100, 0)", x.seats(100, 0), -1);
        Check.same("seats(0, 0)", x.seats(0, 0), -1);
        Check.same("seats(1, 3)", x.seats(1, 3), -1);
        Check.same("seats(1, -1)", x.seats(1, -1), -1);
        x.send(1, 1);
        x.cook(0, 3);
        Check.same("one to the second", x.seats(2, 1), 1);
        x.cook(0, 99);
        Check.same("all to the second", x.seats(7, 1), 7);
        x.cook(1, 99);
        x.cook(2, 99);
        Check.same("by counts of 0 the first", x.seats(7, 0), 7);
        Check.same("none to another", x.seats(7, 2), 0);
    }

    private static void chance() {
        NoseCensus x = Check.town(Check.ROW);
        Check.same("chance(0, 1, 0)", x.chance(0, 1, 0), 10);
        Check.same("chance(2147483647, 30, 9999)", x.chance(Integer.MAX_VALUE, 30, 9999), 0);
        Check.same("chance(-1, 1, 0)", x.chance(-1, 1, 0), -1);
        Check.same("chance(0, 0, 0)", x.chance(0, 0, 0), -1);
        Check.same("chance(0, 31, 0)", x.chance(0, 31, 0), -1);
        Check.same("chance(0, 1, -1)", x.chance(0, 1, -1), -1);
        Check.same("chance(0, 1, 10000)", x.chance(0, 1, 10000), -1);
        x.years(99);
        // The inn pays 6 a year, whatever the wind: it is the first one.
        x.send(1, 0);
        Check.same("more in these years", x.chance(7, 2, 12), 10);
        Check.same("not more than that", x.chance(7, 2, 13), 0);
        Check.same("the year stays", x.count(6), 99);
        Check.same("the wind stays", x.count(7), 50);
        Check.same("the paid stays", x.house(0, 4), 594);
    }

    private static void chanceAsItGoes() {
        NoseCensus x = Check.town("house a;person p a 0 5;coat a 1 2;dog d a 1;law due 100*heads+year;");
        x.wash(0, true);
        // 100 of the coat, then 201 of both, then 102 and so on of p alone.
        Check.same("one year", x.chance(3, 1, 100), 10);
        Check.same("no more in one year", x.chance(3, 1, 101), 0);
        Check.same("three years", x.chance(3, 3, 403), 10);
        Check.same("no more in three years", x.chance(3, 3, 404), 0);
        x.years(1);
        Check.same("what was paid doesn't count", x.chance(3, 2, 303), 10);
        Check.same("no more behind a year", x.chance(3, 2, 304), 0);
    }

    /** The winds of the numbers from a seed on, as the document tells them. */
    private static int[] winds(long seed, int n) {
        int[] winds = new int[n];
        long number = seed;
        for (int i = 0; i < n; i++) {
            number = (number * 1103515245L + 12345L) % (1L << 31);
            winds[i] = (int) (number / 65536 % 101);
        }
        return winds;
    }

    private static void chanceOfWind() {
        // 9 of a person to the left: the dog counts 1 with a wind of 56 of a hundred at least, then 100 are due.
        NoseCensus x = Check.town("house a;house b;person p a 0 9;dog d b 5;tax 99;law due heads*100;");
        for (int seed : new int[] {0, 1, 5, 99999, 123456789, Integer.MAX_VALUE}) {
            for (int years : new int[] {1, 2, 30}) {
                int[] winds = winds(seed, 10 * years);
                for (int times = 0; times <= years; times++) {
                    int due = 0;
                    for (int time = 0; time < 10; time++) {
                        int paid = 0;
                        for (int i = time * years; i < (time + 1) * years; i++) {
                            paid += winds[i] >= 56 ? 100 : 0;
                        }
                        due += paid >= times * 100 ? 1 : 0;
                    }
                    Check.same("chance(" + seed + ", " + years + ", " + times * 100 + ")",
                            x.chance(seed, years, times * 100), due);
                }
            }
        }
    }

    private static void tried() {
        NoseCensus x = Check.town("house a;house b;person p a 0 6;person q b 1 3;person r b 2 4;coat b 3 5;"
                + "dish b 4;dog d b 2;wind 100;");
        x.wash(2, true);
        Check.same("as it is", x.tried(0, 0), 2);
        Check.same("no wind", x.tried(1, 0), 1);
        Check.same("without p", x.tried(2, 0), 1);
        Check.same("without q", x.tried(2, 1), 2);
        Check.same("all dishes 0", x.tried(3, 0), 3);
        Check.same("no coats", x.tried(4, 0), 1);
        x.cook(1, 3);
        Check.same("as it is with less of a dish", x.tried(0, 0), 2);
        Check.same("all unwashed", x.tried(5, 0), 3);
        Check.same("tried(6, 0)", x.tried(6, 0), -1);
        Check.same("tried(-1, 0)", x.tried(-1, 0), -1);
        Check.same("tried(2, 3)", x.tried(2, 3), -1);
        Check.same("tried(2, -1)", x.tried(2, -1), -1);
        for (int what : new int[] {0, 1, 3, 4, 5}) {
            Check.same("tried(" + what + ", 1)", x.tried(what, 1), -1);
            Check.same("tried(" + what + ", -1)", x.tried(what, -1), -1);
        }
        x = Check.town("house a;house b;person p a 0 9;person q a 0 9;coat a 1 1;dish a 1;dog d b 1;dog e a 1;"
                + "law smell 99;");
        x.blow(1);
        Check.same("a breath of wind", x.tried(0, 0), 2);
        Check.same("not even that", x.tried(1, 0), 1);
        Check.same("the least air above no dish", x.tried(3, 0), 3);
        Check.same("tried(0, 0) of none", new NoseCensus().tried(0, 0), 0);
        Check.same("tried(2, 0) of none", new NoseCensus().tried(2, 0), -1);
    }

    private static void nothingChanges() {
        NoseCensus x = Check.town(Check.ROW);
        x.wash(2, true);
        x.note(1, 0, 1, true);
        int[] before = new int[14];
        for (int what = 0; what < 14; what++) {
            before[what] = x.count(what);
        }
        x.walk(0, 12, 0);
        x.washed(0, 0, 0);
        x.who(0, 0);
        x.set(0, 0, 0);
        x.hide(0, 0);
        x.keeps(0);
        x.rests(0, 2);
        x.rest(0, 2, 0);
        x.seats(9, 0);
        x.sort(0);
        x.chance(1, 30, 5);
        for (int what = 0; what < 6; what++) {
            x.tried(what, 0);
        }
        for (int what = 0; what < 14; what++) {
            Check.same("count(" + what + ") behind questions", x.count(what), before[what]);
        }
        Check.same("air(1, 0) behind questions", x.air(1, 0), 2);
        Check.same("person(0, 1) behind questions", x.person(0, 1), 0);
        Check.same("coat(0, 2) behind questions", x.coat(0, 2), 6);
        Check.same("house(0, 0) behind questions", x.house(0, 0), 2);
    }
}
