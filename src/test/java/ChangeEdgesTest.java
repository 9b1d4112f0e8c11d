import java.util.function.IntFunction;

/** The sentences of ==== 4 and of promises 13 to 19 and 38 to 40 that name an edge, each with a test of its own. */
public final class ChangeEdgesTest {
    private static final int NONE = NoseCensus.NONE;

    public static void main(String[] args) {
        moveToEach();
        washOfEach();
        hangOfEach();
        hangUpToTwelve();
        cookOfEach();
        sendToEach();
        blowOfEach();
        yearsOfEach();
        yearsUpTo999();
        undoneTheLatestFirst();
        undoneTwentyAtMost();
        undoneAndDoneAgain();
        undoneIfNoYearWentBy();
        undoneOfWhatIsNoChange();
        undoneBehindTexts();
        keepWhichYear();
        keepInPlaceOfOneAhead();
        keepLeavesWhatCanBeUndone();
        backAsInTheImage();
        backManyTimes();
        backWithoutNotes();
        Check.end();
    }

    private static NoseCensus fullTown() {
        StringBuilder text = new StringBuilder();
        for (char name = 'a'; name <= 'g'; name++) {
            text.append("house ").append(name).append(';');
        }
        for (char name = 'a'; name <= 'i'; name++) {
            text.append("person ").append(name).append(" a 0 1;");
        }
        return Check.town(text + "dog a a 1;dog b a 1;dog c a 1;");
    }

    /** Promise 13: "A PERSON moves to a HOUSE: true; false: no such ones, there already." */
    private static void moveToEach() {
        NoseCensus x = fullTown();
        for (int person = 0; person < 9; person++) {
            Check.no("there already", x.move(person, 0));
            for (int house = 6; house >= 0; house -= 3) {
                Check.yes("move(" + person + ", " + house + ")", x.move(person, house));
                Check.same("person(" + person + ", 0)", x.person(person, 0), house);
                Check.no("there now", x.move(person, house));
            }
        }
        Check.no("a tenth person", x.move(9, 1));
        Check.no("an eighth house", x.move(0, 7));
        Check.yes("the last to the last", x.move(8, 6));
        Check.same("true of the last", x.house(6, 1), 1);
        Check.same("air of the last", x.air(6, 0), 1);
        Check.same("true of the first", x.house(0, 1), 8);
    }

    /** Promise 14: "A PERSON is WASHED this YEAR, or no more: true; false: no such one, it is so." */
    private static void washOfEach() {
        NoseCensus x = fullTown();
        for (int person = 0; person < 9; person++) {
            Check.no("unwashed as it is", x.wash(person, false));
            Check.yes("wash(" + person + ", true)", x.wash(person, true));
            Check.no("washed as it is", x.wash(person, true));
            Check.same("person(" + person + ", 3)", x.person(person, 3), 1);
            Check.same("washed", x.count(10), person + 1);
            Check.same("air", x.air(0, 0), 8 - person);
        }
        Check.no("a tenth", x.wash(9, true));
        Check.no("a tenth no more", x.wash(9, false));
        Check.yes("the last one no more", x.wash(8, false));
        Check.same("air of it", x.air(0, 0), 1);
        x.years(1);
        Check.no("unwashed behind this YEAR", x.wash(0, false));
        Check.yes("washed again", x.wash(0, true));
    }

    /** Promise 15: "A COAT of a KIND, FORCE 1 .. 9, is hung in a HOUSE: its number". */
    private static void hangOfEach() {
        int[][] fine = {{0, 0, 1}, {6, 7, 9}, {6, 0, 9}, {0, 7, 1}};
        NoseCensus x = fullTown();
        for (int i = 0; i < fine.length; i++) {
            int[] a = fine[i];
            Check.same("hang " + i, x.hang(a[0], a[1], a[2]), i);
            for (int what = 0; what < 3; what++) {
                Check.same("coat(" + i + ", " + what + ")", x.coat(i, what), a[what]);
            }
        }
        int[][] none = {{-1, 0, 1}, {7, 0, 1}, {0, -1, 1}, {0, 8, 1}, {0, 0, 0}, {0, 0, 10}, {0, 0, -1},
            {0, 0, Integer.MAX_VALUE}, {0, 0, Integer.MIN_VALUE}};
        for (int[] a : none) {
            Check.same("hang of no such ones", x.hang(a[0], a[1], a[2]), NONE);
        }
        Check.same("coats ever", x.count(2), 4);
        Check.same("air of one hung", x.air(6, 7), 9);
    }

    /** "there were 12 ever". */
    private static void hangUpToTwelve() {
        for (int told = 0; told <= 8; told++) {
            NoseCensus x = Check.town("house a;" + "coat a 0 1;".repeat(told));
            x.years(1);
            Check.same("none is left of " + told, x.count(3), 0);
            for (int coat = told; coat < 12; coat++) {
                Check.same("hang of coat " + coat, x.hang(0, 1, 1), coat);
            }
            Check.same("a 13th", x.hang(0, 1, 1), NONE);
            Check.same("coats ever", x.count(2), 12);
            x.years(1);
            Check.same("a 13th when none is left", x.hang(0, 1, 1), NONE);
            Check.same("coats still", x.count(3), 0);
        }
        NoseCensus x = Check.town("house a;" + "coat a 0 9;".repeat(8));
        x.keep();
        for (int coat = 8; coat < 12; coat++) {
            x.hang(0, 1, 1);
        }
        Check.same("undo the last", x.undo(), 3);
        Check.same("hang in its place", x.hang(0, 7, 2), 11);
        Check.same("its kind", x.coat(11, 1), 7);
        x.back();
        Check.same("hang as in the image", x.hang(0, 6, 3), 8);
    }

    /** Promise 16: "DISH 0 .. 99 of a HOUSE from now on: true; false: no such ones, it is so." */
    private static void cookOfEach() {
        NoseCensus x = fullTown();
        for (int house = 0; house < 7; house += 6) {
            Check.no("no dish as it is", x.cook(house, 0));
            Check.yes("cook(" + house + ", 1)", x.cook(house, 1));
            Check.yes("cook(" + house + ", 99)", x.cook(house, 99));
            Check.no("99 as it is", x.cook(house, 99));
            for (int dish : new int[] {-1, 100, Integer.MAX_VALUE, Integer.MIN_VALUE}) {
                Check.no("cook(" + house + ", " + dish + ")", x.cook(house, dish));
            }
            Check.same("house(" + house + ", 0)", x.house(house, 0), 99);
        }
        Check.same("another one's", x.house(1, 0), 0);
        x.years(99);
        Check.same("from now on", x.house(6, 0), 99);
        Check.yes("cook(6, 0)", x.cook(6, 0));
        Check.no("an eighth house", x.cook(7, 1));
    }

    /** Promise 17: "A DOG goes to a HOUSE: true; false: no such ones, there already." */
    private static void sendToEach() {
        NoseCensus x = fullTown();
        for (int dog = 0; dog < 3; dog++) {
            Check.no("there already", x.send(dog, 0));
            Check.yes("send(" + dog + ", 6)", x.send(dog, 6));
            Check.no("there now", x.send(dog, 6));
            Check.same("dog(" + dog + ", 0)", x.dog(dog, 0), 6);
        }
        Check.no("a fourth dog", x.send(3, 1));
        Check.no("an eighth house", x.send(0, 7));
        Check.same("count of the first", x.house(0, 2), NONE);
        Check.same("count of the last", x.house(6, 2), 0);
        Check.yes("back to the first", x.send(2, 0));
        Check.same("count of the first again", x.house(0, 2), 1);
    }

    /** Promise 18: "WIND 0 .. 100 from now on: true; false: no such one, it is so." */
    private static void blowOfEach() {
        NoseCensus x = fullTown();
        Check.no("no wind as it is", x.blow(0));
        Check.yes("blow(1)", x.blow(1));
        Check.yes("blow(100)", x.blow(100));
        Check.no("100 as it is", x.blow(100));
        for (int wind : new int[] {-1, 101, Integer.MAX_VALUE, Integer.MIN_VALUE}) {
            Check.no("blow(" + wind + ")", x.blow(wind));
        }
        Check.same("the wind", x.count(7), 100);
        x.years(99);
        Check.same("from now on", x.count(7), 100);
        Check.yes("blow(0)", x.blow(0));
        Check.same("no wind", x.count(7), 0);
    }

    /** Promise 19: "So many YEARS (0 .. 99) go by: which one it is; NONE, and none does: no such number". */
    private static void yearsOfEach() {
        NoseCensus x = Check.town("house a;coat a 0 9;dog d a 1;law due 1;");
        Check.same("years(0)", x.years(0), 0);
        Check.same("nothing paid", x.count(9), 0);
        Check.same("no coat faded", x.coat(0, 2), 9);
        Check.same("years(1)", x.years(1), 1);
        Check.same("paid once", x.count(9), 1);
        Check.same("faded once", x.coat(0, 2), 8);
        for (int n : new int[] {-1, 100, Integer.MAX_VALUE, Integer.MIN_VALUE}) {
            Check.same("years(" + n + ")", x.years(n), NONE);
            Check.same("the year behind years(" + n + ")", x.count(6), 1);
        }
        Check.same("years(99)", x.years(99), 100);
        Check.same("paid in all of them", x.count(9), 100);
        Check.same("years(98)", x.years(98), 198);
    }

    /** "behind 999". */
    private static void yearsUpTo999() {
        NoseCensus x = Check.town("house a;dog d a 1;law due 1;");
        for (int i = 1; i <= 10; i++) {
            Check.same("years(99)", x.years(99), 99 * i);
        }
        for (int n = 99; n >= 10; n--) {
            Check.same("years(" + n + ") in 990", x.years(n), NONE);
        }
        Check.same("none did", x.count(9), 990);
        Check.same("years(8)", x.years(8), 998);
        Check.same("years(2) in 998", x.years(2), NONE);
        Check.same("years(1) in 998", x.years(1), 999);
        Check.same("years(1) in 999", x.years(1), NONE);
        Check.same("years(0) in 999", x.years(0), 999);
        Check.same("paid in all", x.count(9), 999);
        Check.yes("a change in 999", x.blow(5));
        Check.same("undone in 999", x.undo(), 0);
        Check.same("chance behind 999", x.chance(0, 30, 30), 10);
        Check.same("an image of 999", x.keep(), 999);
    }

    /** "PEOPLE moved, WASHED, COATS, DISHES, DOGS, the WIND by call can be undone, the latest first". */
    private static void undoneTheLatestFirst() {
        NoseCensus x = Probe.busyWithoutTape();
        // What busy() did, from its end on: the wind, a dog, a dish, a coat, washed, moved, washed.
        int[][] seen = {{70, 1, 7, 2, 1, 1, 1}, {50, 1, 7, 2, 1, 1, 1}, {50, 2, 7, 2, 1, 1, 1}, {50, 2, 2, 2, 1, 1, 1},
            {50, 2, 2, 1, 1, 1, 1}, {50, 2, 2, 1, 0, 1, 1}, {50, 2, 2, 1, 0, 0, 1}, {50, 2, 2, 1, 0, 0, 0}};
        for (int i = 0; i < seen.length; i++) {
            String when = "undone " + i + " times: ";
            Check.same(when + "left", x.count(13), 7 - i);
            Check.same(when + "wind", x.count(7), seen[i][0]);
            Check.same(when + "dog", x.dog(1, 0), seen[i][1]);
            Check.same(when + "dish", x.house(0, 0), seen[i][2]);
            Check.same(when + "coats", x.count(2), seen[i][3]);
            Check.same(when + "one washed", x.person(1, 3), seen[i][4]);
            Check.same(when + "one moved", x.person(0, 0), seen[i][5]);
            Check.same(when + "another washed", x.person(2, 3), seen[i][6]);
            Check.same(when + "undo", x.undo(), 6 - i);
        }
        Check.same("the year stays", x.count(6), 2);
        Check.same("the notes stay", x.count(11), 3);
        Check.same("what was paid stays", x.count(9), 18);
    }

    private static void undoOf(String what, IntFunction<Boolean> change, NoseCensus x, int first, Probe.Asked seen) {
        long[] were = new long[40];
        for (int i = 0; i < 23; i++) {
            were[i] = seen.on(x);
            Check.yes(what + " " + i, change.apply(first + i));
            Check.same(what + ": can be undone", x.count(13), Math.min(i + 1, 20));
        }
        for (int i = 22; i >= 3; i--) {
            Check.same(what + ": undo", x.undo(), i - 3);
            Check.same(what + ": as it was", seen.on(x), were[i]);
        }
        Check.same(what + ": undo of the 21st", x.undo(), NONE);
        Check.same(what + ": left as it is", seen.on(x), were[3]);
        Check.same(what + ": nothing to undo", x.count(13), 0);
    }

    /** "(20 at most)". */
    private static void undoneTwentyAtMost() {
        NoseCensus a = Check.town(Check.ROW);
        undoOf("move", i -> a.move(0, (i + 1) % 3), a, 0, (x, n) -> x.person(0, 0));
        NoseCensus b = Check.town(Check.ROW);
        undoOf("wash", i -> b.wash(1, i % 2 == 0), b, 0, (x, n) -> x.person(1, 3));
        NoseCensus c = Check.town(Check.ROW);
        undoOf("cook", i -> c.cook(2, i), c, 1, (x, n) -> x.house(2, 0));
        NoseCensus d = Check.town(Check.ROW);
        undoOf("send", i -> d.send(1, i % 3), d, 0, (x, n) -> x.dog(1, 0));
        NoseCensus e = Check.town(Check.ROW);
        undoOf("blow", e::blow, e, 0, (x, n) -> x.count(7));
        NoseCensus f = Check.town("house a;");
        for (int coat = 0; coat < 12; coat++) {
            f.hang(0, coat % 8, 1 + coat % 9);
        }
        for (int coat = 11; coat >= 0; coat--) {
            Check.same("hang: undo", f.undo(), coat);
            Check.same("hang: coats ever", f.count(2), coat);
            Check.same("hang: no such coat", f.coat(coat, 0), NONE);
        }
        Check.same("hang: undo of none", f.undo(), NONE);
    }

    private static void undoneAndDoneAgain() {
        NoseCensus x = Check.town("house a;");
        for (int wind = 1; wind <= 20; wind++) {
            x.blow(wind);
        }
        for (int left = 19; left >= 15; left--) {
            Check.same("undo", x.undo(), left);
        }
        for (int wind = 31; wind <= 36; wind++) {
            x.blow(wind);
        }
        Check.same("can be undone", x.count(13), 20);
        int[] winds = {35, 34, 33, 32, 31, 15, 14, 13, 12, 11, 10, 9, 8, 7, 6, 5, 4, 3, 2, 1};
        for (int i = 0; i < winds.length; i++) {
            Check.same("undo again", x.undo(), 19 - i);
            Check.same("the wind ahead", x.count(7), winds[i]);
        }
        Check.same("undo of none", x.undo(), NONE);
        Check.same("the first can't be undone", x.count(7), 1);
    }

    /** "if no YEAR went by since". */
    private static void undoneIfNoYearWentBy() {
        NoseCensus x = Check.town(Check.ROW);
        x.blow(1);
        x.years(0);
        Check.same("no year went by", x.count(13), 1);
        x.years(1);
        Check.same("a year went by", x.count(13), 0);
        Check.same("undo", x.undo(), NONE);
        x.blow(2);
        x.wash(0, true);
        Check.same("since then", x.count(13), 2);
        Check.same("undo since then", x.undo(), 1);
        Check.same("undo since then, again", x.undo(), 0);
        Check.same("not what was ahead", x.undo(), NONE);
        Check.same("the wind", x.count(7), 1);
    }

    private static void undoneOfWhatIsNoChange() {
        NoseCensus x = Check.town(Check.ROW);
        x.note(0, 0, 0, true);
        x.out(0);
        x.known(1);
        x.keep();
        x.years(0);
        x.feed(0, 0, 0, 0, 0);
        x.sort(0);
        x.chance(0, 1, 0);
        x.tried(5, 0);
        Check.same("nothing to undo", x.count(13), 0);
        Check.same("undo", x.undo(), NONE);
    }

    private static void undoneBehindTexts() {
        NoseCensus x = Check.town(Check.ROW);
        x.blow(1);
        Check.told(x, "#");
        Check.same("behind a text with a fault", x.count(13), 1);
        x.text(-1);
        Check.same("behind a text of -2", x.count(13), 1);
        Check.told(x, Check.ROW);
        Check.same("behind a text", x.count(13), 0);
    }

    /** Promise 39: "An IMAGE is kept (in place of one ahead): which YEAR it is." */
    private static void keepWhichYear() {
        NoseCensus x = new NoseCensus();
        Check.same("keep in 0", x.keep(), 0);
        Check.same("back to 0", x.back(), 0);
        x.years(99);
        Check.same("back from 99", x.back(), 0);
        x.years(1);
        Check.same("keep in 1", x.keep(), 1);
        for (int i = 0; i < 10; i++) {
            x.years(99);
        }
        x.years(8);
        Check.same("the last year", x.count(6), 999);
        Check.same("back from it", x.back(), 1);
        Check.same("years go by again", x.years(99), 100);
    }

    private static void keepInPlaceOfOneAhead() {
        NoseCensus x = Check.town(Check.ROW);
        x.keep();
        x.years(5);
        x.blow(9);
        x.keep();
        x.keep();
        x.years(1);
        x.blow(8);
        Check.same("back to the later one", x.back(), 5);
        Check.same("its wind", x.count(7), 9);
        Check.same("back once more", x.back(), 5);
    }

    private static void keepLeavesWhatCanBeUndone() {
        NoseCensus x = Check.town(Check.ROW);
        x.blow(9);
        x.cook(0, 9);
        x.keep();
        Check.same("what can be undone", x.count(13), 2);
        Check.same("undo", x.undo(), 1);
        Check.same("undo", x.undo(), 0);
        Check.same("the wind ahead", x.count(7), 50);
        x.back();
        Check.same("the wind of the image", x.count(7), 9);
        Check.same("the dish of the image", x.house(0, 0), 9);
        Check.same("nothing to undo then", x.undo(), NONE);
    }

    /** Promise 40: "All (but NOTES) is as in the IMAGE (nothing to undo then) ...; NONE: there is none." */
    private static void backAsInTheImage() {
        NoseCensus x = Probe.busyWithoutTape();
        Check.same("keep", x.keep(), 2);
        for (int left = 6; left >= 0; left--) {
            x.undo();
        }
        x.move(2, 2);
        x.wash(0, true);
        x.hang(2, 7, 9);
        x.hang(2, 7, 9);
        x.cook(2, 50);
        x.send(0, 2);
        x.blow(1);
        x.years(50);
        Check.same("back", x.back(), 2);
        NoseCensus alike = Probe.busyWithoutTape();
        alike.keep();
        alike.back();
        Probe.sameTowns("back", x, alike);
        NoseCensus told = Check.town(Check.ROW);
        Check.same("back without", told.back(), NONE);
        told.keep();
        Check.told(told, "#");
        Check.same("back behind a text with a fault", told.back(), 0);
        told.text(-1);
        Check.same("back behind a text of -2", told.back(), 0);
        told.text(0);
        Check.same("back behind a text", told.back(), NONE);
    }

    private static void backManyTimes() {
        NoseCensus x = Check.town(Check.ROW);
        x.wash(0, true);
        x.keep();
        for (int i = 0; i < 3; i++) {
            x.hang(2, 7, 9);
            x.move(1, 2);
            x.wash(0, false);
            x.years(3);
            Check.same("paid in between", x.count(9) > 0 ? 1 : 0, 1);
            Check.same("back", x.back(), 0);
            Check.same("coats ever", x.count(2), 1);
            Check.same("the coat", x.coat(0, 2), 6);
            Check.same("one moved", x.person(1, 0), 0);
            Check.same("one washed", x.person(0, 3), 1);
            Check.same("paid", x.count(9), 0);
            Check.same("can be undone", x.count(13), 0);
        }
    }

    /** "An IMAGE keeps all but NOTES." */
    private static void backWithoutNotes() {
        NoseCensus x = Check.town(Check.ROW);
        x.note(0, 0, 2, true);
        x.keep();
        x.note(0, 0, 2, false);
        x.out(1);
        x.known(2);
        x.back();
        Check.same("notes stay", x.count(11), 3);
        Check.same("known as it was", x.count(12), 2);
        Check.same("sort by them", x.sort(0), 0);
        x.known(-1);
        Check.same("sort by all", x.sort(0), 253);
        Check.same("the next note", x.note(0, 0, 0, true), 3);
    }
}
