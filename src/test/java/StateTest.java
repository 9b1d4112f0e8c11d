import java.util.NoSuchElementException;

/** Promises 6 to 11 and 41: what is so now. */
public final class StateTest {
    public static void main(String[] args) {
        person();
        personThrows();
        house();
        coat();
        dog();
        air();
        smells();
        mostOfDogs();
        count();
        Check.end();
    }

    private static void person() {
        NoseCensus x = Check.town(Check.ROW);
        int[][] due = {{0, 0, 5, 0, 5}, {0, 1, 3, 0, 3}, {1, 0, 4, 0, 4}};
        for (int person = 0; person < 3; person++) {
            for (int what = 0; what < 5; what++) {
                Check.same("person(" + person + ", " + what + ")", x.person(person, what), due[person][what]);
            }
        }
        x.wash(2, true);
        x.move(2, 2);
        Check.same("house of one moved", x.person(2, 0), 2);
        Check.same("one washed", x.person(2, 3), 1);
        Check.same("smell as if unwashed", x.person(2, 4), 4);
    }

    private static int thrown(NoseCensus x, int person, int what) {
        try {
            x.person(person, what);
            return 0;
        } catch (IndexOutOfBoundsException e) {
            return e.getClass() == IndexOutOfBoundsException.class ? 1 : 3;
        } catch (NoSuchElementException e) {
            return e.getClass() == NoSuchElementException.class ? 2 : 3;
        }
    }

    private static void personThrows() {
        NoseCensus x = Check.town(Check.ROW);
        Check.same("thrown by person(3, 0)", thrown(x, 3, 0), 1);
        Check.same("thrown by person(-1, 0)", thrown(x, -1, 0), 1);
        Check.same("thrown by person(9, 0)", thrown(x, 9, 0), 1);
        Check.same("thrown by person(3, 5)", thrown(x, 3, 5), 1);
        Check.same("thrown by person(0, 5)", thrown(x, 0, 5), 2);
        Check.same("thrown by person(0, -1)", thrown(x, 0, -1), 2);
        Check.same("thrown by person(2, 4)", thrown(x, 2, 4), 0);
        Check.same("thrown by person of none", thrown(new NoseCensus(), 0, 0), 1);
    }

    private static void house() {
        NoseCensus x = Check.town(Check.ROW);
        x.years(1);
        int[][] due = {{2, 2, 2, 6, 6}, {0, 1, -1, -1, 0}, {0, 0, 1, 3, 3}};
        for (int house = 0; house < 3; house++) {
            for (int what = 0; what < 5; what++) {
                Check.same("house(" + house + ", " + what + ")", x.house(house, what), due[house][what]);
            }
            Check.same("house(" + house + ", 5)", x.house(house, 5), -2);
            Check.same("house(" + house + ", -1)", x.house(house, -1), -2);
        }
        Check.same("house(3, 0)", x.house(3, 0), -2);
        Check.same("house(-1, 0)", x.house(-1, 0), -2);
        x.wash(0, true);
        Check.same("one washed is still there", x.house(0, 1), 2);
        Check.same("one washed isn't counted", x.house(0, 2), 1);
    }

    private static void coat() {
        NoseCensus x = Check.town("house a;house b;coat b 7 1;coat a 0 9;");
        int[][] due = {{1, 7, 1}, {0, 0, 9}};
        for (int coat = 0; coat < 2; coat++) {
            for (int what = 0; what < 3; what++) {
                Check.same("coat(" + coat + ", " + what + ")", x.coat(coat, what), due[coat][what]);
            }
            Check.same("coat(" + coat + ", 3)", x.coat(coat, 3), -1);
            Check.same("coat(" + coat + ", -1)", x.coat(coat, -1), -1);
        }
        Check.same("coat(2, 0)", x.coat(2, 0), -1);
        Check.same("coat(-1, 0)", x.coat(-1, 0), -1);
        x.hang(0, 3, 4);
        Check.same("kind of one hung", x.coat(2, 1), 3);
        x.years(2);
        Check.same("one that is none any more", x.coat(0, 2), 0);
        Check.same("its house", x.coat(0, 0), 1);
        Check.same("one that fades", x.coat(1, 2), 7);
        Check.same("coats ever", x.count(2), 3);
        Check.same("coats still", x.count(3), 2);
    }

    private static void dog() {
        NoseCensus x = Check.town(Check.ROW);
        Check.same("dog(0, 0)", x.dog(0, 0), 0);
        Check.same("dog(0, 1)", x.dog(0, 1), 3);
        Check.same("dog(1, 0)", x.dog(1, 0), 2);
        Check.same("dog(1, 1)", x.dog(1, 1), 4);
        Check.same("dog(0, 2)", x.dog(0, 2), -1);
        Check.same("dog(0, -1)", x.dog(0, -1), -1);
        Check.same("dog(2, 0)", x.dog(2, 0), -1);
        Check.same("dog(-1, 0)", x.dog(-1, 0), -1);
    }

    private static void air() {
        NoseCensus x = Check.town("house a;house b;house c;person p a 0 9;person q a 0 2;person r c 0 1;"
                + "coat a 0 3;coat b 7 5;coat b 0 1;wind 33;");
        int[] due = {14, 5, 2};
        for (int house = 0; house < 3; house++) {
            Check.same("air(" + house + ", 0)", x.air(house, 0), due[house]);
        }
        Check.same("air(0, 7)", x.air(0, 7), 0);
        Check.same("air(1, 7)", x.air(1, 7), 5);
        Check.same("air(2, 7)", x.air(2, 7), 1);
        x.blow(100);
        Check.same("all of it by the wind", x.air(2, 0), 16);
        x.wash(0, true);
        Check.same("without one washed", x.air(2, 0), 7);
        Check.same("air(3, 0)", x.air(3, 0), -1);
        Check.same("air(-1, 0)", x.air(-1, 0), -1);
        Check.same("air(0, 8)", x.air(0, 8), -1);
        Check.same("air(0, -1)", x.air(0, -1), -1);
    }

    private static void smells() {
        NoseCensus x = Check.town("house a;house b;person p a 0 4;person q a 1 3;person r a 7 5;person s b 2 9;"
                + "dog d a 4;dog e b 1;");
        Check.same("air of the nose at least", x.smells(0, 0), 129);
        Check.same("a dog that isn't there", x.smells(1, 0), 131);
        Check.same("another house", x.smells(0, 1), 4);
        x.cook(0, 4);
        Check.same("a dish covers what isn't above it", x.smells(0, 0), 128);
        Check.same("smells(2, 0)", x.smells(2, 0), -1);
        Check.same("smells(-1, 0)", x.smells(-1, 0), -1);
        Check.same("smells(0, 2)", x.smells(0, 2), -1);
        Check.same("smells(0, -1)", x.smells(0, -1), -1);
    }

    private static void mostOfDogs() {
        NoseCensus x = Check.town("house a;person p a 0 4;person q a 1 3;dog d a 4;dog e a 3;dog f a 9;");
        Check.same("the most any dog counts", x.house(0, 2), 2);
        Check.same("two a head are due", x.house(0, 3), 4);
        x.cook(0, 99);
        Check.same("a count of 0", x.house(0, 2), 0);
        Check.same("nothing due of it", x.house(0, 3), 0);
    }

    private static void count() {
        NoseCensus x = Check.town(Check.ROW + "law due heads*3;");
        x.years(2);
        x.wash(0, true);
        x.wash(2, true);
        x.hang(0, 1, 1);
        x.note(0, 0, 0, true);
        x.note(0, 0, 0, true);
        x.out(0);
        x.known(2);
        int[] due = {3, 3, 2, 2, 2, 3, 2, 50, 2, 18, 2, 3, 2, 3};
        for (int what = 0; what < due.length; what++) {
            Check.same("count(" + what + ")", x.count(what), due[what]);
        }
        x.known(-1);
        Check.same("known by all", x.count(12), 3);
        Check.same("count(14)", x.count(14), -1);
        Check.same("count(-1)", x.count(-1), -1);
    }
}
