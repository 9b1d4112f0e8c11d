import java.util.NoSuchElementException;
import java.util.function.Supplier;
import java.util.function.ToLongFunction;

/**
 * Holds a town on which a call was made against the like town on which it was not: all that can be seen of them must
 * be alike, what can be undone, the image, the notes and the tape among it.
 */
final class Probe {
    static final long NO_INDEX = -1001;
    static final long NO_ELEMENT = -1002;
    private static final int BLANKS = 0x20202020;

    /** A call by its numbers. */
    interface Asked {
        long on(NoseCensus x, int... a);
    }

    private Probe() {
    }

    /**
     * The town of Check.ROW two years later, with an image, seven changes to undo, three notes and a tape. al is in
     * the mill, bo and cy are washed, rex counts 0 in the inn and pip 2 in the mill.
     */
    static NoseCensus busy() {
        NoseCensus x = busyWithoutTape();
        Check.fed(x, "house z;wind 9;");
        return x;
    }

    static NoseCensus busyWithoutTape() {
        NoseCensus x = Check.town(Check.ROW);
        x.years(2);
        x.wash(2, true);
        x.keep();
        x.move(0, 1);
        x.wash(1, true);
        x.hang(1, 5, 6);
        x.cook(0, 7);
        x.send(1, 1);
        x.blow(70);
        x.note(0, 0, 2, true);
        x.note(0, 2, 1, false);
        x.out(1);
        x.known(2);
        return x;
    }

    /** The call answers what is due, and leaves all of a busy town as it was. */
    static void leavesAll(String call, long due, ToLongFunction<NoseCensus> made) {
        leavesAll(call, due, Probe::busy, made);
    }

    static void leavesAll(String call, long due, Supplier<NoseCensus> town, ToLongFunction<NoseCensus> made) {
        NoseCensus x = town.get();
        Check.same(call, made.applyAsLong(x), due);
        NoseCensus alike = town.get();
        Check.same(call + " leaves fault(0)", x.fault(0), alike.fault(0));
        Check.same(call + " leaves fault(1)", x.fault(1), alike.fault(1));
        sameTowns(call, x, alike);
    }

    static void sameTowns(String call, NoseCensus x, NoseCensus alike) {
        String got = seen(x);
        String due = seen(alike);
        Check.yes(call + " leaves all:\n  " + got + "\n  due is\n  " + due, got.equals(due));
    }

    /** Each number of a call in turn just beyond its bounds (the least, then the most one of each), and far beyond. */
    static void refused(String name, long due, Asked call, int[] fine, int... bounds) {
        for (int i = 0; i < fine.length && 2 * i + 1 < bounds.length; i++) {
            int least = bounds[2 * i];
            int most = bounds[2 * i + 1];
            if (least > Integer.MIN_VALUE) {
                refusedBy(name, due, call, fine, i, least - 1);
                refusedBy(name, due, call, fine, i, Integer.MIN_VALUE);
            }
            if (most < Integer.MAX_VALUE) {
                refusedBy(name, due, call, fine, i, most + 1);
                refusedBy(name, due, call, fine, i, Integer.MAX_VALUE);
            }
        }
    }

    private static void refusedBy(String name, long due, Asked call, int[] fine, int at, int number) {
        int[] numbers = fine.clone();
        numbers[at] = number;
        leavesAll(name + java.util.Arrays.toString(numbers), due, x -> call.on(x, numbers));
    }

    static long person(NoseCensus x, int person, int what) {
        try {
            return x.person(person, what);
        } catch (IndexOutOfBoundsException e) {
            return e.getClass() == IndexOutOfBoundsException.class ? NO_INDEX : -1003;
        } catch (NoSuchElementException e) {
            return e.getClass() == NoSuchElementException.class ? NO_ELEMENT : -1003;
        }
    }

    /** What is seen of a town. It is used up by this: all is undone, it is as in its image, its tape is its text. */
    private static String seen(NoseCensus x) {
        StringBuilder told = new StringBuilder();
        tellNow(x, told);
        for (int person = 0; person < x.count(1); person++) {
            tell(told, x.sort(person));
        }
        tell(told, x.known(x.count(11)) ? 1 : 0, x.sort(0));
        int left = x.undo();
        for (int i = 0; i < 21 && left >= 0; i++) {
            tell(told, left);
            tellChanged(x, told);
            left = x.undo();
        }
        told.append(" image");
        tell(told, x.back());
        tellNow(x, told);
        told.append(" tape");
        int held = x.feed(BLANKS, BLANKS, BLANKS, BLANKS, BLANKS);
        tell(told, held, x.text(held < 0 ? 700 : held), x.fault(0), x.fault(1), x.count(0), x.count(7));
        return told.toString();
    }

    private static void tell(StringBuilder told, long... answers) {
        for (long answer : answers) {
            told.append(' ').append(answer);
        }
    }

    private static void tellNow(NoseCensus x, StringBuilder told) {
        told.append(" now");
        for (int what = 0; what <= 13; what++) {
            tell(told, x.count(what));
        }
        for (int person = 0; person < x.count(1); person++) {
            tell(told, x.person(person, 0), x.person(person, 1), x.person(person, 2), x.person(person, 3),
                    x.law(0, person, 0));
        }
        for (int house = 0; house < x.count(0); house++) {
            tell(told, x.house(house, 0), x.house(house, 3), x.house(house, 4), x.law(2, house, 0), x.air(house, 0),
                    x.air(house, 1), x.air(house, 2), x.air(house, 5));
        }
        for (int coat = 0; coat < x.count(2); coat++) {
            tell(told, x.coat(coat, 0), x.coat(coat, 1), x.coat(coat, 2));
        }
        for (int dog = 0; dog < x.count(4); dog++) {
            tell(told, x.dog(dog, 0), x.dog(dog, 1), x.law(1, dog, 0));
        }
    }

    /** What calls can change. */
    private static void tellChanged(NoseCensus x, StringBuilder told) {
        tell(told, x.count(2), x.count(7), x.count(10));
        for (int person = 0; person < x.count(1); person++) {
            tell(told, x.person(person, 0));
        }
        for (int house = 0; house < x.count(0); house++) {
            tell(told, x.house(house, 0));
        }
        for (int dog = 0; dog < x.count(4); dog++) {
            tell(told, x.dog(dog, 0));
        }
    }
}
