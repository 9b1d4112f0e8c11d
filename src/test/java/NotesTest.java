/** Promises 32 to 35: notes, what strikes them, by how many it is known, and what kind one was. */
public final class NotesTest {
    public static void main(String[] args) {
        note();
        out();
        full();
        known();
        sort();
        sortAsItGoes();
        struck();
        sortByLaw();
        Check.end();
    }

    private static void note() {
        NoseCensus x = Check.town(Check.ROW);
        Check.same("note(0, 0, 0, true)", x.note(0, 0, 0, true), 0);
        Check.same("note(8, 2, 8, false)", x.note(8, 2, 8, false), 1);
        Check.same("note(9, 0, 0, true)", x.note(9, 0, 0, true), -1);
        Check.same("note(-1, 0, 0, true)", x.note(-1, 0, 0, true), -1);
        Check.same("note(0, 3, 0, true)", x.note(0, 3, 0, true), -1);
        Check.same("note(0, -1, 0, true)", x.note(0, -1, 0, true), -1);
        Check.same("note(0, 0, 9, true)", x.note(0, 0, 9, true), -1);
        Check.same("note(0, 0, -1, true)", x.note(0, 0, -1, true), -1);
        Check.same("notes", x.count(11), 2);
        Check.same("a note can't be undone", x.undo(), -1);
    }

    private static void out() {
        NoseCensus x = Check.town(Check.ROW);
        Check.same("out(0) of none", x.out(0), -1);
        x.note(0, 0, 0, true);
        Check.same("out(1)", x.out(1), -1);
        Check.same("out(-1)", x.out(-1), -1);
        Check.same("out(0)", x.out(0), 1);
        Check.same("out(0) again", x.out(0), 2);
        Check.same("out(2)", x.out(2), 3);
        Check.same("notes", x.count(11), 4);
    }

    private static void full() {
        NoseCensus x = Check.town(Check.ROW);
        for (int i = 0; i < 24; i++) {
            int got = i % 2 == 0 ? x.note(0, 0, 0, true) : x.out(i - 1);
            Check.same("note " + i, got, i);
        }
        Check.same("a 25th", x.note(0, 0, 0, true), -1);
        Check.same("a 25th that strikes", x.out(0), -1);
        Check.same("notes", x.count(11), 24);
        Check.yes("known(24)", x.known(24));
        Check.no("known(25)", x.known(25));
        Check.same("sort by 24 notes", x.sort(0), 255);
    }

    private static void known() {
        NoseCensus x = Check.town(Check.ROW);
        Check.yes("known(0) of none", x.known(0));
        Check.no("known(1) of none", x.known(1));
        Check.yes("known(-1)", x.known(-1));
        Check.no("known(-2)", x.known(-2));
        x.note(0, 0, 0, true);
        Check.same("by all", x.count(12), 1);
        Check.yes("known(1)", x.known(1));
        x.note(0, 0, 0, true);
        Check.same("by one still", x.count(12), 1);
        Check.no("known(3)", x.known(3));
        Check.same("by one still", x.count(12), 1);
        Check.yes("known(-1) again", x.known(-1));
        Check.same("by all again", x.count(12), 2);
    }

    private static void sort() {
        NoseCensus x = Check.town(Check.ROW);
        Check.same("without notes", x.sort(0), 255);
        Check.same("sort(3)", x.sort(3), -1);
        Check.same("sort(-1)", x.sort(-1), -1);
        x.note(0, 0, 2, true);
        Check.same("two kinds in the inn: not that of bo", x.sort(0), 253);
        Check.same("of bo: not that of al", x.sort(1), 254);
        Check.same("of cy: any", x.sort(2), 255);
        x.note(0, 0, 2, false);
        Check.same("both can't be", x.sort(0), 0);
        x.known(1);
        Check.same("known by one", x.sort(0), 253);
        x.known(0);
        Check.same("known by none", x.sort(0), 255);
        x = Check.town(Check.ROW);
        x.note(0, 1, 0, true);
        Check.same("none is as 0: at least 0", x.sort(0), 255);
        x.note(0, 1, 1, false);
        Check.same("none is as 0: less than 1", x.sort(0), 255);
        x.note(0, 1, 1, true);
        Check.same("none is as 0: at least 1", x.sort(0), 0);
    }

    private static void sortAsItGoes() {
        NoseCensus x = Check.town(Check.ROW);
        x.note(3, 2, 1, true);
        Check.same("the coat's kind behind three years", x.sort(0), 4);
        x.move(0, 2);
        x.send(1, 0);
        x.blow(0);
        x.wash(0, true);
        x.cook(2, 99);
        x.hang(2, 5, 9);
        x.years(2);
        Check.same("from the text on, whatever was done", x.sort(0), 4);
        x.note(8, 2, 1, true);
        Check.same("in the eighth year none of that kind", x.sort(0), 0);
        x.known(0);
        x.note(2, 2, 1, true);
        x.known(1);
        Check.same("by the first one alone", x.sort(0), 4);
    }

    private static void struck() {
        NoseCensus x = Check.town(Check.ROW);
        x.note(0, 0, 2, true);
        x.note(0, 0, 1, false);
        Check.same("not so by any", x.sort(0), 0);
        x.out(1);
        Check.same("struck", x.sort(0), 253);
        x.out(2);
        Check.same("what strikes is struck", x.sort(0), 0);
        x.out(3);
        Check.same("that is struck too", x.sort(0), 253);
        x.out(0);
        Check.same("all struck", x.sort(0), 255);
        x.known(5);
        Check.same("known by five", x.sort(0), 253);
        x.known(4);
        Check.same("known by four", x.sort(0), 0);
        x.known(3);
        Check.same("known by three", x.sort(0), 253);
        x.known(2);
        Check.same("known by two", x.sort(0), 0);
        x.known(-1);
        x.out(2);
        x.out(5);
        Check.same("what strikes twice", x.count(12), 8);
        Check.same("the second is struck no more", x.sort(0), 0);
    }

    private static void sortByLaw() {
        NoseCensus x = Check.town("house a;person p a 0 1;dog d a 5;law smell kind*2;");
        x.note(0, 0, 1, true);
        Check.same("the smell by the kind in its place", x.sort(0), 248);
        Check.same("its own kind stays", x.person(0, 1), 0);
        x = Check.town("house a;person p a 0 9;dog d a 1;law nose year=kind;");
        x.note(5, 0, 1, true);
        Check.same("by the year", x.sort(0), 32);
        x.note(4, 0, 1, false);
        x.note(6, 0, 0, true);
        Check.same("by more", x.sort(0), 32);
    }
}
