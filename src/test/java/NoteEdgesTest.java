/** The sentences on NOTES of ==== 3 and of promises 32 to 35 that name an edge, each with a test of its own. */
public final class NoteEdgesTest {
    private static final int NONE = NoseCensus.NONE;

    public static void main(String[] args) {
        noteOfEach();
        notesUpTo24();
        strikersUpTo24();
        behindSoManyYears();
        atLeastOrLess();
        noneIsAsZero();
        asItGoesFromTheText();
        strikeOneAhead();
        strikersOfTheFirstNAlone();
        whatStrikesMayBeStruck();
        longChains();
        knownByN();
        knownByAll();
        sortOfEach();
        sortWithoutNotes();
        sortByKinds();
        Check.end();
    }

    private static NoseCensus town(String text) {
        return Check.town(text);
    }

    /** Promise 32: "A NOTE: its number; NONE: no such ones (COUNT 0 .. 8), or there are 24." */
    private static void noteOfEach() {
        NoseCensus x = town(Check.ROW);
        int[][] fine = {{0, 0, 0}, {8, 2, 8}, {0, 2, 8}, {8, 0, 0}};
        for (int i = 0; i < fine.length; i++) {
            int[] a = fine[i];
            Check.same("note " + i, x.note(a[0], a[1], a[2], i % 2 == 0), i);
            Check.same("notes", x.count(11), i + 1);
        }
        int[][] none = {{-1, 0, 0}, {9, 0, 0}, {0, -1, 0}, {0, 3, 0}, {0, 0, -1}, {0, 0, 9}, {Integer.MAX_VALUE, 0, 0},
            {Integer.MIN_VALUE, 0, 0}, {0, Integer.MAX_VALUE, 0}, {0, 0, Integer.MAX_VALUE}, {0, 0, Integer.MIN_VALUE}};
        for (int[] a : none) {
            Check.same("no such note", x.note(a[0], a[1], a[2], true), NONE);
            Check.same("no such note of less", x.note(a[0], a[1], a[2], false), NONE);
        }
        Check.same("notes as they were", x.count(11), 4);
    }

    /** "NOTES, at most 24, numbered from 0 on". */
    private static void notesUpTo24() {
        NoseCensus x = town(Check.ROW);
        for (int i = 0; i < 24; i++) {
            Check.same("note " + i, x.note(8, 2, 8, false), i);
        }
        Check.same("a 25th", x.note(0, 0, 0, true), NONE);
        Check.same("a 25th that strikes", x.out(0), NONE);
        Check.same("notes", x.count(11), 24);
        Check.same("known by all", x.count(12), 24);
        Check.yes("known(24)", x.known(24));
        Check.no("known(25)", x.known(25));
        Check.same("all are so", x.sort(0), 255);
        x.back();
        x.years(1);
        x.undo();
        Check.same("still full", x.note(0, 0, 0, true), NONE);
        Check.told(x, Check.ROW);
        Check.same("the first of a new text", x.note(0, 0, 0, true), 0);
    }

    /** Promise 33: "A note that strikes a NOTE: its number; NONE: no such NOTE, or there are 24." */
    private static void strikersUpTo24() {
        NoseCensus x = town(Check.ROW);
        for (int note : new int[] {Integer.MIN_VALUE, -1, 0, 1, Integer.MAX_VALUE}) {
            Check.same("out(" + note + ") of none", x.out(note), NONE);
        }
        x.note(0, 0, 2, true);
        for (int i = 1; i < 24; i++) {
            Check.same("out of what comes", x.out(i), NONE);
            Check.same("out " + i, x.out(i - 1), i);
        }
        for (int note : new int[] {0, 22, 23, 24}) {
            Check.same("out(" + note + ") of 24", x.out(note), NONE);
        }
        Check.same("a note of 24", x.note(0, 0, 0, true), NONE);
        // The 23 that strike one another: the last one counts, so every second one does, the one of the note too.
        Check.same("struck in the end", x.sort(0), 255);
    }

    /** "behind so many YEARS 0 .. 8". */
    private static void behindSoManyYears() {
        // The coat fades to 1 in the eighth year; then p is smelled with it if p is of its kind.
        NoseCensus x = town("house a;person p a 0 1;coat a 3 9;dog d a 2;");
        x.note(7, 0, 1, true);
        Check.same("the seventh year", x.sort(0), 255);
        x.note(8, 0, 1, true);
        Check.same("the eighth year", x.sort(0), 8);
        x = town("house a;person p a 0 1;dog d a 1;law nose year=kind+1;");
        for (int years = 0; years <= 8; years++) {
            Check.same("note " + years, x.note(years, 0, 1, true), 2 * years);
            Check.same("counted behind " + years + " years", x.sort(0), years == 0 ? 0 : 1 << years - 1);
            x.out(2 * years);
        }
        x = town("house a;person p a 0 1;dog d a 1;law nose year=kind;");
        x.note(0, 0, 1, true);
        Check.same("behind no years", x.sort(0), 1);
    }

    /** "was at least so much, or less". */
    private static void atLeastOrLess() {
        // p of the kind of q or of r makes a count of 2, of another one of 3.
        String text = "house a;person p a 0 5;person q a 1 5;person r a 2 5;dog d a 1;";
        int same = 255 - 6;
        int[] atLeast = {255, 255, 255, same, 0, 0, 0, 0, 0};
        for (int count = 0; count <= 8; count++) {
            NoseCensus x = town(text);
            x.note(0, 0, count, true);
            Check.same("at least " + count, x.sort(0), atLeast[count]);
            x = town(text);
            x.note(0, 0, count, false);
            Check.same("less than " + count, x.sort(0), 255 - atLeast[count]);
        }
        StringBuilder eight = new StringBuilder("house a;dog d a 1;");
        for (int kind = 0; kind < 8; kind++) {
            eight.append("person ").append((char) ('a' + kind)).append(" a ").append(kind).append(" 1;");
        }
        NoseCensus x = town(eight.toString());
        x.note(0, 0, 8, true);
        Check.same("all eight", x.sort(7), 128);
        x = town(eight.toString());
        x.note(0, 0, 8, false);
        Check.same("less than eight", x.sort(7), 127);
    }

    /** "(NONE is as 0)". */
    private static void noneIsAsZero() {
        int[] atLeast = {255, 0, 0};
        for (int count = 0; count <= 2; count++) {
            for (String text : new String[] {"house a;person p a 0 5;", "house a;person p a 0 5;dish a 9;dog d a 1;"}) {
                NoseCensus x = town(text);
                x.note(0, 0, count, true);
                Check.same("at least " + count + " of " + text, x.sort(0), atLeast[count]);
                x = town(text);
                x.note(0, 0, count, false);
                Check.same("less than " + count + " of " + text, x.sort(0), 255 - atLeast[count]);
            }
        }
    }

    /** "(as it goes from the TEXT on)". */
    private static void asItGoesFromTheText() {
        NoseCensus x = town(Check.ROW);
        x.note(3, 2, 1, true);
        int due = 4;
        Check.same("as told", x.sort(0), due);
        Check.yes("moved", x.move(0, 2) && x.move(2, 2));
        Check.same("whoever moved", x.sort(0), due);
        Check.yes("washed", x.wash(0, true) && x.wash(1, true));
        Check.same("whoever is washed", x.sort(0), due);
        Check.same("hung", x.hang(2, 6, 9), 1);
        Check.same("whatever hangs", x.sort(0), due);
        Check.yes("cooked", x.cook(2, 99) && x.cook(0, 0));
        Check.same("whatever is cooked", x.sort(0), due);
        Check.yes("sent", x.send(1, 0) && x.send(0, 2));
        Check.same("wherever dogs are", x.sort(0), due);
        Check.yes("blown", x.blow(100));
        Check.same("whatever wind", x.sort(0), due);
        x.years(99);
        Check.same("whatever year", x.sort(0), due);
        x.keep();
        x.back();
        Check.same("whatever image", x.sort(0), due);
        Check.same("the kind of now", x.person(0, 1), 0);
    }

    private static final int IS = 253;

    /** Notes 0 (two kinds in the inn: not that of bo) and 1 (less than one: never so). */
    private static NoseCensus twoNotes() {
        NoseCensus x = town(Check.ROW);
        x.note(0, 0, 2, true);
        x.note(0, 0, 1, false);
        return x;
    }

    /** "A note may strike one ahead of it (STRUCK)." */
    private static void strikeOneAhead() {
        NoseCensus x = twoNotes();
        Check.same("none struck", x.sort(0), 0);
        x.out(1);
        Check.same("the second is struck", x.sort(0), IS);
        x.out(1);
        Check.same("struck twice", x.sort(0), IS);
        x.out(0);
        Check.same("both are struck", x.sort(0), 255);
        x = twoNotes();
        x.out(0);
        Check.same("only the first is struck", x.sort(0), 0);
    }

    /** "KNOWN by n: the first n that aren't STRUCK by one of these". */
    private static void strikersOfTheFirstNAlone() {
        NoseCensus x = twoNotes();
        x.out(1);
        x.out(0);
        int[] due = {255, IS, 0, IS, 255};
        for (int n = 0; n <= 4; n++) {
            Check.yes("known(" + n + ")", x.known(n));
            Check.same("sort by " + n, x.sort(0), due[n]);
        }
    }

    /** "(what strikes may be STRUCK: then it doesn't count; asked from the last one on)". */
    private static void whatStrikesMayBeStruck() {
        NoseCensus x = twoNotes();
        x.out(1);
        x.out(2);
        Check.same("the striker is struck", x.sort(0), 0);
        x.out(1);
        Check.same("another strikes", x.sort(0), IS);
        x.out(4);
        Check.same("that is struck too", x.sort(0), 0);
        x.out(3);
        Check.same("the first striker strikes again", x.sort(0), IS);
        x.out(6);
        Check.same("and not", x.sort(0), 0);
        x.out(7);
        Check.same("and again", x.sort(0), IS);
    }

    private static void longChains() {
        NoseCensus x = twoNotes();
        for (int i = 2; i < 24; i++) {
            Check.same("out " + i, x.out(i - 1), i);
            Check.same("a chain of " + i, x.sort(0), i % 2 == 0 ? IS : 0);
        }
        for (int n = 2; n <= 24; n++) {
            x.known(n);
            Check.same("a chain known by " + n, x.sort(0), n % 2 == 0 ? 0 : IS);
        }
    }

    /** Promise 34: "KNOWN by n from now on ...: true; false: no such n." */
    private static void knownByN() {
        NoseCensus x = twoNotes();
        for (int n : new int[] {Integer.MIN_VALUE, -2, 3, 24, Integer.MAX_VALUE}) {
            Check.no("known(" + n + ")", x.known(n));
            Check.same("known as it was", x.count(12), 2);
        }
        Check.yes("known(1)", x.known(1));
        Check.no("known(3) of two", x.known(3));
        Check.same("known by one still", x.count(12), 1);
        Check.same("sort by one", x.sort(0), IS);
        x.note(0, 0, 2, false);
        Check.same("from now on", x.sort(0), IS);
        Check.yes("known(3) of three", x.known(3));
        Check.same("sort by three", x.sort(0), 0);
        x.years(1);
        x.keep();
        x.back();
        Check.same("by three still", x.count(12), 3);
        Check.yes("known(0)", x.known(0));
        Check.same("sort by none", x.sort(0), 255);
        NoseCensus none = town(Check.ROW);
        Check.yes("known(0) of none", none.known(0));
        Check.no("known(1) of none", none.known(1));
        none.note(0, 0, 1, false);
        Check.same("one to come isn't known", none.sort(0), 255);
    }

    /** "(-1: by all, also those to come)"; "(all at first)". */
    private static void knownByAll() {
        NoseCensus x = town(Check.ROW);
        x.note(0, 0, 2, true);
        Check.same("all at first", x.sort(0), IS);
        x.known(0);
        Check.same("by none", x.sort(0), 255);
        Check.yes("known(-1)", x.known(-1));
        Check.same("by all", x.sort(0), IS);
        x.note(0, 0, 1, false);
        Check.same("also those to come", x.sort(0), 0);
        x.out(1);
        Check.same("also what strikes", x.sort(0), IS);
        Check.yes("known by all of now", x.known(3));
        x.out(0);
        Check.same("not those to come", x.sort(0), IS);
    }

    /** Promise 35: "SORT (bits); NONE: no such PERSON." */
    private static void sortOfEach() {
        NoseCensus x = twoNotes();
        x.out(1);
        int[] due = {IS, 254, 255};
        for (int person = 0; person < 3; person++) {
            Check.same("sort(" + person + ")", x.sort(person), due[person]);
        }
        for (int person : new int[] {Integer.MIN_VALUE, -1, 3, 9, Integer.MAX_VALUE}) {
            Check.same("sort(" + person + ")", x.sort(person), NONE);
        }
    }

    private static void sortWithoutNotes() {
        NoseCensus x = town(Check.ROW);
        for (int person = 0; person < 3; person++) {
            Check.same("sort(" + person + ") without notes", x.sort(person), 255);
        }
        x.note(0, 0, 8, true);
        x.out(0);
        Check.same("without one that counts", x.sort(0), 255);
    }

    /** "KINDS (bits) that may be in place of its own, by which all KNOWN ones are so". */
    private static void sortByKinds() {
        for (int kind = 0; kind < 8; kind++) {
            NoseCensus x = town("house a;person p a " + (kind + 3) % 8 + " 4;coat a " + kind + " 2;dog d a 5;");
            x.note(0, 0, 1, true);
            Check.same("kind " + kind + " alone", x.sort(0), 1 << kind);
            x.note(1, 0, 1, true);
            Check.same("kind " + kind + " in the first year too", x.sort(0), 1 << kind);
            x.note(2, 0, 1, true);
            Check.same("kind " + kind + " in the second not", x.sort(0), 0);
            x.known(2);
            Check.same("kind " + kind + " by two", x.sort(0), 1 << kind);
        }
        NoseCensus x = town("house a;person p a 0 4;dog d a 1;law smell kind*kind;law nose air>=9 and air<36;");
        x.note(0, 0, 1, true);
        Check.same("by laws", x.sort(0), 8 + 16 + 32);
    }
}
