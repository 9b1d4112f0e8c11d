/**
 * Each refused call, promise by promise: just beyond each bound and far beyond it, what it answers, and that it leaves
 * all as it was. Then each question with an answer: it leaves all as it was too.
 */
public final class RefusedTest {
    private static final int NONE = NoseCensus.NONE;
    private static final int MOST = Integer.MAX_VALUE;
    private static final int LEAST = Integer.MIN_VALUE;

    public static void main(String[] args) {
        tapeAndText();
        textWithFault();
        whatIsSoNow();
        law();
        changes();
        changesThatAreSo();
        full();
        lastYear();
        questions();
        questionsOfTwoHouses();
        notes();
        nothingToUndoAndNoImage();
        townWithoutAny();
        answersLeaveAll();
        answersByManyTriesLeaveAll();
        Check.end();
    }

    private static int is(boolean answer) {
        return answer ? 1 : 0;
    }

    private static NoseCensus fullTape() {
        NoseCensus x = Probe.busy();
        for (int i = 1; i < 35; i++) {
            x.feed('w' << 24 | 'i' << 16 | 'n' << 8 | 'd', ' ' << 24 | '8' << 16 | ';' << 8 | ' ', i, i, i);
        }
        return x;
    }

    /** Promises 2 to 5. */
    private static void tapeAndText() {
        Probe.leavesAll("feed of a full tape", NONE, RefusedTest::fullTape, x -> x.feed(1, 2, 3, 4, 5));
        Probe.leavesAll("text(701) of a full tape", -2, RefusedTest::fullTape, x -> x.text(701));
        Probe.refused("text", -2, (x, a) -> x.text(a[0]), new int[] {0}, 0, 20);
        Probe.leavesAll("text(1) without a tape", -2, Probe::busyWithoutTape, x -> x.text(1));
        Probe.leavesAll("text(-1) without a tape", -2, Probe::busyWithoutTape, x -> x.text(-1));
        Probe.refused("fault", NONE, (x, a) -> x.fault(a[0]), new int[] {0}, 0, 1);
        Probe.refused("named", NONE, (x, a) -> x.named(a[0], Check.letters("inn")), new int[] {0}, 0, 2);
        Probe.leavesAll("named(0, 0)", NONE, x -> x.named(0, 0));
    }

    /** "NONE with a FAULT, all stays": all but the tape, which is empty then. */
    private static void textWithFault() {
        String[] texts = {"#", "house a;wind 101;", "house inn;house inn;", "person p q 0 1;", "house a;house b;dog",
            "house h;person q h 7 9;coat h 1 1;dish h 9;dog d h 1;wind 1;tax 1;seed 1;"
                    + "law smell 1;law due 2;law nose ;"};
        int[] faults = {1, 2, 3, 4, 1, 1};
        int[] places = {0, 13, 16, 9, 19, 104};
        for (int i = 0; i < texts.length; i++) {
            NoseCensus x = Probe.busyWithoutTape();
            Check.same("text of " + texts[i], Check.told(x, texts[i]), NONE);
            Check.same("fault(0) of " + texts[i], x.fault(0), faults[i]);
            Check.same("fault(1) of " + texts[i], x.fault(1), places[i]);
            Check.same("text(1) behind " + texts[i], x.text(1), -2);
            Check.same("fault(0) stays by -2", x.fault(0), faults[i]);
            Check.same("fault(1) stays by -2", x.fault(1), places[i]);
            Probe.sameTowns("text of " + texts[i], x, Probe.busyWithoutTape());
        }
    }

    /** Promises 6 to 11 and 41. */
    private static void whatIsSoNow() {
        Probe.refused("person", Probe.NO_INDEX, (x, a) -> Probe.person(x, a[0], 0), new int[] {0}, 0, 2);
        Probe.refused("person", Probe.NO_ELEMENT, (x, a) -> Probe.person(x, 0, a[0]), new int[] {0}, 0, 4);
        Probe.refused("house", -2, (x, a) -> x.house(a[0], a[1]), new int[] {0, 0}, 0, 2, 0, 4);
        Probe.refused("coat", NONE, (x, a) -> x.coat(a[0], a[1]), new int[] {0, 0}, 0, 1, 0, 2);
        Probe.refused("dog", NONE, (x, a) -> x.dog(a[0], a[1]), new int[] {0, 0}, 0, 1, 0, 1);
        Probe.refused("air", NONE, (x, a) -> x.air(a[0], a[1]), new int[] {0, 0}, 0, 2, 0, 7);
        Probe.refused("smells", NONE, (x, a) -> x.smells(a[0], a[1]), new int[] {0, 0}, 0, 1, 0, 2);
        Probe.refused("count", NONE, (x, a) -> x.count(a[0]), new int[] {0}, 0, 13);
    }

    private static NoseCensus ofLaws() {
        return Check.town(Check.ROW + "law smell 5;law nose 6;law due 7;");
    }

    /** Promise 12. */
    private static void law() {
        int[][] none = {{-1, 0, 0}, {3, 0, 0}, {MOST, 0, 0}, {LEAST, 0, 0}, {0, -1, 0}, {0, 3, 0}, {0, MOST, 0},
            {0, LEAST, 0}, {1, -1, 0}, {1, 2, 0}, {1, MOST, 0}, {1, LEAST, 0}, {1, 0, -1}, {1, 0, 8}, {1, 0, MOST},
            {1, 0, LEAST}, {2, -1, 0}, {2, 3, 0}, {2, MOST, 0}, {2, LEAST, 0}, {2, 1, 0}};
        for (int[] a : none) {
            Probe.leavesAll("law" + java.util.Arrays.toString(a), Long.MIN_VALUE, RefusedTest::ofLaws,
                    x -> x.law(a[0], a[1], a[2]));
        }
        int[][] some = {{0, 0, -1, 5}, {0, 2, 8, 5}, {0, 0, LEAST, 5}, {0, 2, MOST, 5}, {1, 0, 0, 6}, {1, 1, 7, 6},
            {2, 0, -1, 7}, {2, 2, 8, 7}, {2, 0, LEAST, 7}, {2, 2, MOST, 7}};
        for (int[] a : some) {
            Probe.leavesAll("law" + java.util.Arrays.toString(a), a[3], RefusedTest::ofLaws,
                    x -> x.law(a[0], a[1], a[2]));
        }
        for (int what = 0; what <= 2; what++) {
            int rule = what;
            Probe.leavesAll("law(" + what + ", 0, 0) without", Long.MIN_VALUE, x -> x.law(rule, 0, 0));
        }
    }

    /** Promises 13 to 19. */
    private static void changes() {
        Probe.refused("move", 0, (x, a) -> is(x.move(a[0], a[1])), new int[] {0, 0}, 0, 2, 0, 2);
        Probe.refused("wash", 0, (x, a) -> is(x.wash(a[0], true)), new int[] {0}, 0, 2);
        Probe.refused("wash no more", 0, (x, a) -> is(x.wash(a[0], false)), new int[] {1}, 0, 2);
        Probe.refused("hang", NONE, (x, a) -> x.hang(a[0], a[1], a[2]), new int[] {0, 0, 1}, 0, 2, 0, 7, 1, 9);
        Probe.refused("cook", 0, (x, a) -> is(x.cook(a[0], a[1])), new int[] {0, 0}, 0, 2, 0, 99);
        Probe.refused("send", 0, (x, a) -> is(x.send(a[0], a[1])), new int[] {0, 1}, 0, 1, 0, 2);
        Probe.refused("blow", 0, (x, a) -> is(x.blow(a[0])), new int[] {0}, 0, 100);
        Probe.refused("years", NONE, (x, a) -> x.years(a[0]), new int[] {0}, 0, 99);
        Probe.leavesAll("years(0)", 2, x -> x.years(0));
    }

    /** "there already", "it is so". */
    private static void changesThatAreSo() {
        Probe.leavesAll("move(0, 1) there already", 0, x -> is(x.move(0, 1)));
        Probe.leavesAll("move(1, 0) there already", 0, x -> is(x.move(1, 0)));
        Probe.leavesAll("wash(1, true) of one washed", 0, x -> is(x.wash(1, true)));
        Probe.leavesAll("wash(0, false) of one unwashed", 0, x -> is(x.wash(0, false)));
        Probe.leavesAll("cook(0, 7) as it is", 0, x -> is(x.cook(0, 7)));
        Probe.leavesAll("cook(1, 0) as it is without", 0, x -> is(x.cook(1, 0)));
        Probe.leavesAll("send(0, 0) there already", 0, x -> is(x.send(0, 0)));
        Probe.leavesAll("send(1, 1) there already", 0, x -> is(x.send(1, 1)));
        Probe.leavesAll("blow(70) as it is", 0, x -> is(x.blow(70)));
        Probe.leavesAll("blow(0) as it is without", 0, NoseCensus::new, x -> is(x.blow(0)));
    }

    private static NoseCensus twelveCoats() {
        NoseCensus x = Probe.busy();
        for (int i = 2; i < 12; i++) {
            Check.same("hang of coat " + i, x.hang(0, i % 8, 1), i);
        }
        return x;
    }

    private static NoseCensus notesInFull() {
        NoseCensus x = Probe.busy();
        for (int i = 3; i < 24; i++) {
            Check.same("note " + i, x.note(8, 2, 8, true), i);
        }
        return x;
    }

    /** "there were 12 ever", "or there are 24". */
    private static void full() {
        Probe.leavesAll("hang of a 13th", NONE, RefusedTest::twelveCoats, x -> x.hang(0, 0, 1));
        Probe.leavesAll("a 25th note", NONE, RefusedTest::notesInFull, x -> x.note(0, 0, 0, true));
        Probe.leavesAll("a 25th note that strikes", NONE, RefusedTest::notesInFull, x -> x.out(0));
    }

    private static NoseCensus yearOf(int year) {
        NoseCensus x = Check.town(Check.ROW);
        for (int now = 0; now < year; now = x.count(6)) {
            x.years(Math.min(99, year - now));
        }
        x.wash(0, true);
        return x;
    }

    /** "behind 999". */
    private static void lastYear() {
        Probe.leavesAll("years(1) in 999", NONE, () -> yearOf(999), x -> x.years(1));
        Probe.leavesAll("years(99) in 999", NONE, () -> yearOf(999), x -> x.years(99));
        Probe.leavesAll("years(0) in 999", 999, () -> yearOf(999), x -> x.years(0));
        Probe.leavesAll("years(2) in 998", NONE, () -> yearOf(998), x -> x.years(2));
        Probe.leavesAll("years(99) in 901", NONE, () -> yearOf(901), x -> x.years(99));
        Check.same("years(1) in 998", yearOf(998).years(1), 999);
        Check.same("years(99) in 900", yearOf(900).years(99), 999);
    }

    /** Promises 20 to 24, 27, 28, 31, 36 and 37. */
    private static void questions() {
        Probe.refused("walk", NONE, (x, a) -> x.walk(a[0], a[1], a[2]), new int[] {0, 0, 0}, 0, 1, 0, 12, 0, 2);
        Probe.refused("washed", NONE, (x, a) -> x.washed(a[0], a[1], a[2]), new int[] {0, 0, 0}, 0, 2, 0, 1, 0, 8);
        Probe.refused("who", NONE, (x, a) -> x.who(a[0], a[1]), new int[] {0, 0}, 0, 2, 0, 1);
        Probe.refused("set", NONE, (x, a) -> x.set(a[0], a[1], a[2]), new int[] {0, 0, 0}, 0, 2, 0, 1, 0, MOST);
        Probe.leavesAll("set(0, 1, 6)", -2, x -> x.set(0, 1, 6));
        Probe.leavesAll("set of the greatest k", -2, x -> x.set(0, 1, MOST));
        Probe.refused("share", NONE, (x, a) -> x.share(a[0], a[1], a[2]), new int[] {0, 0, 0}, 0, 2, 0, 7, 0, 1);
        Probe.refused("hide", NONE, (x, a) -> x.hide(a[0], a[1]), new int[] {0, 0}, 0, 2, 0, 1);
        Probe.refused("keeps", NONE, (x, a) -> x.keeps(a[0]), new int[] {0}, 0, 1);
        Probe.refused("seats", NONE, (x, a) -> x.seats(a[0], a[1]), new int[] {1, 0}, 1, 99, 0, 2);
        Probe.refused("chance", NONE, (x, a) -> x.chance(a[0], a[1], a[2]), new int[] {0, 1, 0}, 0, MOST, 1, 30, 0,
                9999);
        for (int what : new int[] {0, 1, 3, 4, 5}) {
            Probe.refused("tried of " + what, NONE, (x, a) -> x.tried(what, a[0]), new int[] {0}, 0, 0);
        }
        Probe.refused("tried", NONE, (x, a) -> x.tried(a[0], 0), new int[] {0}, 0, 5);
        Probe.refused("tried of 2", NONE, (x, a) -> x.tried(2, a[0]), new int[] {0}, 0, 2);
    }

    /** Promises 29 and 30: "NONE: no such HOUSES, alike, without a COUNT"; "NONE likewise, k is below 0". */
    private static void questionsOfTwoHouses() {
        Probe.refused("rests", NONE, (x, a) -> x.rests(a[0], a[1]), new int[] {0, 1}, 0, 1, 0, 1);
        Probe.refused("rest", NONE, (x, a) -> x.rest(a[0], a[1], a[2]), new int[] {0, 1, 0}, 0, 1, 0, 1, 0, MOST);
        Probe.leavesAll("rests(3, 1)", NONE, x -> x.rests(3, 1));
        Probe.leavesAll("rests(1, 3)", NONE, x -> x.rests(1, 3));
        Probe.leavesAll("rest(3, 1, 0)", NONE, x -> x.rest(3, 1, 0));
        Probe.leavesAll("rest(1, 3, 0)", NONE, x -> x.rest(1, 3, 0));
        Probe.leavesAll("rests(1, 1) alike", NONE, x -> x.rests(1, 1));
        Probe.leavesAll("rest(1, 1, 0) alike", NONE, x -> x.rest(1, 1, 0));
        Probe.leavesAll("rests(2, 1) without a count", NONE, x -> x.rests(2, 1));
        Probe.leavesAll("rest(2, 1, 0) without a count", NONE, x -> x.rest(2, 1, 0));
        Probe.leavesAll("rests(2, 2) of none that counts", NONE, x -> x.rests(2, 2));
        Probe.leavesAll("rest(0, 1, 2)", -2, x -> x.rest(0, 1, 2));
        Probe.leavesAll("rest of the greatest k", -2, x -> x.rest(0, 1, MOST));
    }

    /** Promises 32 to 35. */
    private static void notes() {
        Probe.refused("note", NONE, (x, a) -> x.note(a[0], a[1], a[2], true), new int[] {0, 0, 0}, 0, 8, 0, 2, 0, 8);
        Probe.refused("note of less", NONE, (x, a) -> x.note(a[0], a[1], a[2], false), new int[] {0, 0, 0}, 0, 8, 0, 2,
                0, 8);
        Probe.refused("out", NONE, (x, a) -> x.out(a[0]), new int[] {0}, 0, 2);
        Probe.refused("known", 0, (x, a) -> is(x.known(a[0])), new int[] {0}, -1, 3);
        Probe.refused("sort", NONE, (x, a) -> x.sort(a[0]), new int[] {0}, 0, 2);
    }

    /** Promises 38 and 40: "NONE: none", "NONE: there is none". */
    private static void nothingToUndoAndNoImage() {
        Probe.leavesAll("undo behind years", NONE, () -> {
            NoseCensus x = Probe.busy();
            x.years(1);
            return x;
        }, NoseCensus::undo);
        Probe.leavesAll("undo behind back", NONE, () -> {
            NoseCensus x = Probe.busy();
            x.back();
            return x;
        }, NoseCensus::undo);
        Probe.leavesAll("back without an image", NONE, () -> {
            NoseCensus x = Check.town(Check.ROW);
            x.years(1);
            x.move(0, 1);
            x.note(0, 0, 0, true);
            return x;
        }, NoseCensus::back);
        Probe.leavesAll("undo of a new object", NONE, NoseCensus::new, NoseCensus::undo);
        Probe.leavesAll("back of a new object", NONE, NoseCensus::new, NoseCensus::back);
    }

    private static void none(String call, long due, java.util.function.ToLongFunction<NoseCensus> made) {
        Probe.leavesAll(call + " of a new object", due, NoseCensus::new, made);
    }

    /** Promise 1: "A TEXT without LINES; an empty TAPE": there are no such ones at all. */
    private static void townWithoutAny() {
        none("text(1)", -2, x -> x.text(1));
        none("text(0)", 0, x -> x.text(0));
        none("named", NONE, x -> x.named(0, 1 << 25));
        none("person", Probe.NO_INDEX, x -> Probe.person(x, 0, 0));
        none("house", -2, x -> x.house(0, 0));
        none("coat", NONE, x -> x.coat(0, 0));
        none("dog", NONE, x -> x.dog(0, 0));
        none("air", NONE, x -> x.air(0, 0));
        none("smells", NONE, x -> x.smells(0, 0));
        none("law(0)", Long.MIN_VALUE, x -> x.law(0, 0, 0));
        none("law(1)", Long.MIN_VALUE, x -> x.law(1, 0, 0));
        none("law(2)", Long.MIN_VALUE, x -> x.law(2, 0, 0));
        none("move", 0, x -> is(x.move(0, 0)));
        none("wash", 0, x -> is(x.wash(0, true)));
        none("hang", NONE, x -> x.hang(0, 0, 1));
        none("cook", 0, x -> is(x.cook(0, 1)));
        none("send", 0, x -> is(x.send(0, 0)));
        none("walk", NONE, x -> x.walk(0, 0, 0));
        none("washed", NONE, x -> x.washed(0, 0, 0));
        none("who", NONE, x -> x.who(0, 0));
        none("set", NONE, x -> x.set(0, 0, 0));
        none("share", NONE, x -> x.share(0, 0, 0));
        none("ghosts", 0, NoseCensus::ghosts);
        none("wrong", 0, NoseCensus::wrong);
        none("hide", NONE, x -> x.hide(0, 0));
        none("keeps", NONE, x -> x.keeps(0));
        none("rests", NONE, x -> x.rests(0, 1));
        none("rest", NONE, x -> x.rest(0, 1, 0));
        none("seats", NONE, x -> x.seats(1, 0));
        none("note", NONE, x -> x.note(0, 0, 0, true));
        none("out", NONE, x -> x.out(0));
        none("known(1)", 0, x -> is(x.known(1)));
        none("sort", NONE, x -> x.sort(0));
        none("chance", 10, x -> x.chance(0, 30, 0));
        none("chance of 1", 0, x -> x.chance(0, 30, 1));
        none("tried(0)", 0, x -> x.tried(0, 0));
        none("tried(2)", NONE, x -> x.tried(2, 0));
        none("tried(5)", 0, x -> x.tried(5, 0));
    }

    private static void answersLeaveAll() {
        Probe.leavesAll("fault(0)", 0, x -> x.fault(0));
        Probe.leavesAll("fault(1)", NONE, x -> x.fault(1));
        Probe.leavesAll("named(2, pip)", 1, x -> x.named(2, Check.letters("pip")));
        Probe.leavesAll("person(2, 4)", 4, x -> Probe.person(x, 2, 4));
        Probe.leavesAll("house(1, 3)", 6, x -> x.house(1, 3));
        Probe.leavesAll("house(0, 4)", 12, x -> x.house(0, 4));
        Probe.leavesAll("coat(1, 2)", 6, x -> x.coat(1, 2));
        Probe.leavesAll("dog(1, 1)", 4, x -> x.dog(1, 1));
        Probe.leavesAll("air(2, 5)", 4, x -> x.air(2, 5));
        Probe.leavesAll("smells(0, 2)", 37, x -> x.smells(0, 2));
        Probe.leavesAll("walk(0, 12, 2)", 1, x -> x.walk(0, 12, 2));
        Probe.leavesAll("walk(0, 12, 0)", 0, x -> x.walk(0, 12, 0));
        Probe.leavesAll("walk(0, 12, 1)", 1, x -> x.walk(0, 12, 1));
        Probe.leavesAll("share(2, 0, 0)", 1, x -> x.share(2, 0, 0));
        Probe.leavesAll("share(2, 0, 1)", 1, x -> x.share(2, 0, 1));
        Probe.leavesAll("ghosts()", 0, NoseCensus::ghosts);
        Probe.leavesAll("wrong()", 1, NoseCensus::wrong);
        Probe.leavesAll("seats(99, 1)", 99, x -> x.seats(99, 1));
        Probe.leavesAll("count(8)", 2, x -> x.count(8));
        Probe.leavesAll("count(9)", 18, x -> x.count(9));
        Probe.leavesAll("count(13)", 7, x -> x.count(13));
    }

    private static void answersByManyTriesLeaveAll() {
        Probe.leavesAll("washed(1, 1, 1)", 1, x -> x.washed(1, 1, 1));
        Probe.leavesAll("washed(1, 1, 0)", -2, x -> x.washed(1, 1, 0));
        Probe.leavesAll("who(0, 1)", 6, x -> x.who(0, 1));
        Probe.leavesAll("set(0, 1, 5)", 6, x -> x.set(0, 1, 5));
        Probe.leavesAll("who(1, 1)", 0, x -> x.who(1, 1));
        Probe.leavesAll("set(1, 1, 0)", -2, x -> x.set(1, 1, 0));
        Probe.leavesAll("hide(1, 1)", 6, x -> x.hide(1, 1));
        Probe.leavesAll("hide(2, 0)", 4, x -> x.hide(2, 0));
        Probe.leavesAll("keeps(0)", 2, x -> x.keeps(0));
        Probe.leavesAll("keeps(1)", 4, x -> x.keeps(1));
        Probe.leavesAll("rests(0, 1)", 2, x -> x.rests(0, 1));
        Probe.leavesAll("rest(0, 1, 1)", 6, x -> x.rest(0, 1, 1));
        Probe.leavesAll("rest(1, 0, 1)", 60, x -> x.rest(1, 0, 1));
        Probe.leavesAll("sort(0)", 0, x -> x.sort(0));
        Probe.leavesAll("chance(1, 30, 0)", 10, x -> x.chance(1, 30, 0));
        int[] counts = {2, 2, 1, 2, 1, 2};
        for (int what = 0; what <= 5; what++) {
            int other = what;
            Probe.leavesAll("tried(" + what + ", 0)", counts[what], x -> x.tried(other, 0));
        }
    }
}
