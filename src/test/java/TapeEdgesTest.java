/** The sentences of promises 1 to 5 that name an edge, each with a test of its own. */
public final class TapeEdgesTest {
    private static final int NONE = NoseCensus.NONE;
    private static final int BLANKS = 0x20202020;

    public static void main(String[] args) {
        newObject();
        feedOfTwenty();
        feedUpTo700();
        feedBehindEachText();
        textOfTheFirstBytes();
        textOfNoBytes();
        textOfNotSoMany();
        textBeginsAnew();
        textBeginsAnewThoughAlike();
        textCountsLines();
        faultOfTheLatest();
        namedByLetters();
        namedByOtherBits();
        namedByTheLatestText();
        Check.end();
    }

    /** "A TEXT without LINES; an empty TAPE." */
    private static void newObject() {
        NoseCensus x = new NoseCensus();
        for (int what = 0; what <= 13; what++) {
            Check.same("new: count(" + what + ")", x.count(what), 0);
        }
        Check.same("new: text(1)", x.text(1), -2);
        Check.same("new: fault(0)", x.fault(0), 0);
        Check.same("new: fault(1)", x.fault(1), NONE);
        Check.same("new: feed", x.feed(BLANKS, BLANKS, BLANKS, BLANKS, BLANKS), 20);
        Probe.sameTowns("a text without lines", Check.town(""), new NoseCensus());
        NoseCensus other = Probe.busyWithoutTape();
        Check.same("a text without lines behind another", other.text(0), 0);
        Probe.sameTowns("a text without lines behind another", other, new NoseCensus());
    }

    private static int four(String text, int at) {
        return text.charAt(at) << 24 | text.charAt(at + 1) << 16 | text.charAt(at + 2) << 8 | text.charAt(at + 3);
    }

    /** "Twenty bytes come behind the TAPE, four of each number, the highest first". */
    private static void feedOfTwenty() {
        String text = "house abcdef;house g";
        NoseCensus x = new NoseCensus();
        Check.same("feed", x.feed(four(text, 0), four(text, 4), four(text, 8), four(text, 12), four(text, 16)), 20);
        Check.same("text(13)", x.text(13), 1);
        Check.same("its name", x.named(0, Check.letters("abcdef")), 0);
        x.feed(four(text, 0), four(text, 4), four(text, 8), four(text, 12), four(text, 16));
        Check.same("a second feed comes behind", x.feed(';' << 24, 0, 0, 0, 0), 40);
        Check.same("text(21)", x.text(21), 2);
        Check.same("its second name", x.named(0, Check.letters("g")), 1);
        // Each of the twenty bytes is where it must be: a fault is at its place.
        for (int place = 0; place < 20; place++) {
            int[] numbers = {BLANKS, BLANKS, BLANKS, BLANKS, BLANKS};
            numbers[place / 4] ^= 0xdf << 24 - place % 4 * 8;
            x.feed(numbers[0], numbers[1], numbers[2], numbers[3], numbers[4]);
            Check.same("a byte of 255 at " + place, x.text(20), NONE);
            Check.same("its place " + place, x.fault(1), place);
        }
    }

    /** "how many it has; NONE, and none come, if it would have more than 700". */
    private static void feedUpTo700() {
        NoseCensus x = new NoseCensus();
        for (int i = 1; i < 35; i++) {
            Check.same("feed " + i, x.feed(BLANKS, BLANKS, BLANKS, BLANKS, BLANKS), 20 * i);
        }
        String last = "             wind 8;";
        Check.same("the last one", x.feed(four(last, 0), four(last, 4), four(last, 8), four(last, 12), four(last, 16)),
                700);
        Check.same("one more", x.feed(-1, -1, -1, -1, -1), NONE);
        Check.same("and again", x.feed(-1, -1, -1, -1, -1), NONE);
        Check.same("text(701)", x.text(701), -2);
        Check.same("text(720)", x.text(720), -2);
        Check.same("text(700)", x.text(700), 1);
        Check.same("the wind at its end", x.count(7), 8);
        Check.same("feed behind it", x.feed(0, 0, 0, 0, 0), 20);
    }

    private static void feedBehindEachText() {
        NoseCensus x = new NoseCensus();
        String[] texts = {"wind 1;", "#", "", "wind 101;", "house a;"};
        int[] due = {1, NONE, 0, NONE, 1};
        for (int i = 0; i < texts.length; i++) {
            Check.fed(x, "wind 5;tax 7;seed 9;");
            Check.fed(x, "wind 5;tax 7;seed 9;");
            x.text(0);
            Check.same("text of " + texts[i], Check.told(x, texts[i]), due[i]);
            Check.same("the tape is empty then", x.text(1), -2);
            Check.same("feed then", x.feed(BLANKS, BLANKS, BLANKS, BLANKS, BLANKS), 20);
            Check.same("text(20)", x.text(20), 0);
        }
    }

    /** "The TAPE's first n bytes (it is empty then) are the TEXT". */
    private static void textOfTheFirstBytes() {
        String text = "wind 1;tax 23;seed 4";
        // A word cut short can't stand there; behind a whole token more must come.
        int[] places = {NONE, 0, 0, 0, 4, 5, 6, NONE, 7, 7, 10, 11, 12, 13, NONE, 14, 14, 14, 18, 19, 20};
        for (int n = 0; n < places.length; n++) {
            NoseCensus x = new NoseCensus();
            Check.fed(x, text);
            Check.same("text(" + n + ")", x.text(n), places[n] == NONE ? n / 7 : NONE);
            Check.same("fault(0) of text(" + n + ")", x.fault(0), places[n] == NONE ? 0 : 1);
            Check.same("fault(1) of text(" + n + ")", x.fault(1), places[n]);
            Check.same("the tape behind text(" + n + ")", x.text(1), -2);
        }
        NoseCensus x = new NoseCensus();
        Check.fed(x, "wind 100;");
        Check.same("a number cut", x.text(7), NONE);
        Check.same("the place of what must come", x.fault(1), 7);
        Check.fed(x, "law due 1<=2;");
        Check.same("a sign cut", x.text(10), NONE);
        Check.same("its fault", x.fault(0), 1);
        Check.same("its place", x.fault(1), 10);
    }

    private static void textOfNoBytes() {
        NoseCensus x = Probe.busy();
        Check.same("text(0) of a tape", x.text(0), 0);
        Check.same("it is empty then", x.text(1), -2);
        Probe.sameTowns("text(0)", x, new NoseCensus());
    }

    /** "-2, and the TAPE stays: there are not so many, n is below 0". */
    private static void textOfNotSoMany() {
        NoseCensus x = new NoseCensus();
        Check.fed(x, "house a;house b;    ");
        Check.fed(x, "wind 5;");
        for (int n : new int[] {41, 60, 700, 701, Integer.MAX_VALUE, -1, -20, Integer.MIN_VALUE}) {
            Check.same("text(" + n + ")", x.text(n), -2);
            Check.same("no houses by it", x.count(0), 0);
        }
        Check.same("feed then", x.feed(BLANKS, BLANKS, BLANKS, BLANKS, BLANKS), 60);
        Check.same("text(61)", x.text(61), -2);
        Check.same("text(60)", x.text(60), 3);
        Check.same("its wind", x.count(7), 5);
    }

    /** "(YEAR 0, nobody WASHED, no NOTES, all KNOWN, no IMAGE, nothing to undo then)". */
    private static void textBeginsAnew() {
        NoseCensus x = Probe.busyWithoutTape();
        Check.same("text", Check.told(x, Check.ROW), 12);
        Check.same("YEAR 0", x.count(6), 0);
        Check.same("nobody WASHED", x.count(10), 0);
        Check.same("no NOTES", x.count(11), 0);
        Check.same("no IMAGE", x.back(), NONE);
        Check.same("nothing to undo", x.undo(), NONE);
        Check.same("nothing to undo, counted", x.count(13), 0);
        Check.same("nothing is paid", x.count(9), 0);
        x.note(0, 0, 2, true);
        Check.same("all KNOWN", x.count(12), 1);
        Check.same("all KNOWN by sort", x.sort(0), 253);
        Check.no("no notes of the text ahead", x.known(2));
    }

    private static void textBeginsAnewThoughAlike() {
        NoseCensus x = Probe.busyWithoutTape();
        Check.told(x, Check.ROW);
        Probe.sameTowns("a text told anew", x, Check.town(Check.ROW));
        x = Probe.busyWithoutTape();
        Check.told(x, "house q;");
        Check.told(x, Check.ROW);
        Probe.sameTowns("a text told behind another", x, Check.town(Check.ROW));
    }

    /** "how many LINES". */
    private static void textCountsLines() {
        StringBuilder text = new StringBuilder();
        String[] lines = {"house a;", "person p a 0 1;", "coat a 0 1;", "dish a 1;", "dog d a 1;", "wind 1;", "tax 1;",
            "seed 1;", "law smell 1;", "law nose 1;", "law due 1;"};
        for (int i = 0; i < lines.length; i++) {
            text.append(lines[i]);
            Check.same("lines of " + text, Check.told(new NoseCensus(), text.toString()), i + 1);
        }
    }

    /** "Of the latest text() that was not -2, what 0: its FAULT (0), 1: its place (NONE without)." */
    private static void faultOfTheLatest() {
        NoseCensus x = new NoseCensus();
        x.text(-1);
        Check.same("behind a text of -2: fault(0)", x.fault(0), 0);
        Check.same("behind a text of -2: fault(1)", x.fault(1), NONE);
        Check.told(x, "wind 5;tax 100;");
        Check.same("fault(0)", x.fault(0), 2);
        Check.same("fault(1)", x.fault(1), 11);
        x.text(1);
        x.text(-1);
        Check.same("fault(0) stays", x.fault(0), 2);
        Check.same("fault(1) stays", x.fault(1), 11);
        x.feed(1, 2, 3, 4, 5);
        x.years(1);
        Check.same("fault(0) behind other calls", x.fault(0), 2);
        Check.same("fault(1) behind other calls", x.fault(1), 11);
        x.text(0);
        Check.same("fault(0) without", x.fault(0), 0);
        Check.same("fault(1) without", x.fault(1), NONE);
        Check.told(x, "#");
        Check.same("fault(0) at the first byte", x.fault(0), 1);
        Check.same("fault(1) at the first byte", x.fault(1), 0);
        for (int what : new int[] {-1, 2, 3, Integer.MAX_VALUE, Integer.MIN_VALUE}) {
            Check.same("fault(" + what + ")", x.fault(what), NONE);
        }
    }

    /** "by its letters, 5 bits each (a is 1; the first one highest of six, 0 behind the last one)". */
    private static void namedByLetters() {
        NoseCensus x = Check.town("house a;house z;house zzzzzz;house az;house aaaaaa;house b;"
                + "person za z 0 1;dog zz z 1;");
        int[] houses = {1 << 25, 26 << 25, 26 << 25 | 26 << 20 | 26 << 15 | 26 << 10 | 26 << 5 | 26, 1 << 25 | 26 << 20,
            1 << 25 | 1 << 20 | 1 << 15 | 1 << 10 | 1 << 5 | 1, 2 << 25};
        for (int house = 0; house < houses.length; house++) {
            Check.same("house " + house, x.named(0, houses[house]), house);
            Check.same("no person of house " + house, x.named(1, houses[house]), NONE);
            Check.same("no dog of house " + house, x.named(2, houses[house]), NONE);
        }
        Check.same("a person", x.named(1, 26 << 25 | 1 << 20), 0);
        Check.same("a dog", x.named(2, 26 << 25 | 26 << 20), 0);
        Check.same("no house of a person's name", x.named(0, 26 << 25 | 1 << 20), NONE);
    }

    private static void namedByOtherBits() {
        NoseCensus x = Check.town("house a;house ab;person a a 0 1;dog a a 1;");
        int a = 1 << 25;
        int[] none = {0, 1, 1 << 5, 1 << 20, a | 1, a | 3 << 20, a | 1 << 20, a | 2 << 15, a | 1 << 30, a | 1 << 31, -1,
            a - 1, a + 1, 27 << 25, 31 << 25, Integer.MAX_VALUE, Integer.MIN_VALUE};
        for (int letters : none) {
            for (int what = 0; what <= 2; what++) {
                Check.same("named(" + what + ", " + letters + ")", x.named(what, letters), NONE);
            }
        }
        for (int what : new int[] {-1, 3, Integer.MAX_VALUE, Integer.MIN_VALUE}) {
            Check.same("named(" + what + ", a)", x.named(what, a), NONE);
        }
        Check.same("ab", x.named(0, a | 2 << 20), 1);
    }

    private static void namedByTheLatestText() {
        NoseCensus x = Check.town("house a;house b;person p a 0 1;dog d a 1;");
        Check.told(x, "house q;house r;house a;person q q 0 1;dog q q 1;#");
        Check.same("a text with a fault: house a", x.named(0, Check.letters("a")), 0);
        Check.same("a text with a fault: house q", x.named(0, Check.letters("q")), NONE);
        Check.same("a text with a fault: person q", x.named(1, Check.letters("q")), NONE);
        Check.same("a text with a fault: dog q", x.named(2, Check.letters("q")), NONE);
        Check.told(x, "house b;person q b 0 1;");
        Check.same("the next text: house a", x.named(0, Check.letters("a")), NONE);
        Check.same("the next text: house b", x.named(0, Check.letters("b")), 0);
        Check.same("the next text: person p", x.named(1, Check.letters("p")), NONE);
        Check.same("the next text: person q", x.named(1, Check.letters("q")), 0);
        Check.same("the next text: dog d", x.named(2, Check.letters("d")), NONE);
    }
}
