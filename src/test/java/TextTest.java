/** Promises 1 to 5: a new object, feed, text, fault, named. */
public final class TextTest {
    public static void main(String[] args) {
        newObject();
        feed();
        bytesOfFeed();
        textSetsAllAnew();
        textWithFault();
        textOfTooMany();
        textOfAPart();
        textForgetsTheOneAhead();
        fault();
        named();
        Check.end();
    }

    private static void newObject() {
        NoseCensus x = new NoseCensus();
        for (int what = 0; what <= 13; what++) {
            Check.same("new: count(" + what + ")", x.count(what), 0);
        }
        Check.same("new: fault(0)", x.fault(0), 0);
        Check.same("new: fault(1)", x.fault(1), NoseCensus.NONE);
        Check.same("new: text(1)", x.text(1), -2);
        Check.same("new: text(0)", x.text(0), 0);
        Check.same("new: house(0, 0)", x.house(0, 0), -2);
        Check.same("NONE", NoseCensus.NONE, -1);
    }

    private static void feed() {
        NoseCensus x = new NoseCensus();
        int blanks = 0x20202020;
        for (int i = 1; i <= 35; i++) {
            Check.same("feed " + i, x.feed(blanks, blanks, blanks, blanks, blanks), 20 * i);
        }
        Check.same("feed beyond 700", x.feed(1, 2, 3, 4, 5), NoseCensus.NONE);
        Check.same("text(701)", x.text(701), -2);
        Check.same("text(700)", x.text(700), 0);
        Check.same("feed behind text", x.feed(0, 0, 0, 0, 0), 20);
    }

    private static void bytesOfFeed() {
        NoseCensus x = new NoseCensus();
        x.feed('w' << 24 | 'i' << 16 | 'n' << 8 | 'd', ' ' << 24 | '0' << 16 | '0' << 8 | '0',
                '0' << 24 | '0' << 16 | '0' << 8 | '0', '0' << 24 | '0' << 16 | '0' << 8 | '0',
                '0' << 24 | '4' << 16 | '7' << 8 | ';');
        Check.same("text of twenty bytes", x.text(20), 1);
        Check.same("wind told by bytes", x.count(7), 47);
        x.feed(0xff000000, 0, 0, 0, 0);
        Check.same("a byte of 255 is no blank", x.text(1), NoseCensus.NONE);
        Check.same("its fault", x.fault(0), 1);
        Check.same("its place", x.fault(1), 0);
    }

    private static void textSetsAllAnew() {
        NoseCensus x = Check.town(Check.ROW);
        x.years(2);
        x.keep();
        x.wash(0, true);
        x.note(0, 0, 1, true);
        x.known(0);
        x.hang(0, 0, 1);
        int n = Check.fed(x, "house a;dog d a 1;wind 3;house b;");
        Check.same("text of three of four lines", x.text(n - 8), 3);
        Check.same("the tape behind text", x.text(1), -2);
        int[] due = {1, 0, 0, 0, 1, 0, 0, 3, 0, 0, 0, 0, 0, 0};
        for (int what = 0; what < due.length; what++) {
            Check.same("behind text: count(" + what + ")", x.count(what), due[what]);
        }
        Check.same("behind text: house(0, 4)", x.house(0, 4), 0);
        Check.same("behind text: back()", x.back(), NoseCensus.NONE);
        Check.same("behind text: undo()", x.undo(), NoseCensus.NONE);
        x.note(0, 0, 1, true);
        Check.same("behind text: known by all", x.count(12), 1);
        Check.same("a text without tax or dish", Check.told(x, "house a;person p a 0 1;dog d a 1;"), 3);
        Check.same("two a head without tax", x.house(0, 3), 2);
        Check.same("no wind without wind", x.count(7), 0);
        Check.same("no dish without dish", x.house(0, 0), 0);
    }

    private static void textWithFault() {
        NoseCensus x = Check.town(Check.ROW);
        x.years(1);
        x.keep();
        x.wash(0, true);
        x.note(0, 0, 1, true);
        Check.same("text with a fault", Check.told(x, "house a;law smell 7;wind 9;dish b 1;"), NoseCensus.NONE);
        Check.same("the tape behind a fault", x.text(1), -2);
        int[] due = {3, 3, 1, 1, 2, 0, 1, 50, 2, 9, 1, 1, 1, 1};
        for (int what = 0; what < due.length; what++) {
            Check.same("behind a fault: count(" + what + ")", x.count(what), due[what]);
        }
        Check.same("behind a fault: named inn", x.named(0, Check.letters("inn")), 0);
        Check.same("behind a fault: person(0, 4)", x.person(0, 4), 5);
        Check.same("behind a fault: back()", x.back(), 1);
    }

    private static void textOfTooMany() {
        NoseCensus x = new NoseCensus();
        int n = Check.fed(x, "wind 5;");
        Check.same("text(21)", x.text(21), -2);
        Check.same("text(-1)", x.text(-1), -2);
        Check.same("text(least)", x.text(Integer.MIN_VALUE), -2);
        Check.same("text(greatest)", x.text(Integer.MAX_VALUE), -2);
        Check.same("the tape stays", x.text(n), 1);
        Check.same("its wind", x.count(7), 5);
    }

    /** What the tape has behind the n bytes isn't looked at. */
    private static void textOfAPart() {
        String[] texts = {"wind 50;", "house abc;", "law due 1<=2;", "law due 1<>2;"};
        int[] parts = {6, 8, 10, 10};
        for (int i = 0; i < texts.length; i++) {
            NoseCensus x = new NoseCensus();
            Check.fed(x, texts[i]);
            Check.same("a part of " + texts[i], x.text(parts[i]), NoseCensus.NONE);
            Check.same("fault of a part of " + texts[i], x.fault(0), 1);
            Check.same("place in a part of " + texts[i], x.fault(1), parts[i]);
        }
        NoseCensus x = new NoseCensus();
        Check.fed(x, "wind 5;0");
        Check.same("up to the sign", x.text(7), 1);
    }

    private static void textForgetsTheOneAhead() {
        NoseCensus x = new NoseCensus();
        String full = "house a;person p a 1 3;coat a 2 5;dish a 2;dog d a 1;wind 9;tax 9;seed 9;"
                + "law smell 7;law nose kind=1;law due 77;";
        String bare = "house a;person p a 1 3;coat a 2 5;dog d a 1;";
        for (int i = 0; i < 3; i++) {
            Check.same("the full text", Check.told(x, full), 11);
            Check.same("due by its law", x.house(0, 3), 77);
            Check.same("the bare text", Check.told(x, bare), 4);
            Check.same("knots of no laws", x.count(5), 0);
            Check.same("no law of smell", x.person(0, 4), 3);
            Check.same("no law of nose", x.smells(0, 0), 6);
            Check.same("no law of due", x.house(0, 3), 4);
            Check.same("no dish", x.house(0, 0), 0);
            Check.same("no wind", x.count(7), 0);
        }
    }

    private static void fault() {
        NoseCensus x = new NoseCensus();
        Check.told(x, "wind 5;tax x;");
        x.text(99);
        Check.same("fault(0)", x.fault(0), 1);
        Check.same("fault(1)", x.fault(1), 11);
        Check.same("fault(2)", x.fault(2), NoseCensus.NONE);
        Check.same("fault(-1)", x.fault(-1), NoseCensus.NONE);
        Check.told(x, "wind 5;");
        Check.same("fault(0) without", x.fault(0), 0);
        Check.same("fault(1) without", x.fault(1), NoseCensus.NONE);
    }

    private static void named() {
        NoseCensus x = Check.town("house a;house abcdef;house z;person a z 0 1;person bo z 0 1;dog z a 1;");
        Check.same("named house a", x.named(0, 1 << 25), 0);
        Check.same("named house abcdef", x.named(0, Check.letters("abcdef")), 1);
        Check.same("named house z", x.named(0, 26 << 25), 2);
        Check.same("named house bo", x.named(0, Check.letters("bo")), NoseCensus.NONE);
        Check.same("named person bo", x.named(1, Check.letters("bo")), 1);
        Check.same("named person z", x.named(1, Check.letters("z")), NoseCensus.NONE);
        Check.same("named dog z", x.named(2, Check.letters("z")), 0);
        Check.same("named dog a", x.named(2, Check.letters("a")), NoseCensus.NONE);
        Check.same("letters not at the front", x.named(0, 1), NoseCensus.NONE);
        Check.same("no letters", x.named(0, 0), NoseCensus.NONE);
        Check.same("abcde", x.named(0, Check.letters("abcde")), NoseCensus.NONE);
        Check.same("named(3)", x.named(3, 1 << 25), NoseCensus.NONE);
        Check.same("named(-1)", x.named(-1, 1 << 25), NoseCensus.NONE);
        Check.told(x, "");
        Check.same("named behind an empty text", x.named(0, 1 << 25), NoseCensus.NONE);
    }
}
