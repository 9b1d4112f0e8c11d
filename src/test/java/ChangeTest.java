/** Promises 13 to 19 and 38 to 40: what calls and years change, undone and as in an image. */
public final class ChangeTest {
    public static void main(String[] args) {
        move();
        wash();
        hang();
        cook();
        send();
        blow();
        years();
        yearsOfEvenings();
        undoEach();
        undoTwenty();
        undoAndYears();
        image();
        imageOfAll();
        Check.end();
    }

    private static void move() {
        NoseCensus x = Check.town(Check.ROW);
        Check.yes("move(0, 2)", x.move(0, 2));
        Check.same("where one moved", x.person(0, 0), 2);
        Check.same("true of the house left", x.house(0, 1), 1);
        Check.no("there already", x.move(0, 2));
        Check.no("move(3, 0)", x.move(3, 0));
        Check.no("move(-1, 0)", x.move(-1, 0));
        Check.no("move(0, 3)", x.move(0, 3));
        Check.no("move(0, -1)", x.move(0, -1));
        Check.same("only one to undo", x.count(13), 1);
    }

    private static void wash() {
        NoseCensus x = Check.town(Check.ROW);
        Check.no("unwashed already", x.wash(0, false));
        Check.yes("wash(1, true)", x.wash(1, true));
        Check.no("washed already", x.wash(1, true));
        Check.same("whether washed", x.person(1, 3), 1);
        Check.same("another one", x.person(0, 3), 0);
        Check.yes("wash(1, false)", x.wash(1, false));
        Check.same("no more", x.person(1, 3), 0);
        Check.no("wash(3, true)", x.wash(3, true));
        Check.no("wash(-1, true)", x.wash(-1, true));
        Check.same("two to undo", x.count(13), 2);
    }

    private static void hang() {
        NoseCensus x = Check.town("house a;" + "coat a 0 9;".repeat(8));
        Check.same("hang(1, 0, 1)", x.hang(1, 0, 1), -1);
        Check.same("hang(-1, 0, 1)", x.hang(-1, 0, 1), -1);
        Check.same("hang(0, 8, 1)", x.hang(0, 8, 1), -1);
        Check.same("hang(0, -1, 1)", x.hang(0, -1, 1), -1);
        Check.same("hang(0, 0, 0)", x.hang(0, 0, 0), -1);
        Check.same("hang(0, 0, 10)", x.hang(0, 0, 10), -1);
        Check.same("hang(0, 0, 1)", x.hang(0, 0, 1), 8);
        Check.same("hang(0, 7, 9)", x.hang(0, 7, 9), 9);
        x.years(1);
        Check.same("one that is none any more counts", x.hang(0, 1, 1), 10);
        Check.same("the twelfth", x.hang(0, 1, 1), 11);
        Check.same("there were 12", x.hang(0, 1, 1), -1);
        x.undo();
        Check.same("one undone was never", x.hang(0, 2, 3), 11);
        Check.same("its kind", x.coat(11, 1), 2);
        Check.same("its force", x.coat(11, 2), 3);
    }

    private static void cook() {
        NoseCensus x = Check.town(Check.ROW);
        Check.no("so already", x.cook(0, 2));
        Check.yes("cook(0, 99)", x.cook(0, 99));
        Check.same("dish", x.house(0, 0), 99);
        Check.yes("cook(0, 0)", x.cook(0, 0));
        Check.no("cook(0, 100)", x.cook(0, 100));
        Check.no("cook(0, -1)", x.cook(0, -1));
        Check.no("cook(3, 1)", x.cook(3, 1));
        Check.no("cook(-1, 1)", x.cook(-1, 1));
        Check.same("dish of another", x.house(1, 0), 0);
        x.years(1);
        Check.same("it stays", x.house(0, 0), 0);
    }

    private static void send() {
        NoseCensus x = Check.town(Check.ROW);
        Check.no("there already", x.send(1, 2));
        Check.yes("send(1, 0)", x.send(1, 0));
        Check.same("where it is", x.dog(1, 0), 0);
        Check.same("count of none there", x.house(2, 2), -1);
        Check.no("send(2, 0)", x.send(2, 0));
        Check.no("send(-1, 0)", x.send(-1, 0));
        Check.no("send(0, 3)", x.send(0, 3));
        Check.no("send(0, -1)", x.send(0, -1));
    }

    private static void blow() {
        NoseCensus x = Check.town(Check.ROW);
        Check.no("so already", x.blow(50));
        Check.yes("blow(100)", x.blow(100));
        Check.same("the wind", x.count(7), 100);
        Check.yes("blow(0)", x.blow(0));
        Check.no("blow(101)", x.blow(101));
        Check.no("blow(-1)", x.blow(-1));
        Check.yes("without houses too", new NoseCensus().blow(1));
    }

    private static void years() {
        NoseCensus x = new NoseCensus();
        Check.same("years(0)", x.years(0), 0);
        Check.same("years(-1)", x.years(-1), -1);
        Check.same("years(100)", x.years(100), -1);
        for (int i = 1; i <= 10; i++) {
            Check.same("years(99)", x.years(99), 99 * i);
        }
        Check.same("behind 999", x.years(10), -1);
        Check.same("none went by", x.count(6), 990);
        Check.same("the last one", x.years(9), 999);
        Check.same("years(1) behind it", x.years(1), -1);
        Check.same("years(0) there", x.years(0), 999);
    }

    private static void yearsOfEvenings() {
        NoseCensus x = Check.town("house a;house b;person p a 0 3;person q a 1 1;coat a 2 2;dog d a 1;"
                + "law due heads*10+year;");
        x.wash(1, true);
        Check.same("years(1)", x.years(1), 1);
        Check.same("paid in the first year", x.house(0, 4), 20);
        Check.same("unwashed then", x.person(1, 3), 0);
        Check.same("faded then", x.coat(0, 2), 1);
        Check.same("due in the second", x.house(0, 3), 31);
        x.years(1);
        Check.same("paid in two years", x.house(0, 4), 51);
        Check.same("none any more", x.count(3), 0);
        Check.same("due in the third", x.house(0, 3), 22);
        x.years(2);
        Check.same("paid in four years", x.house(0, 4), 96);
        Check.same("without a count none is paid", x.house(1, 4), 0);
        x.send(0, 1);
        x.years(1);
        Check.same("another pays", x.house(1, 4), 4);
        Check.same("paid in all", x.count(9), 100);
        Check.same("at 0 a coat stays", x.coat(0, 2), 0);
    }

    private static void undoEach() {
        NoseCensus x = Check.town(Check.ROW);
        Check.same("undo of none", x.undo(), -1);
        x.move(0, 1);
        x.move(0, 2);
        x.wash(1, true);
        x.wash(1, false);
        x.hang(1, 5, 6);
        x.cook(2, 77);
        x.send(0, 1);
        x.blow(3);
        Check.same("what can be undone", x.count(13), 8);
        Check.same("undo the wind", x.undo(), 7);
        Check.same("the wind", x.count(7), 50);
        Check.same("the dog is still sent", x.dog(0, 0), 1);
        Check.same("undo the dog", x.undo(), 6);
        Check.same("the dog", x.dog(0, 0), 0);
        Check.same("undo the dish", x.undo(), 5);
        Check.same("the dish", x.house(2, 0), 0);
        Check.same("undo the coat", x.undo(), 4);
        Check.same("no such coat", x.coat(1, 0), -1);
        Check.same("coats ever", x.count(2), 1);
        Check.same("undo no more washed", x.undo(), 3);
        Check.same("washed again", x.person(1, 3), 1);
        Check.same("undo washed", x.undo(), 2);
        Check.same("unwashed again", x.person(1, 3), 0);
        Check.same("undo a move", x.undo(), 1);
        Check.same("in the house between", x.person(0, 0), 1);
        Check.same("undo the first move", x.undo(), 0);
        Check.same("at home", x.person(0, 0), 0);
        Check.same("undo of none left", x.undo(), -1);
    }

    private static void undoTwenty() {
        NoseCensus x = Check.town(Check.ROW);
        for (int wind = 1; wind <= 25; wind++) {
            x.blow(wind);
            Check.same("can be undone behind " + wind, x.count(13), Math.min(wind, 20));
        }
        for (int left = 19; left >= 0; left--) {
            Check.same("undo", x.undo(), left);
        }
        Check.same("undo of the 21st", x.undo(), -1);
        Check.same("the wind twenty ahead", x.count(7), 5);
        for (int i = 0; i < 3; i++) {
            x.blow(60 + i);
            x.cook(i, 90 + i);
            x.move(i, 2);
            x.wash(i, true);
            x.send(i % 2, 1);
            x.hang(0, i, 1);
            x.cook(i, 80 + i);
            x.blow(70 + i);
        }
        Check.same("only twenty of different ones", x.count(13), 20);
        for (int left = 19; left >= 0; left--) {
            Check.same("undo of different ones", x.undo(), left);
        }
        Check.same("wind four behind", x.count(7), 60);
        Check.same("dish of the first", x.house(0, 0), 90);
        Check.same("dish of the second", x.house(1, 0), 0);
        Check.same("house of the first", x.person(0, 0), 2);
        Check.same("house of the second", x.person(1, 0), 0);
        Check.same("whether washed", x.count(10), x.person(0, 3));
        Check.same("coats told", x.count(2), 1);
        Check.same("the first dog", x.dog(0, 0), 0);
        Check.same("the second dog", x.dog(1, 0), 2);
    }

    private static void undoAndYears() {
        NoseCensus x = Check.town(Check.ROW);
        x.blow(1);
        x.years(0);
        Check.same("no year went by", x.count(13), 1);
        x.years(-1);
        x.years(100);
        Check.same("none went by by these either", x.count(13), 1);
        x.years(1);
        Check.same("a year went by", x.count(13), 0);
        Check.same("undo then", x.undo(), -1);
        Check.same("the wind then", x.count(7), 1);
        x.blow(2);
        x.keep();
        Check.same("undo behind an image", x.undo(), 0);
        Check.same("the wind behind it", x.count(7), 1);
    }

    private static void image() {
        NoseCensus x = Check.town(Check.ROW);
        Check.same("back without", x.back(), -1);
        x.years(3);
        Check.same("keep", x.keep(), 3);
        x.years(2);
        x.blow(1);
        Check.same("back", x.back(), 3);
        Check.same("nothing to undo then", x.count(13), 0);
        Check.same("the year", x.count(6), 3);
        x.years(1);
        Check.same("back again", x.back(), 3);
        x.years(4);
        Check.same("keep in place of one ahead", x.keep(), 7);
        x.years(1);
        Check.same("back to the later one", x.back(), 7);
        NoseCensus empty = new NoseCensus();
        Check.same("keep of none", empty.keep(), 0);
        Check.same("back to none", empty.back(), 0);
    }

    private static void imageOfAll() {
        NoseCensus x = Check.town(Check.ROW);
        x.years(1);
        x.wash(1, true);
        x.hang(1, 5, 2);
        x.note(0, 0, 1, true);
        x.keep();
        x.move(0, 2);
        x.wash(1, false);
        x.wash(2, true);
        x.hang(0, 0, 1);
        x.cook(1, 9);
        x.send(1, 1);
        x.blow(7);
        x.note(0, 0, 2, true);
        x.years(2);
        x.back();
        Check.same("person moved", x.person(0, 0), 0);
        Check.same("person washed", x.person(1, 3), 1);
        Check.same("person unwashed", x.person(2, 3), 0);
        Check.same("coats ever", x.count(2), 2);
        Check.same("coats faded", x.coat(1, 2), 2);
        Check.same("a coat told", x.coat(0, 2), 5);
        Check.same("dish", x.house(1, 0), 0);
        Check.same("dog", x.dog(1, 0), 2);
        Check.same("wind", x.count(7), 50);
        Check.same("paid by the inn", x.house(0, 4), 6);
        Check.same("paid in all", x.count(9), 9);
        Check.same("notes stay", x.count(11), 2);
    }
}
