/** The faults of a TEXT and their places, and texts that have none. */
public final class FaultTest {
    private static final int CANT_STAND = 1;
    private static final int TOO_MUCH = 2;
    private static final int TOLD = 3;
    private static final int UNTOLD = 4;

    public static void main(String[] args) {
        tokens();
        lines();
        numbers();
        limits();
        toldAlready();
        houses();
        laws();
        signs();
        knots();
        firstAlong();
        Check.end();
    }

    private static void faulty(String text, int fault, int place) {
        Check.faulty(text, fault, place);
    }

    private static void fine(String text) {
        Check.fine(text);
    }

    private static void tokens() {
        fine("");
        fine("  \n\n ");
        fine("\n house\na ;\n\nwind5;tax\n7 ; ");
        fine("house abcdef;");
        faulty("house abcdefg;", CANT_STAND, 6);
        faulty("persons a;", CANT_STAND, 0);
        faulty("House a;", CANT_STAND, 0);
        faulty("house A;", CANT_STAND, 6);
        faulty("house a;\thouse b;", CANT_STAND, 8);
        faulty("house a;\rhouse b;", CANT_STAND, 8);
        faulty("house a,", CANT_STAND, 7);
        faulty("house " + (char) 233 + ";", CANT_STAND, 6);
        faulty("house a;" + (char) 0, CANT_STAND, 8);
        faulty("wind 5.;", CANT_STAND, 6);
        faulty("wind -5;", CANT_STAND, 5);
    }

    private static void lines() {
        faulty(";", CANT_STAND, 0);
        faulty("house a;;", CANT_STAND, 8);
        faulty("a", CANT_STAND, 0);
        faulty("7", CANT_STAND, 0);
        faulty("smell 1;", CANT_STAND, 0);
        faulty("not;", CANT_STAND, 0);
        faulty("house", CANT_STAND, 5);
        faulty("house a", CANT_STAND, 7);
        faulty("house a  ", CANT_STAND, 9);
        faulty("house;", CANT_STAND, 5);
        faulty("house 5;", CANT_STAND, 6);
        for (String word : new String[] {"house", "person", "coat", "dish", "dog", "wind", "tax", "seed", "law",
            "smell", "nose", "due", "or", "and", "not", "force", "kind", "heads", "air", "place", "year"}) {
            faulty("house " + word + ";", CANT_STAND, 6);
        }
        faulty("house a b;", CANT_STAND, 8);
        faulty("house a;person p;", CANT_STAND, 16);
        faulty("house a;person p a;", CANT_STAND, 18);
        faulty("house a;person p a 0;", CANT_STAND, 20);
        faulty("house a;person p a 0 1 2;", CANT_STAND, 23);
        faulty("house a;person p 3 0 1;", CANT_STAND, 17);
        faulty("house a;coat a 0;", CANT_STAND, 16);
        faulty("house a;coat a b 1;", CANT_STAND, 15);
        faulty("house a;dish a;", CANT_STAND, 14);
        faulty("house a;dish dish 1;", CANT_STAND, 13);
        faulty("house a;dog d a;", CANT_STAND, 15);
        faulty("house a;dog d a x;", CANT_STAND, 16);
        faulty("wind;", CANT_STAND, 4);
        faulty("tax a;", CANT_STAND, 4);
        faulty("seed", CANT_STAND, 4);
        faulty("law;", CANT_STAND, 3);
        faulty("law wind 1;", CANT_STAND, 4);
        faulty("law a 1;", CANT_STAND, 4);
        faulty("law smell;", CANT_STAND, 9);
        faulty("law smell 1", CANT_STAND, 11);
    }

    private static void numbers() {
        fine("house a;person p a 0 1;person q a 7 9;coat a 0 1;coat a 7 9;dish a 0;dog d a 1;dog e a 9;");
        fine("house a;dish a 9;wind 100;tax 99;seed 99999;");
        fine("wind 0;tax 0;seed 0;law smell 9999;law nose 0;");
        fine("wind 00000000000000000000100;");
        faulty("house a;person p a 8 1;", TOO_MUCH, 19);
        faulty("house a;person p a 0 0;", TOO_MUCH, 21);
        faulty("house a;person p a 0 10;", TOO_MUCH, 21);
        faulty("house a;coat a 8 1;", TOO_MUCH, 15);
        faulty("house a;coat a 0 0;", TOO_MUCH, 17);
        faulty("house a;coat a 0 10;", TOO_MUCH, 17);
        faulty("house a;dish a 10;", TOO_MUCH, 15);
        faulty("house a;dog d a 0;", TOO_MUCH, 16);
        faulty("house a;dog d a 10;", TOO_MUCH, 16);
        faulty("wind 101;", TOO_MUCH, 5);
        faulty("tax 100;", TOO_MUCH, 4);
        faulty("seed 100000;", TOO_MUCH, 5);
        faulty("law smell 10000;", TOO_MUCH, 10);
        faulty("wind 4294967296;", TOO_MUCH, 5);
        faulty("wind 18446744073709551616;", TOO_MUCH, 5);
        faulty("law due 4294967297;", TOO_MUCH, 8);
    }

    private static String many(int n, String front, String back) {
        StringBuilder text = new StringBuilder();
        for (int i = 0; i < n; i++) {
            text.append(front).append((char) ('a' + i)).append(back);
        }
        return text.toString();
    }

    private static void limits() {
        String houses = many(7, "house ", ";");
        fine(houses);
        faulty(houses + "house h;", TOO_MUCH, houses.length());
        faulty(houses + " house house;", TOO_MUCH, houses.length() + 1);
        faulty(houses + "house a;", TOO_MUCH, houses.length());
        String people = "house a;" + many(9, "person ", " a 0 1;");
        fine(people);
        faulty(people + "person j a 0 1;", TOO_MUCH, people.length());
        String coats = "house a;" + "coat a 0 1;".repeat(8);
        fine(coats);
        faulty(coats + "coat a 0 1;", TOO_MUCH, coats.length());
        String dogs = "house a;" + many(3, "dog ", " a 1;");
        fine(dogs);
        faulty(dogs + "dog d a 1;", TOO_MUCH, dogs.length());
    }

    private static void toldAlready() {
        fine("house a;person a a 0 1;dog a a 1;house b;person b a 0 1;dog b b 1;");
        faulty("house a;house b;house a;", TOLD, 22);
        faulty("house a;person p a 0 1;person p a 0 1;", TOLD, 30);
        faulty("house a;dog d a 1;dog d a 1;", TOLD, 22);
        faulty("house a;dish a 1;dish a 1;", TOLD, 22);
        fine("house a;house b;dish a 1;dish b 1;");
        faulty("house a;dish a 0;dish a 1;", TOLD, 22);
        faulty("wind 0;wind 1;", TOLD, 7);
        faulty("tax 0;tax 1;", TOLD, 6);
        faulty("seed 0;seed 1;", TOLD, 7);
        faulty("law smell 1;law smell 1;", TOLD, 16);
        faulty("law nose 1;law nose 1;", TOLD, 15);
        faulty("law due 1;law due 1;", TOLD, 14);
        fine("law due 1;law smell 1;law nose 1;");
    }

    private static void houses() {
        faulty("person p a 0 1;house a;", UNTOLD, 9);
        faulty("coat a 0 1;", UNTOLD, 5);
        faulty("house a;dish b 1;", UNTOLD, 13);
        faulty("house a;dog d d 1;", UNTOLD, 14);
        faulty("house a;person b a 0 1;coat b 0 1;", UNTOLD, 28);
    }

    private static void laws() {
        fine("law smell force+kind-heads*dish/air+place;law nose year;");
        faulty("law smell inn;", CANT_STAND, 10);
        faulty("law smell smell;", CANT_STAND, 10);
        faulty("law smell ();", CANT_STAND, 11);
        faulty("law smell (1;", CANT_STAND, 12);
        faulty("law smell (1", CANT_STAND, 12);
        faulty("law smell 1);", CANT_STAND, 11);
        faulty("law smell 1 2;", CANT_STAND, 12);
        faulty("law smell 1+;", CANT_STAND, 12);
        faulty("law smell +1;", CANT_STAND, 10);
        faulty("law smell 1*/2;", CANT_STAND, 12);
        faulty("law smell 1 and or 2;", CANT_STAND, 16);
        faulty("law smell 1 or;", CANT_STAND, 14);
        faulty("law smell not;", CANT_STAND, 13);
        faulty("law smell 1 not 2;", CANT_STAND, 12);
        faulty("law smell 1+not 2;", CANT_STAND, 12);
        faulty("law smell 1<not 2;", CANT_STAND, 12);
        faulty("law smell 1<2<3;", CANT_STAND, 13);
        faulty("law smell 1=2=3;", CANT_STAND, 13);
        fine("law smell not not 1 and not 2<3 or not (1<2)<3;");
        fine("law smell ((((((((1))))))))+((1));");
        faulty("law smell (((((((((1)))))))));", TOO_MUCH, 18);
        faulty("law smell ((((((((1+(2)))))))));", TOO_MUCH, 20);
        faulty("law smell 1 ((((((((((;", CANT_STAND, 12);
    }

    private static void signs() {
        fine("law smell 1<2;law nose 1<=2;law due 1=2;");
        fine("law smell 1<>2;law nose 1>=2;law due 1>2;");
        faulty("law smell 1< =2;", CANT_STAND, 13);
        faulty("law smell 1> =2;", CANT_STAND, 13);
        faulty("law smell 1< >2;", CANT_STAND, 13);
        faulty("law smell 1=<2;", CANT_STAND, 12);
        faulty("law smell 1=>2;", CANT_STAND, 12);
        faulty("law smell 1==2;", CANT_STAND, 12);
        faulty("law smell 1><2;", CANT_STAND, 12);
        faulty("law smell 1>>2;", CANT_STAND, 12);
        faulty("law smell 1<=>2;", CANT_STAND, 13);
        faulty("law smell 1<>=2;", CANT_STAND, 13);
        faulty("law smell 1<", CANT_STAND, 12);
        faulty("law smell 1!2;", CANT_STAND, 11);
    }

    private static void knots() {
        String sum = "1" + "+1".repeat(31);
        String full = "law smell not " + sum + ";";
        NoseCensus x = Check.town(full);
        Check.same("64 knots", x.count(5), 64);
        faulty(full + "law due 1;", TOO_MUCH, full.length() + 8);
        faulty(full + "law due year;", TOO_MUCH, full.length() + 8);
        faulty(full + "law due not 1;", TOO_MUCH, full.length() + 8);
        faulty(full + "law due (((1)));", TOO_MUCH, full.length() + 11);
        faulty(full + "law due ;", CANT_STAND, full.length() + 8);
        faulty(full + "law due 10000;", TOO_MUCH, full.length() + 8);
        String open = "law smell not " + sum;
        for (String sign : new String[] {"+", "*", "<", "<=", "<>", " and ", " or "}) {
            int place = open.length() + (sign.charAt(0) == ' ' ? 1 : 0);
            faulty(open + sign + "1;", TOO_MUCH, place);
        }
        faulty(open + "(", CANT_STAND, open.length());
        faulty("law nose " + "not ".repeat(65) + "1;", TOO_MUCH, 9 + 4 * 64);
        Check.same("knots of brackets", Check.town("law due ((1)+(2));").count(5), 3);
        Check.same("knots of not, and, or", Check.town("law due not 1 and 2 or 3<=4;").count(5), 8);
    }

    private static void firstAlong() {
        faulty("house a;wind 101;house a;", TOO_MUCH, 13);
        faulty("house a;house a;#", TOLD, 14);
        faulty("house a;person p b 9 0;", UNTOLD, 17);
        faulty("house a;person p a 9 0;", TOO_MUCH, 19);
        faulty("wind 1;wind x;", TOLD, 7);
        faulty("law due 1;law due ;", TOLD, 14);
    }
}
