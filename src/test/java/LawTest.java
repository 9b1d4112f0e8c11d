/** How an E is worked out, what its NAMES are, and promise 12: law. */
public final class LawTest {
    private static final long ERROR = Long.MIN_VALUE;
    private static final String MILLION_TIMES_MILLION = "1000*1000*1000*1000";

    public static void main(String[] args) {
        arithmetic();
        comparisons();
        errors();
        namesOfSmell();
        namesOfNose();
        namesOfDue();
        noSuchLaw();
        bounds();
        withoutAndWithError();
        Check.end();
    }

    private static void worth(String e, long due) {
        NoseCensus x = Check.town("house a;dog d a 1;law due " + e + ";");
        Check.same("worth of " + e, x.law(2, 0, 0), due);
    }

    private static void arithmetic() {
        worth("7", 7);
        worth("1+2*3", 7);
        worth("(1+2)*3", 9);
        worth("10-3-2", 5);
        worth("10-(3-2)", 9);
        worth("100/10/2", 5);
        worth("100/(10/2)", 20);
        worth("7/2*2", 6);
        worth("2*7/4", 3);
        worth("0-7", -7);
        worth("(0-7)/2", -3);
        worth("7/(0-2)", -3);
        worth("(0-7)/(0-2)", 3);
        worth("1-2*3+4", -1);
        worth("9999*9999*9999", 999700029999L);
    }

    private static void comparisons() {
        worth("1<2", 1);
        worth("2<2", 0);
        worth("2<=2", 1);
        worth("3<=2", 0);
        worth("2=2", 1);
        worth("2=3", 0);
        worth("2<>2", 0);
        worth("2<>3", 1);
        worth("2>=2", 1);
        worth("1>=2", 0);
        worth("3>2", 1);
        worth("2>2", 0);
        worth("1+1=2", 1);
        worth("5 and 7", 1);
        worth("5 and 0", 0);
        worth("0 or 9", 1);
        worth("0 or 0", 0);
        worth("0-3 or 0", 1);
        worth("not 5", 0);
        worth("not 0", 1);
        worth("not not 7", 1);
        worth("not 1=2", 1);
        worth("not 1+1", 0);
        worth("not 0 and 0", 0);
        worth("not (0 and 0)", 1);
        worth("1 or 0 and 0", 1);
        worth("(1 or 0) and 0", 0);
        worth("(1<2)+(2<3)", 2);
        worth("1<2 and 2<3", 1);
    }

    private static void errors() {
        worth("1/0", ERROR);
        worth("0/0", ERROR);
        worth("0 and 1/0", ERROR);
        worth("1 or 1/0", ERROR);
        worth("1/0*0", ERROR);
        worth(MILLION_TIMES_MILLION, 1000000000000L);
        worth(MILLION_TIMES_MILLION + "+1", ERROR);
        worth(MILLION_TIMES_MILLION + "+1-1", ERROR);
        worth("0-" + MILLION_TIMES_MILLION, -1000000000000L);
        worth("0-" + MILLION_TIMES_MILLION + "-1", ERROR);
        worth("(0-1000)*1000*1000*1000", -1000000000000L);
        worth("(0-1000)*1000*1000*1001", ERROR);
        worth(MILLION_TIMES_MILLION + "*2", ERROR);
        worth("(" + MILLION_TIMES_MILLION + ")*(" + MILLION_TIMES_MILLION + ")", ERROR);
        worth("(" + MILLION_TIMES_MILLION + ")*(0-" + MILLION_TIMES_MILLION + ")", ERROR);
        worth("(" + MILLION_TIMES_MILLION + ")*0", 0);
        worth("0*(" + MILLION_TIMES_MILLION + ")", 0);
        worth("(" + MILLION_TIMES_MILLION + ")/1", 1000000000000L);
        worth("1+(" + MILLION_TIMES_MILLION + "-1)", 1000000000000L);
        worth("1000+" + MILLION_TIMES_MILLION + "-1", ERROR);
        worth("(0-1)+(1-" + MILLION_TIMES_MILLION + ")", -1000000000000L);
        worth("(0-2)+(1-" + MILLION_TIMES_MILLION + ")", ERROR);
        worth("1-(1-" + MILLION_TIMES_MILLION + ")", 1000000000000L);
        worth("2-(1-" + MILLION_TIMES_MILLION + ")", ERROR);
        worth("1-" + MILLION_TIMES_MILLION + "+1", 2 - 1000000000000L);
        worth("1" + "+1".repeat(30) + "=31", 1);
    }

    private static NoseCensus town(String law) {
        NoseCensus x = Check.town("house a;house b;person p b 3 4;coat b 3 2;dish b 1;dog d b 5;" + law);
        x.years(1);
        return x;
    }

    private static void namesOfSmell() {
        String[] names = {"force", "kind", "heads", "dish", "air", "place", "year"};
        int[] due = {4, 3, 0, 1, 0, 1, 1};
        for (int i = 0; i < names.length; i++) {
            Check.same("smell " + names[i], town("law smell " + names[i] + ";").law(0, 0, 99), due[i]);
        }
        NoseCensus x = town("law smell force+10*place+20*dish;");
        x.wash(0, true);
        Check.same("smell where one is", x.law(0, 0, 0), 34);
        x.move(0, 0);
        Check.same("smell where one moved", x.law(0, 0, 0), 4);
        Check.same("person(0, 4) there", x.person(0, 4), 4);
    }

    private static void namesOfNose() {
        String[] names = {"force", "kind", "heads", "dish", "air", "place", "year"};
        int[] due = {5, 3, 0, 1, 5, 1, 1};
        int[] dueOfOther = {5, 2, 0, 1, 0, 1, 1};
        for (int i = 0; i < names.length; i++) {
            NoseCensus x = town("law nose " + names[i] + ";");
            Check.same("nose " + names[i], x.law(1, 0, 3), due[i]);
            Check.same("nose of kind 2 " + names[i], x.law(1, 0, 2), dueOfOther[i]);
        }
        NoseCensus x = town("law nose place+10*air;");
        x.send(0, 0);
        Check.same("nose where it is", x.law(1, 0, 3), 0);
    }

    private static void namesOfDue() {
        String[] names = {"force", "kind", "heads", "dish", "air", "place", "year"};
        int[] due = {0, 0, 1, 1, 0, 1, 1};
        for (int i = 0; i < names.length; i++) {
            Check.same("due " + names[i], town("law due " + names[i] + ";").law(2, 1, 99), due[i]);
        }
    }

    private static void noSuchLaw() {
        NoseCensus x = town("law smell 1;law nose 1;law due 1;");
        Check.same("law(0, 1, 0)", x.law(0, 1, 0), ERROR);
        Check.same("law(0, -1, 0)", x.law(0, -1, 0), ERROR);
        Check.same("law(1, 1, 0)", x.law(1, 1, 0), ERROR);
        Check.same("law(1, -1, 0)", x.law(1, -1, 0), ERROR);
        Check.same("law(1, 0, 8)", x.law(1, 0, 8), ERROR);
        Check.same("law(1, 0, -1)", x.law(1, 0, -1), ERROR);
        Check.same("law(1, 0, 7)", x.law(1, 0, 7), 1);
        Check.same("law(2, 0, 0) without a count", x.law(2, 0, 0), ERROR);
        Check.same("law(2, 2, 0)", x.law(2, 2, 0), ERROR);
        Check.same("law(2, -1, 0)", x.law(2, -1, 0), ERROR);
        Check.same("law(3, 0, 0)", x.law(3, 0, 0), ERROR);
        Check.same("law(-1, 0, 0)", x.law(-1, 0, 0), ERROR);
        NoseCensus none = town("");
        for (int what = 0; what <= 2; what++) {
            Check.same("law(" + what + ") untold", none.law(what, what == 2 ? 1 : 0, 0), ERROR);
        }
    }

    private static void bounds() {
        NoseCensus x = town("law smell 100;law due 1000;");
        Check.same("law of smell unbounded", x.law(0, 0, 0), 100);
        Check.same("smell at most 99", x.person(0, 4), 99);
        Check.same("law of due unbounded", x.law(2, 1, 0), 1000);
        Check.same("due at most 999", x.house(1, 3), 999);
        x = town("law smell 99;law due 999;");
        Check.same("smell of 99", x.person(0, 4), 99);
        Check.same("due of 999", x.house(1, 3), 999);
        x = town("law smell 0-1;law due 0-1;");
        Check.same("law of smell below 0", x.law(0, 0, 0), -1);
        Check.same("smell at least 0", x.person(0, 4), 0);
        Check.same("due at least 0", x.house(1, 3), 0);
    }

    private static void withoutAndWithError() {
        NoseCensus x = town("tax 7;law smell 1/heads;law nose air/heads;law due 1/force;");
        Check.same("smell with an error", x.person(0, 4), 4);
        Check.same("nose with an error, enough air", x.smells(0, 1), 8);
        Check.same("due with an error", x.house(1, 3), 7);
        x.wash(0, true);
        Check.same("nose with an error, not enough air", x.smells(0, 1), 0);
        x = town("law nose 0-1;");
        Check.same("a nose below 0 isn't 0", x.smells(0, 1), 8);
        x.cook(1, 5);
        Check.same("air must be above the dish", x.smells(0, 1), 0);
        x.cook(1, 4);
        Check.same("air just above the dish", x.smells(0, 1), 8);
        x = town("law nose 0;");
        Check.same("a nose of 0", x.smells(0, 1), 0);
        // All 64 knots in three laws, the last of them at the very end of their row.
        x = town("law due heads*500" + "+1".repeat(26) + ";law smell 1+2*3;law nose not air<5;");
        Check.same("64 knots", x.count(5), 64);
        Check.same("smell of 64 knots", x.law(0, 0, 0), 7);
        Check.same("nose of 64 knots", x.law(1, 0, 3), 1);
        Check.same("due of 64 knots", x.law(2, 1, 0), 526);
    }
}
