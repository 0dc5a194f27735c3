/** Promises 1 to 7: a new object, feed, town, fault, person, worth, grown. */
public final class TownTest {
    private static final int NO_SUCH = -99000002;
    private static final int BAD_NUMBER = -99000003;
    private static final int NOT_NOW = -99000005;

    public static void main(String[] args) {
        newObject();
        feed();
        town();
        townKeepsAllWithAFault();
        townCutsTheText();
        faults();
        faultsOfLaws();
        tokens();
        laterOnesStrike();
        person();
        worth();
        sums();
        truths();
        deepest();
        grown();
        Due.end();
    }

    // 1
    private static void newObject() {
        SecondLife x = new SecondLife();
        int[] due = {1, 1, 0, 0, 0, 0, 0, 0, 0, 0};
        for (int what = 0; what < due.length; what++) {
            Due.is("new count " + what, x.count(what), due[what]);
        }
        Due.is("new fault(0)", x.fault(0), 0);
        Due.is("new fault(1)", x.fault(1), -1);
        Due.is("new person", x.person(0, 0), NO_SUCH);
        Due.is("new tray", x.write(0, 0, 0), -99000006);
        Due.is("new image", x.restore(1), NOT_NOW);
    }

    // 2
    private static void feed() {
        SecondLife x = new SecondLife();
        for (int k = 1; k <= 45; k++) {
            Due.is("feed " + k, x.feed(0, 0, 0, 0, 0), 20 * k);
        }
        Due.is("feed 46", x.feed(0, 0, 0, 0, 0), NOT_NOW);
        Due.is("count(8)", x.count(8), 900);
        Due.is("town of 900", x.town(900), -99000031);
        Due.is("the tape is empty", x.count(8), 0);
        // the highest byte of each int first: 't' 'o' 'w' 'n' ...
        Due.is("feed town", x.feed(0x746f776e, 0x20796561, 0x72732033, 0x20747261, 0x64657320), 20);
        Due.is("feed 2;", x.feed(0x323b2020, 0x20202020, 0x20202020, 0x20202020, 0x20202020), 40);
        Due.is("town", x.town(40), 1);
        Due.is("years", x.count(0), 3);
        Due.is("trades", x.count(1), 2);
    }

    // 3
    private static void town() {
        SecondLife x = new SecondLife();
        int n = Due.feed(x, "town years 2 trades 3;person;cash 7;");
        Due.is("town(-1)", x.town(-1), BAD_NUMBER);
        Due.is("town(61)", x.town(x.count(8) + 1), BAD_NUMBER);
        Due.is("the tape stays", x.count(8), 40);
        Due.is("town", x.town(n), 3);
        Due.is("the tape", x.count(8), 0);
        Due.is("town(1)", x.town(1), BAD_NUMBER);
        Due.is("town(0)", x.town(0), -99000032);
        Due.is("lines", x.count(9), 3);
        x.live(0, 1);
        Due.is("can be undone", x.count(7), 1);
        Due.is("anew", Due.tell(x, "town years 2 trades 3;person;person;"), 3);
        Due.is("can't be undone", x.count(7), 0);
        Due.is("year", x.person(0, 0), 0);
        Due.is("cash", x.count(3), 0);
        Due.feed(x, "town years 1 trades 1;person;");
        Due.is("only the head", x.town(22), 1);
        Due.is("no people", x.count(2), 0);
    }

    private static void townKeepsAllWithAFault() {
        SecondLife x = Due.town("town years 4 trades 2;person talent 3;cash 9;");
        x.live(0, 1);
        x.pledge(0, 4);
        Due.is("faulty", Due.tell(x, "town years 2 trades 2;person;person;cash 3;oops"), -99000032);
        Due.is("years", x.count(0), 4);
        Due.is("people", x.count(2), 1);
        Due.is("cash", x.count(3), 5);
        Due.is("lines", x.count(9), 3);
        Due.is("undone", x.count(7), 2);
        Due.is("the tape", x.count(8), 0);
        Due.is("talent", x.person(0, 6), 3);
    }

    /** What stands behind the first n bytes is none of the text, even within a token. */
    private static void townCutsTheText() {
        SecondLife x = new SecondLife();
        Due.feed(x, "town years 1 trades 1;personal");
        Due.is("cut within a word", x.town(28), -99000032);
        Due.is("at the end", x.fault(1), 28);
        Due.feed(x, "town years 1 trades 1;cash 1234;");
        Due.is("cut within digits", x.town(30), -99000032);
        Due.is("at the end", x.fault(1), 30);
        Due.feed(x, "town years 1 trades 12;");
        Due.is("cut behind a digit", x.town(21), -99000032);
        Due.is("at the end", x.fault(1), 21);
        Due.feed(x, "town years 1 trades 1;  x");
        Due.is("cut behind blanks", x.town(24), 1);
    }

    // 4
    private static void fault(String text, int kind, int place) {
        SecondLife x = new SecondLife();
        Due.is("town: " + text, Due.tell(x, text), -99000030 - kind);
        Due.is("fault(0): " + text, x.fault(0), kind);
        Due.is("fault(1): " + text, x.fault(1), place);
    }

    private static void faults() {
        SecondLife x = Due.town("town years 1 trades 1;");
        Due.is("no fault", x.fault(0), 0);
        Due.is("no place", x.fault(1), -1);
        Due.is("fault(2)", x.fault(2), -1);
        Due.is("fault(-1)", x.fault(-1), -1);
        Due.tell(x, "town years 9");
        x.town(99);
        Due.is("a town that wasn't read", x.fault(0), 3);
        Due.is("its place", x.fault(1), 11);
        Due.tell(x, "town years 1 trades 1;");
        Due.is("mended", x.fault(0), 0);
        Due.is("mended place", x.fault(1), -1);
        fault(" \n ", 2, 3);
        fault("Town", 1, 0);
        fault("town years 1 trades 0;", 3, 20);
        fault("town years 1 trades 1;  ;", 2, 24);
        fault("town years 1 trades 1  ", 2, 23);
        fault("town years 1 trades 1;person;town years 1 trades 1;", 2, 29);
        fault("town years trades 1 1;", 2, 11);
        fault("town years 1 trades 1;person fear 10;", 3, 34);
        fault("town years 1 trades 1;person talent talent 1;", 2, 36);
        fault("town years 1 trades 1;cash 0000;", 1, 27);
        fault("town years 1 trades 1;cash x;", 2, 27);
        fault("town years 1 trades 1;dies 11;?", 3, 27);
        fault("town years 1 trades 1;dies ?11;", 1, 27);
        fault("town years 1 trades 1;\tperson;", 1, 22);
        fault("town years 1 trades 1;" + "person;".repeat(6) + "person 1234;", 4, 64);
    }

    private static void faultsOfLaws() {
        String head = "town years 1 trades 1;";
        fault(head + "worth 1;", 2, 28);
        fault(head + "worth : years;", 2, 30);
        fault(head + "grows : trade;", 2, 30);
        fault(head + "grows : last;", 2, 30);
        fault(head + "grows : streak;", 2, 30);
        fault(head + "grows : old;", 2, 30);
        fault(head + "grows : talent year;", 2, 37);
        fault(head + "worth : 1 +;", 2, 33);
        fault(head + "worth : 1 = 1;", 2, 32);
        fault(head + "worth : - 1;", 2, 30);
        fault(head + "worth : [ 1 ];", 2, 30);
        fault(head + "worth : not 1;", 2, 30);
        fault(head + "worth : if 1 then 2 else 3 end;", 2, 35);
        fault(head + "worth : if 1 = 1 = 1 then 2 else 3 end;", 2, 39);
        fault(head + "worth : if [ 1 = 1 ) then 2 else 3 end;", 2, 41);
        fault(head + "worth : if 1 = 1 then 2 end;", 2, 46);
        fault(head + "worth : ((((((1))))));worth : ((((((1)) + ((((((2;", 4, 66);
        fault(head + "worth : ((((((if;", 4, 36);
        fault(head + "worth : ((((((1(;", 2, 37);
        fault(head + "worth : if not not not not not not 1 = 1 then 1 else 2 end;", 4, 53);
        fault(head + "worth : if [[[[[[ 1 = 1", 4, 38);
        fault(head + "worth : if not [ not [ ( if not", 4, 47);
        fault(head + "worth : 1000;", 1, 30);
        fault(head + "worth : if 1 = ((((((1", 4, 42);
        fault(head + "worth : if 1 = 1 then ((((((1", 4, 49);
        fault(head + "worth : if 1 = 1 then 1 else ((((((1", 4, 56);
        fault(head + "worth : if [[[[[ 1 < (1", 4, 43);
        fault(head + "worth : (((((if 1 = 1 and not 1", 4, 48);
        fault(head + "worth : (((((if 1 = 1 or [ 1", 4, 47);
    }

    private static void tokens() {
        Due.is("no blanks", Due.tell(new SecondLife(), "town years1trades2;person talent3fear4;"), 2);
        Due.is("many blanks", Due.tell(new SecondLife(), "\n town\n\nyears 001 trades\n4 ; cash 9 ; \n"), 2);
        SecondLife x = Due.town("town years 1 trades 1;worth:if 1=1and not[2<1]then(3)*2-1else 0end;person;");
        Due.is("close law", x.worth(0, 0), 5);
    }

    private static void laterOnesStrike() {
        SecondLife x = Due.town("town years 6 trades 4;person talent 9 talent 8 fear 3 fear 2;cash 9;cash 999;dies 9;dies 0;"
                + "worth : 1;worth : 2;grows : 3;grows : 4;");
        Due.is("lines", x.count(9), 10);
        Due.is("talent", x.person(0, 6), 8);
        Due.is("fear", x.person(0, 7), 2);
        Due.is("cash", x.count(3), 999);
        Due.is("worth", x.worth(0, 0), 2);
        Due.is("grown", x.grown(0), 4);
        Due.is("nobody dies", x.mean(0, 0), 16);
    }

    // 5
    private static void person() {
        SecondLife x = Due.town("town years 3 trades 2;person talent 4 fear 6;person;cash 50;worth : trade + 2;grows : 1;");
        x.live(0, 1);
        x.live(0, 1);
        x.pledge(0, 20);
        int[] due = {2, 1, 26, 1, 2, 0, 4, 6, 20};
        for (int what = 0; what < 9; what++) {
            Due.is("person " + what, x.person(0, what), due[what]);
        }
        x.redeem(0);
        x.draw(0);
        int[] drawn = {1, 2, 6, 9, 0, 2, 4, 6, 0};
        for (int what = 0; what < 9; what++) {
            Due.is("drawn person " + what, x.person(0, what), drawn[what]);
        }
        int[] other = {0, 1, 0, 9, 0, 0, 0, 9, 0};
        for (int what = 0; what < 9; what++) {
            Due.is("other person " + what, x.person(1, what), other[what]);
        }
        Due.is("person(0, 9)", x.person(0, 9), NO_SUCH);
        Due.is("person(0, -1)", x.person(0, -1), NO_SUCH);
        Due.is("person(2, 0)", x.person(2, 0), NO_SUCH);
        Due.is("person(-1, 0)", x.person(-1, 0), NO_SUCH);
    }

    // 6
    private static void worth() {
        SecondLife x = Due.town("town years 2 trades 3;person talent 5;"
                + "worth : if trade = 0 then 100 else if trade = 1 then 0 - 100 else talent + streak * 2 + last - old end end;");
        Due.is("most", x.worth(0, 0), 9);
        Due.is("least", x.worth(0, 1), -9);
        Due.is("none yet", x.worth(0, 2), 9);
        x.live(0, 2);
        Due.is("last 2, streak 1", x.worth(0, 2), 9);
        x.talent(0, 0);
        Due.is("talent 0", x.worth(0, 2), 4);
        Due.is("nothing was lived", x.person(0, 0), 1);
        Due.is("worth(0, 3)", x.worth(0, 3), NO_SUCH);
        Due.is("worth(0, -1)", x.worth(0, -1), NO_SUCH);
        Due.is("worth(1, 0)", x.worth(1, 0), NO_SUCH);
        x.live(0, 2);
        Due.is("over", x.worth(0, 0), NOT_NOW);
        Due.is("over, no such", x.worth(0, 3), NO_SUCH);
        x.draw(0);
        Due.is("old 2", x.worth(0, 2), 7);
        Due.is("without a law", Due.town("town years 1 trades 1;person;").worth(0, 0), 1);
    }

    private static int sum(String law) {
        return Due.town("town years 6 trades 4;person talent 7;worth : " + law + ";").worth(0, 3);
    }

    private static void sums() {
        Due.is("from the left", sum("9 - 3 - 2"), 4);
        Due.is("* first", sum("1 + 2 * 3"), 7);
        Due.is("( first", sum("(1 + 2) * 3 - 1"), 8);
        Due.is("* from the left", sum("2 * 2 * 2 - 3"), 5);
        // 999 * 999 * 999 is kept at 1,000,000, and so is what is added
        Due.is("kept above", sum("999 * 999 * 999 + 999 - 999 * 999 - 999 - 999"), 1);
        Due.is("kept below", sum("0 - 999 * 999 - 999 - 999 - 999 + 999 * 999 + 999 + 999 + 3"), 2);
        Due.is("a product below", sum("(0 - 999) * 999 * 999 + 999 * 999 + 999 + 999 + 5"), 4);
        Due.is("facts", sum("talent - trade + year + life - last + streak + old + 5"), 1);
    }

    private static int truth(String law) {
        return sum("if " + law + " then 1 else 2 end");
    }

    private static void truths() {
        Due.is("=", truth("3 = 3"), 1);
        Due.is("= not", truth("3 = 4"), 2);
        Due.is("<", truth("3 < 4"), 1);
        Due.is("< same", truth("3 < 3"), 2);
        Due.is(">", truth("4 > 3"), 1);
        Due.is("> same", truth("3 > 3"), 2);
        Due.is("not", truth("not 3 = 4"), 1);
        Due.is("not not", truth("not not 3 = 4"), 2);
        Due.is("and before or", truth("1 = 1 or 1 = 1 and 1 = 2"), 1);
        Due.is("[ first", truth("[ 1 = 1 or 1 = 1 ] and 1 = 2"), 2);
        Due.is("not binds one", truth("not 1 = 1 or 1 = 1"), 1);
        Due.is("not [", truth("not [ 1 = 1 or 1 = 1 ]"), 2);
        Due.is("six within", truth("not not not not [ 1 = 1 ]"), 1);
        Due.is("if in a sum", sum("1 + if 1 = 2 then 5 else 3 end * 2"), 7);
        Due.is("if in if", sum("if if 1 = 1 then 2 else 3 end = 2 then 4 else 5 end"), 4);
    }

    /** The most that a law can leave open at once: six ifs, each in the last place of another's truth. */
    private static void deepest() {
        Due.is("all the same", sum(deep("7")), 7);
        Due.is("one is another", sum(deep("6")), 5);
    }

    private static String deep(String innermost) {
        String law = innermost;
        for (int k = 0; k < 6; k++) {
            law = "0+1*if 1=2 or 1=1 and 0=0-7+1*" + law + " then 7 else 5 end";
        }
        return law;
    }

    // 7
    private static void grown() {
        SecondLife x = Due.town("town years 4 trades 1;person talent 1;person talent 9;cash 3;grows : year * 2 - talent;");
        Due.is("at least 0", x.grown(1), 0);
        x.live(0, 0);
        Due.is("now", x.grown(0), 1);
        x.live(0, 0);
        x.live(0, 0);
        Due.is("at most the years", x.grown(0), 4);
        x.pledge(1, 1);
        Due.is("it has pledged", x.grown(1), 0);
        Due.is("grown(2)", x.grown(2), NO_SUCH);
        Due.is("grown(-1)", x.grown(-1), NO_SUCH);
        x.draw(0);
        Due.is("in LIFE 2", x.grown(0), NOT_NOW);
        Due.is("without a law", Due.town("town years 1 trades 1;person;").grown(0), 0);
    }
}
