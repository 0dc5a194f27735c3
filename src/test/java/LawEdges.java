/** The edges of the laws' language and of what its words tell: promises 6 and 7, and the terms that bind them. */
final class LawEdges {
    private static final String HEAD = "town years 1 trades 1;";

    private LawEdges() {
    }

    static void all() {
        sums();
        terms();
        atoms();
        truths();
        units();
        within();
        words();
        streaks();
        kept();
        ifs();
        worth();
        grown();
    }

    private static void fault(String law, int kind, int place) {
        SecondLife x = new SecondLife();
        Edge.no(30 + kind, "town of worth : " + law, Due.tell(x, HEAD + "worth : " + law));
        Edge.is("its place: " + law, x.fault(1), 30 + place);
    }

    // ---- the language

    private static void sums() {
        Edge.sentence(6, "SUM: TERM { + TERM | - TERM };");
        Edge.is("one", Made.sum("5"), 5);
        Edge.is("two", Made.sum("5 + 2"), 7);
        Edge.is("from the left", Made.sum("9 - 3 - 2"), 4);
        Edge.is("both", Made.sum("9 - 3 + 2"), 8);
        Edge.is("many", Made.sum("1+1+1+1+1+1+1+1-1"), 7);
        fault("+ 1;", 2, 0);
        fault("- 1;", 2, 0);
        fault("1 + ;", 2, 4);
        fault("1 - - 1;", 2, 4);
    }

    private static void terms() {
        Edge.sentence(6, "TERM: ATOM { * ATOM };");
        Edge.is("one", Made.sum("5"), 5);
        Edge.is("two", Made.sum("2 * 3"), 6);
        Edge.is("three", Made.sum("2 * 2 * 2"), 8);
        Edge.is("ahead of +", Made.sum("1 + 2 * 3"), 7);
        Edge.is("ahead of -", Made.sum("9 - 2 * 3"), 3);
        Edge.is("and of what is behind", Made.sum("2 * 3 - 1"), 5);
        fault("* 1;", 2, 0);
        fault("1 *;", 2, 3);
        fault("1 ** 1;", 2, 3);
        fault("2 * - 1;", 2, 4);
    }

    private static void atoms() {
        Edge.sentence(6, "ATOM: N, ( SUM ), if TRUTH then SUM else SUM end, talent, year, in worth trade, last, streak, life, old too.");
        Edge.is("0", Made.sum("0"), 0);
        Edge.is("999", Made.sum("999 - 990"), 9);
        Edge.is("( )", Made.sum("(1 + 1) * (1 + 2)"), 6);
        Edge.is("if", Made.sum("if 1 = 1 then 2 else 3 end"), 2);
        Edge.is("if within sums", Made.sum("1 + if 1 = 2 then 5 else 3 end * 2"), 7);
        Edge.is("talent", Made.sum("talent"), 7);
        Edge.is("year", Made.sum("year"), 0);
        Edge.is("trade", Made.sum("trade"), 3);
        Edge.is("last", Made.sum("last"), 9);
        Edge.is("streak", Made.sum("streak"), 0);
        Edge.is("life", Made.sum("life"), 1);
        Edge.is("old", Made.sum("old"), 0);
        fault("();", 2, 1);
        fault("(1;", 2, 2);
        fault("1);", 2, 1);
        fault("(1];", 2, 2);
        fault("if then 1 else 2 end;", 2, 3);
        fault("if 1 then 1 else 2 end;", 2, 5);
        fault("if 1 = 1 1 else 2 end;", 2, 9);
        fault("if 1 = 1 then else 2 end;", 2, 14);
        fault("if 1 = 1 then 1 end;", 2, 16);
        fault("if 1 = 1 then 1 else end;", 2, 21);
        fault("if 1 = 1 then 1 else 2;", 2, 22);
        fault("fear;", 2, 0);
        fault("cash;", 2, 0);
        fault("trades;", 2, 0);
    }

    private static void truths() {
        Edge.sentence(6, "TRUTH: BOTH { or BOTH };");
        Edge.is("none", Made.truth("1 = 2 or 1 = 3"), 2);
        Edge.is("the first", Made.truth("1 = 1 or 1 = 3"), 1);
        Edge.is("the last", Made.truth("1 = 2 or 1 = 3 or 1 = 1"), 1);
        Edge.is("two", Made.truth("1 = 1 or 2 = 2"), 1);
        Edge.is("all", Made.truth("1 = 1 or 2 = 2 or 3 = 3"), 1);
        Edge.is("and goes ahead of it", Made.truth("1 = 1 or 1 = 1 and 1 = 2"), 1);
        fault("if 1 = 1 or then 1 else 2 end;", 2, 12);
        fault("if or 1 = 1 then 1 else 2 end;", 2, 3);

        Edge.sentence(6, "BOTH: UNIT { and UNIT };");
        Edge.is("both", Made.truth("1 = 1 and 2 = 2"), 1);
        Edge.is("not the first", Made.truth("1 = 2 and 2 = 2"), 2);
        Edge.is("not the last", Made.truth("1 = 1 and 2 = 2 and 3 = 4"), 2);
        Edge.is("neither", Made.truth("1 = 2 and 2 = 3"), 2);
        fault("if 1 = 1 and then 1 else 2 end;", 2, 13);
    }

    private static void units() {
        Edge.sentence(6, "UNIT: not UNIT, [ TRUTH ], or SUM, one of = < >, SUM.");
        Edge.is("not", Made.truth("not 1 = 2"), 1);
        Edge.is("not not", Made.truth("not not 1 = 2"), 2);
        Edge.is("not takes one UNIT", Made.truth("not 1 = 1 or 1 = 1"), 1);
        Edge.is("nor both", Made.truth("not 1 = 2 and 1 = 2"), 2);
        Edge.is("not [", Made.truth("not [ 1 = 1 or 1 = 2 ]"), 2);
        Edge.is("[ goes ahead", Made.truth("[ 1 = 1 or 1 = 1 ] and 1 = 2"), 2);
        Edge.is("= less", Made.truth("1 = 2"), 2);
        Edge.is("= same", Made.truth("2 = 2"), 1);
        Edge.is("= more", Made.truth("3 = 2"), 2);
        Edge.is("< less", Made.truth("1 < 2"), 1);
        Edge.is("< same", Made.truth("2 < 2"), 2);
        Edge.is("< more", Made.truth("3 < 2"), 2);
        Edge.is("> less", Made.truth("1 > 2"), 2);
        Edge.is("> same", Made.truth("2 > 2"), 2);
        Edge.is("> more", Made.truth("3 > 2"), 1);
        Edge.is("below 0", Made.truth("0 - 2 < 0 - 1"), 1);
        String[] hold = {"1 = 1", "1 < 2", "2 > 1"};
        String[] fail = {"1 = 2", "2 < 1", "1 > 2"};
        for (int i = 0; i < 3; i++) {
            Edge.is("not " + hold[i], Made.truth("not " + hold[i]), 2);
            Edge.is("not " + fail[i], Made.truth("not " + fail[i]), 1);
            for (int k = 0; k < 3; k++) {
                Edge.is("both hold", Made.truth(hold[i] + " and " + hold[k]), 1);
                Edge.is("one holds", Made.truth(hold[i] + " and " + fail[k]), 2);
                Edge.is("both hold", Made.truth(hold[i] + " or " + hold[k]), 1);
                Edge.is("one holds", Made.truth(hold[i] + " or " + fail[k]), 1);
                Edge.is("the other holds", Made.truth(fail[i] + " or " + hold[k]), 1);
                Edge.is("the other holds", Made.truth(fail[i] + " and " + hold[k]), 2);
                Edge.is("none holds", Made.truth(fail[i] + " and " + fail[k]), 2);
                Edge.is("none holds", Made.truth(fail[i] + " or " + fail[k]), 2);
            }
        }
        Edge.is("( begins a SUM", Made.truth("(1 + 1) * 2 = 4"), 1);
        fault("if 1 = 1 = 1 then 1 else 2 end;", 2, 9);
        fault("if [ 1 ] = 1 then 1 else 2 end;", 2, 7);
        fault("if (1 = 1) then 1 else 2 end;", 2, 6);
        fault("if [ 1 = 1 then 1 else 2 end;", 2, 11);
        fault("if not then 1 else 2 end;", 2, 7);
        fault("not 1 = 1;", 2, 0);
        fault("[ 1 ];", 2, 0);
        fault("1 = 1;", 2, 2);
    }

    private static void within() {
        Edge.sentence(6, "At most six of not [ ( if within one another.");
        Edge.is("six (", Made.sum("((((((5))))))"), 5);
        Edge.is("many ( beside one another", Made.sum("(1)+(1)+(1)+(1)+(1)+(1)+(1)+(1)"), 8);
        Edge.is("five not in an if", Made.truth("not not not not not 1 = 2"), 1);
        Edge.is("five [ in an if", Made.truth("[[[[[1 = 2]]]]]"), 2);
        String law = "4";
        for (int k = 0; k < 6; k++) {
            law = "if 1 = 1 then " + law + " else 5 end";
        }
        Edge.is("six if by then", Made.sum(law), 4);
        law = "4";
        for (int k = 0; k < 6; k++) {
            law = "if 1 = 2 then 5 else " + law + " end";
        }
        Edge.is("six if by else", Made.sum(law), 4);
        law = "4";
        for (int k = 0; k < 6; k++) {
            law = "if 4 = " + law + " then 4 else 5 end";
        }
        Edge.is("six if by truths", Made.sum(law), 4);
        Edge.is("one of each", Made.sum("(if not [ (if 1 = 2 then 3 else 4 end) = 4 ] then 5 else 6 end)"), 6);
        Edge.is("behind six closed ones", Made.sum("((((((1)))))) + ((((((2)))))) * ((((((3))))))"), 7);
        Edge.is("behind a not that is over",
                Made.truth("not 1 = 2 and not 1 = 2 and not 1 = 2 and not 1 = 2 and not 1 = 2 and not 1 = 2 and not 1 = 2"), 1);
        fault("(((((((1)))))));", 4, 6);
        fault("if not not not not not not 1 = 1 then 1 else 2 end;", 4, 23);
        fault("if [[[[[[1 = 1]]]]]] then 1 else 2 end;", 4, 8);
        fault("(((((if 1 = 1 then (1) else 2 end)))));", 4, 19);
        fault("(((((if 1 = 1 then 1 else (2) end)))));", 4, 26);
        fault("(((((if 1 = (1) then 1 else 2 end)))));", 4, 12);
        fault("(((((if not 1 = 1 then 1 else 2 end)))));", 4, 8);
        fault("if not (1) = 1 and not [ 1 = 1 and [ 1 = 1 and [ 1 = 1 and [ 1 = (1) ]]]] then 1 else 2 end;", 4, 65);
        fault("if not not not not not (1) = 1 then 1 else 2 end;", 4, 23);
    }

    // ---- what words tell

    private static void words() {
        Edge.sentence(6, "In both laws: talent: the PERSON's, year: its YEAR.");
        SecondLife x = Due.town("town years 6 trades 1;person talent 0;person talent 3;worth : talent + year;grows : talent + year;");
        Edge.is("talent 0, year 0", x.worth(0, 0), 0);
        Edge.is("talent 3, year 0", x.worth(1, 0), 3);
        Edge.is("grows", x.grown(1), 3);
        x.live(1, 0);
        x.live(1, 0);
        Edge.is("year 2", x.worth(1, 0), 5);
        Edge.is("grows", x.grown(1), 5);
        Edge.is("the other's year is its own", x.worth(0, 0), 0);
        x.talent(0, 6);
        Edge.is("a talent it came to have", x.worth(0, 0), 6);
        x.draw(1);
        Edge.is("in LIFE 2 the YEAR it is in", x.worth(1, 0), 8);

        Edge.sentence(6, "In worth: trade: which one it LIVES,");
        SecondLife y = Due.town("town years 6 trades 4;person;worth : trade;");
        for (int t = 0; t < 4; t++) {
            Edge.is("trade " + t, y.worth(0, t), t);
            Edge.is("lived", y.live(0, t), t);
        }

        Edge.sentence(6, "last: the TRADE it LIVED in the YEAR ahead, in the same LIFE (9: none),");
        SecondLife z = Due.town("town years 6 trades 4;person;person;worth : last;");
        Edge.is("none at first", z.worth(0, 3), 9);
        z.live(0, 0);
        Edge.is("TRADE 0", z.worth(0, 3), 0);
        z.live(0, 3);
        Edge.is("TRADE 3", z.worth(0, 0), 3);
        z.live(0, 2);
        Edge.is("TRADE 2", z.worth(0, 0), 2);
        Edge.is("the other has none", z.worth(1, 0), 9);
        z.draw(0);
        Edge.is("none in LIFE 2", z.worth(0, 0), 9);
        z.live(0, 1);
        Edge.is("TRADE 1", z.worth(0, 0), 1);

        Edge.sentence(6, "life: 1 or 2,");
        SecondLife w = Due.town("town years 2 trades 1;person;worth : life;");
        Edge.is("1", w.worth(0, 0), 1);
        w.draw(0);
        Edge.is("2", w.worth(0, 0), 2);

        Edge.sentence(6, "old: in LIFE 2 the YEAR in which LIFE 1 was ended, in LIFE 1 0.");
        for (int year = 0; year <= 6; year++) {
            SecondLife o = Due.town("town years 6 trades 1;person;worth : old;grows : 0;");
            for (int i = 0; i < year; i++) {
                Edge.is("in LIFE 1", o.live(0, 0), 0);
            }
            o.draw(0);
            Edge.is("ended in " + year, o.worth(0, 0), year);
            o.live(0, 0);
            Edge.is("a YEAR later", o.worth(0, 0), year);
            Edge.is("person 5", o.person(0, 5), year);
        }
    }

    private static void streaks() {
        Edge.sentence(6, "streak: in how many YEARS one behind the other up to now it LIVED the last one so (0: none),");
        SecondLife x = Due.town("town years 6 trades 2;person;worth : streak;");
        Edge.is("none at first", x.live(0, 1), 0);
        Edge.is("one", x.live(0, 1), 1);
        Edge.is("two: of the last one, whichever is lived now", x.worth(0, 0), 2);
        Edge.is("two", x.live(0, 0), 2);
        Edge.is("one of the other", x.live(0, 1), 1);
        Edge.is("one: not one behind the other", x.live(0, 1), 1);
        Edge.is("two", x.live(0, 1), 2);
        x.draw(0);
        Edge.is("none in LIFE 2", x.live(0, 1), 0);
        Edge.is("one in LIFE 2", x.worth(0, 1), 1);
        SecondLife y = Due.town("town years 6 trades 2;person;worth : streak;");
        for (int i = 0; i < 6; i++) {
            Edge.is("all of a life", y.live(0, 1), i);
        }
        Edge.is("person 4", y.person(0, 4), 6);
    }

    private static void kept() {
        Edge.sentence(6, "Each + - * is kept from -1,000,000 to 1,000,000;");
        String most = "999*999+999+999+1";
        Edge.is("1,000,000 by +", Made.sum(most + "-999*999-999-999"), 1);
        Edge.is("1,000,001 by +", Made.sum(most + "+1-999*999-999-999-1"), 0);
        Edge.is("far more by +", Made.sum(most + "+999*999-999*999-999-999-1"), 0);
        Edge.is("-1,000,000 by -", Made.sum("0-999*999-999-999-1+999*999+999+999"), -1);
        Edge.is("-1,000,001 by -", Made.sum("0-999*999-999-999-1-1+" + most), 0);
        Edge.is("1,000,000 by *", Made.sum("(999+1)*(999+1)-999*999-999-999"), 1);
        Edge.is("1,001,000 by *", Made.sum("(999+1)*(999+2)-999*999-999-999"), 1);
        Edge.is("-1,000,000 by *", Made.sum("(0-999-1)*(999+1)+999*999+999+999"), -1);
        Edge.is("-1,001,000 by *", Made.sum("(0-999-1)*(999+2)+999*999+999+999"), -1);
        Edge.is("1,000,000 * 1,000,000", Made.sum("(999+1)*(999+1)*((999+1)*(999+1))-999*999-999-999"), 1);
        Edge.is("-1,000,000 * 1,000,000", Made.sum("(0-999-1)*(999+1)*((999+1)*(999+1))+999*999+999+999"), -1);
        Edge.is("each of them", Made.sum("999*999*999*0+5"), 5);
        Edge.is("in a truth", Made.truth("999*999*999 = " + most), 1);
        SecondLife x = Due.town("town years 6 trades 1;person;grows : " + most + "+1-999*999-999-999;");
        Edge.is("in grows", x.grown(0), 1);
    }

    private static void ifs() {
        Edge.sentence(6, "if tells the one SUM, if the TRUTH holds, else the other one.");
        Edge.is("it holds", Made.sum("if 1 < 2 then 3 else 4 end"), 3);
        Edge.is("it doesn't", Made.sum("if 2 < 1 then 3 else 4 end"), 4);
        SecondLife x = Due.town("town years 3 trades 1;person;grows : if year > 1 then 2 else 1 end;");
        Edge.is("in grows", x.grown(0), 1);
        x.live(0, 0);
        x.live(0, 0);
        Edge.is("in grows", x.grown(0), 2);
    }

    // ---- worth, grown

    private static void worth() {
        Edge.sentence(6, "What a YEAR in a TRADE would be WORTH now.");
        Edge.same(2, "worth(2, 1)", Made::rich, x -> x.worth(2, 1));
        SecondLife y = Due.town("town years 2 trades 4;person;worth : if trade = 0 then 10 else if trade = 1 then 0 - 10 else trade end end;");
        Edge.is("9 at most", y.worth(0, 0), 9);
        Edge.is("-9 at least", y.worth(0, 1), -9);
        Edge.is("between", y.worth(0, 3), 3);
        Edge.is("without a law", Due.town("town years 1 trades 1;person;").worth(0, 0), 1);

        Edge.sentence(6, "-2;");
        int[] nobody = {-1, 3, 6, Edge.LEAST, Edge.MOST};
        for (int p : nobody) {
            Edge.no(2, "worth(" + p + ", 0)", Made::rich, x -> x.worth(p, 0));
        }
        int[] none = {-1, 2, 4, Edge.LEAST, Edge.MOST};
        for (int t : none) {
            Edge.no(2, "worth(2, " + t + ")", Made::rich, x -> x.worth(2, t));
            Edge.no(2, "ahead of its LIFE being OVER: worth(0, " + t + ")", Made::rich, x -> x.worth(0, t));
        }

        Edge.sentence(6, "-5: its LIFE is OVER.");
        Edge.no(5, "LIFE 1", Made::rich, x -> x.worth(0, 0));
        SecondLife z = Due.town("town years 2 trades 1;person;grows : 1;");
        z.live(0, 0);
        Edge.is("a YEAR is left", z.worth(0, 0), 1);
        z.live(0, 0);
        Edge.no(5, "none is", z.worth(0, 0));
        z.draw(0);
        Edge.is("LIFE 2 has one", z.worth(0, 0), 1);
        z.live(0, 0);
        Edge.no(5, "and none more", z.worth(0, 0));
    }

    private static void grown() {
        Edge.sentence(7, "In which YEAR LIFE 2 would begin, if it DREW now.");
        SecondLife x = Due.town("town years 3 trades 1;person;cash 9;grows : year * 2 - 1;");
        int[] due = {0, 1, 3, 3};
        for (int year = 0; year < 4; year++) {
            Edge.is("in YEAR " + year, x.grown(0), due[year]);
            x.live(0, 0);
        }
        Edge.is("nothing was drawn", x.person(0, 1), 1);
        Edge.is("without a law", Due.town("town years 3 trades 1;person;").grown(0), 0);
        Edge.same(3, "grown(0)", Made::rich, y -> y.grown(0));
        Edge.same(0, "who has PLEDGED can't, but this is told: grown(2)", Made::rich, y -> y.grown(2));

        Edge.sentence(7, "-2;");
        int[] nobody = {-1, 3, 6, Edge.LEAST, Edge.MOST};
        for (int p : nobody) {
            Edge.no(2, "grown(" + p + ")", Made::rich, y -> y.grown(p));
        }

        Edge.sentence(7, "-5: it is in LIFE 2.");
        Edge.no(5, "grown(1)", Made::rich, y -> y.grown(1));
    }
}
