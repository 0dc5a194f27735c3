/** The edges of MEANS and HOPES: promises 22 to 26, and the terms that bind them. */
final class ChanceEdges {
    private static final int[] NOBODY = {-1, 3, 6, Edge.LEAST, Edge.MOST};
    private static final int[] NOT_HOPED = {-1, 61, Edge.LEAST, Edge.MOST};
    /** TRADE 0 brings 2 at once, TRADE 1 brings 9 a YEAR later; there is no LIFE 2. */
    private static final String NOW_OR_LATER = "town years 2 trades 2;person;grows : 2;"
            + "worth : if year = 0 then 2 - 2 * trade else if last = 1 then 9 else 0 end end;";

    private ChanceEdges() {
    }

    static void all() {
        dying();
        dead();
        chosen();
        lowest();
        hopes();
        likeliest();
        mean();
        choice();
        drawing();
        hope();
        hoping();
    }

    private static void mean(String name, SecondLife x, long above, long below) {
        Edge.is(name + ": above", x.mean(0, 0), above);
        Edge.is(name + ": below", x.mean(0, 1), below);
    }

    private static void hope(String name, SecondLife x, int n, long above, long below) {
        Edge.is(name + ": hope " + n + " above", x.hope(0, n, 0), above);
        Edge.is(name + ": hope " + n + " below", x.hope(0, n, 1), below);
    }

    // ---- the terms

    private static void dying() {
        Edge.sentence(22, "ON THE MEAN: whoever LIVES a YEAR dies in it as likely as told, each time by itself:");
        // q + q q, where q is 10 - dies of 10
        int[] above = {2, 171, 36, 119, 24, 3, 14, 39, 6, 11, 0};
        int[] below = {1, 100, 25, 100, 25, 4, 25, 100, 25, 100, 1};
        for (int dies = 0; dies <= 10; dies++) {
            mean("dies " + dies, Due.town("town years 2 trades 1;person;grows : 2;dies " + dies + ";"), above[dies], below[dies]);
        }
        SecondLife x = Due.town("town years 2 trades 1;person;dies 5;");
        // 3/4 in each LIFE
        mean("both LIVES", x, 3, 2);
        x.draw(0);
        mean("in LIFE 2", x, 3, 4);
        x.live(0, 0);
        mean("a YEAR of it", x, 1, 2);
        x.live(0, 0);
        mean("OVER", x, 0, 1);

        Edge.sentence(22, "then this YEAR isn't WORTH anything");
        mean("8 half the time", Due.town("town years 1 trades 1;person;grows : 1;dies 5;worth : 8;"), 4, 1);
        // 1/2 (-2 + 1/2 9)
        mean("nor does it take anything away", Due.town("town years 2 trades 1;person;grows : 2;dies 5;"
                + "worth : if year = 0 then 0 - 2 else 9 end;"), 5, 4);
    }

    private static void dead() {
        Edge.sentence(22, "and no more can be LIVED in this LIFE, its YEAR stays (in LIFE 1 it may still DRAW, in that YEAR).");
        mean("no more in LIFE 1", Due.town("town years 2 trades 1;person;grows : 2;dies 5;worth : 4;"), 3, 1);
        // LIFE 2 is WORTH 2 if LIFE 1 was ended in YEAR 0, else 1: 1/2 (3 + 1) + 1/2 2
        mean("old", Due.town("town years 1 trades 1;person;dies 5;"
                + "worth : if life = 1 then 3 else if old = 0 then 4 else 2 end end;"), 3, 1);
        // LIFE 2 is WORTH 6 from YEAR 0 on, 4 from YEAR 1 on: 1/2 (4 + 4) + 1/2 6
        SecondLife x = Due.town("town years 2 trades 1;person;cash 9;dies 5;worth : if life = 1 then 4 else 8 end;grows : year;");
        mean("year", x, 7, 1);
        x.pledge(0, 1);
        mean("who has PLEDGED may not", x, 3, 1);
        x.redeem(0);
        x.draw(0);
        mean("nor who dies in LIFE 2", x, 6, 1);
        mean("all die", Due.town("town years 2 trades 1;person;dies 10;worth : 9;"), 0, 1);
    }

    private static void chosen() {
        Edge.sentence(22, "Each time what is to be done next (or to stop) is chosen, all known that went before, "
                + "so that all YEARS yet to come are WORTH most together on the mean:");
        mean("to stop", Due.town("town years 2 trades 2;person;dies 1;worth : 0 - 1 - trade;"), 0, 1);
        mean("5: 1/2 1/2 9 is more than 1/2 2", Due.town(NOW_OR_LATER + "dies 5;"), 9, 4);
        mean("8: 1/5 2 is more than 1/5 1/5 9", Due.town(NOW_OR_LATER + "dies 8;"), 2, 5);
        // 9/10 (9/10 8 - 7): one more step back from a YEAR that takes away
        mean("through what takes away", Due.town("town years 2 trades 1;person;grows : 2;dies 1;"
                + "worth : if year = 0 then 0 - 7 else 8 end;"), 9, 50);
        mean("or not", Due.town("town years 2 trades 1;person;grows : 2;dies 2;worth : if year = 0 then 0 - 7 else 8 end;"), 0, 1);
        SecondLife x = Due.town("town years 2 trades 1;person;dies 5;worth : 6;grows : 2;");
        mean("ahead", x, 9, 2);
        x.live(0, 0);
        mean("only those yet to come", x, 3, 1);
    }

    private static void lowest() {
        Edge.sentence(22, "how much, as a fraction in lowest terms.");
        mean("nothing", Due.town("town years 1 trades 1;person;worth : 0;"), 0, 1);
        mean("a whole number", Due.town("town years 1 trades 1;person;worth : 9;dies 0;"), 18, 1);
        mean("8/10", Due.town("town years 1 trades 1;person;grows : 1;dies 2;"), 4, 5);
        // 2 (9/10 + .. + 9/10 to the 6th)
        mean("twelve YEARS", Due.town("town years 6 trades 4;person;dies 1;"), 4217031, 500000);
        // only the last of twelve YEARS is WORTH 1: 9 to the 12th of 10 to the 12th
        mean("as far below as it can be", Due.town("town years 6 trades 1;person;dies 1;"
                + "worth : if old = 6 and year = 5 then 1 else 0 end;"), 282429536481L, 1000000000000L);
        mean("as much as it can be", Due.town("town years 6 trades 4;person;worth : 9;"), 108, 1);
    }

    private static void hopes() {
        Edge.sentence(25, "HOPE: likewise chosen so that it is likeliest that all YEARS yet to come are WORTH a told number (0 to 60)"
                + " at least together when it stops:");
        SecondLife x = Due.town("town years 1 trades 1;person;grows : 1;dies 2;worth : 5;");
        hope("nothing is told", x, 0, 1, 1);
        hope("less", x, 4, 4, 5);
        hope("at least", x, 5, 4, 5);
        hope("more", x, 6, 0, 1);
        hope("the most told", x, 60, 0, 1);
        SecondLife y = Due.town("town years 2 trades 1;person;grows : 2;worth : 5 - 10 * year;");
        hope("when it stops, which it may any time", y, 5, 1, 1);
        y.live(0, 0);
        hope("only YEARS yet to come", y, 1, 0, 1);
        hope("it HAS enough, but that isn't asked", y, 5, 0, 1);
        hope("none are needed", y, 0, 1, 1);
        SecondLife z = Due.town("town years 6 trades 1;person;dies 3;worth : 5;");
        hope("60 by all twelve", z, 60, 13841287201L, 1000000000000L);
        // 59 needs as many as 60
        hope("59", z, 59, 13841287201L, 1000000000000L);
        hope("60 of 108", Due.town("town years 6 trades 4;person;worth : 9;"), 60, 1, 1);
        // its first YEAR takes 9 away, so that more than 60 are needed behind it
        SecondLife w = Due.town("town years 6 trades 1;person;worth : if life = 1 and year = 0 then 0 - 9 else 9 end;");
        hope("54 by LIFE 2 alone", w, 54, 1, 1);
        hope("60 through what takes away: 45 - 9 + 54", w, 60, 1, 1);
    }

    private static void likeliest() {
        Edge.sentence(25, "how likely, in lowest terms.");
        SecondLife x = Due.town(NOW_OR_LATER + "dies 5;");
        hope("at once", x, 2, 1, 2);
        hope("later", x, 3, 1, 4);
        hope("later", x, 9, 1, 4);
        hope("never", x, 10, 0, 1);
        hope("surely", x, 0, 1, 1);
        SecondLife y = Due.town("town years 1 trades 1;person;dies 4;worth : 3;");
        // 1 - 2/5 2/5 by either LIFE, 3/5 3/5 by both
        hope("by one of two", y, 3, 21, 25);
        hope("by both", y, 4, 9, 25);
        hope("by both", y, 6, 9, 25);
        hope("never", y, 7, 0, 1);
        hope("all die", Due.town("town years 6 trades 1;person;dies 10;worth : 9;"), 1, 0, 1);
    }

    // ---- the calls

    private static void wrongWhat(String name, java.util.function.IntFunction<Edge.Asking> call) {
        int[] wrong = {-1, 2, Edge.LEAST, Edge.MOST};
        for (int what : wrong) {
            Edge.no(2, name + " " + what, Made::rich, call.apply(what));
        }
    }

    private static void mean() {
        Edge.sentence(22, "ON THE MEAN, what 0: the number above, 1: below.");
        mean("171 of 100", Due.town("town years 2 trades 1;person;grows : 2;dies 1;"), 171, 100);
        // PERSON 1: TALENT 2, TRADE 1: 4/5 (2 + 4/5 1)
        Edge.same(56, "mean(1, 0)", Made::rich, x -> x.mean(1, 0));
        Edge.same(25, "mean(1, 1)", Made::rich, x -> x.mean(1, 1));
        Edge.same(0, "OVER: mean(0, 0)", Made::rich, x -> x.mean(0, 0));
        Edge.same(1, "OVER: mean(0, 1)", Made::rich, x -> x.mean(0, 1));

        Edge.sentence(22, "-2.");
        for (int p : NOBODY) {
            Edge.no(2, "mean(" + p + ", 0)", Made::rich, x -> x.mean(p, 0));
            Edge.no(2, "mean(" + p + ", 1)", Made::rich, x -> x.mean(p, 1));
        }
        wrongWhat("mean of what", what -> x -> x.mean(1, what));
    }

    private static void choice() {
        Edge.sentence(23, "What is best ON THE MEAN to do next: the first TRADE, or else 9: to DRAW, by which it is so much.");
        Edge.is("the first of two", Due.town("town years 1 trades 3;person;grows : 1;dies 3;worth : if trade = 0 then 1 else 2 end;").choice(0), 1);
        Edge.is("all are alike", Due.town("town years 1 trades 4;person;").choice(0), 0);
        Edge.is("the last", Due.town("town years 1 trades 4;person;worth : trade;").choice(0), 3);
        Edge.is("later", Due.town(NOW_OR_LATER + "dies 5;").choice(0), 1);
        Edge.is("now", Due.town(NOW_OR_LATER + "dies 8;").choice(0), 0);
        Edge.is("to DRAW", Due.town("town years 1 trades 2;person;dies 5;worth : if life = 1 then 0 - 1 else 3 end;").choice(0), 9);
        SecondLife x = Due.town("town years 2 trades 1;person;dies 5;worth : if life = 1 then 4 else 8 end;grows : year;");
        x.live(0, 0);
        // to DRAW is WORTH 4, to LIVE is WORTH 1/2 4 + 1/2 4
        Edge.is("a TRADE ahead of DRAWING", x.choice(0), 0);
        SecondLife y = Due.town("town years 1 trades 1;person;");
        y.live(0, 0);
        Edge.is("OVER it may DRAW", y.choice(0), 9);
        Edge.same(1, "in LIFE 2", Made::rich, z -> z.choice(1));

        Edge.sentence(23, "NONE: it is 0 (to stop is as good);");
        Edge.is("nothing is WORTH anything", Due.town("town years 1 trades 1;person;worth : 0;").choice(0), Edge.NONE);
        Edge.is("all take away", Due.town("town years 1 trades 1;person;worth : 0 - 1;").choice(0), Edge.NONE);
        Edge.is("all die", Due.town("town years 1 trades 1;person;dies 10;").choice(0), Edge.NONE);
        Edge.same(Edge.NONE, "OVER", Made::rich, z -> z.choice(0));

        Edge.sentence(23, "-2.");
        for (int p : NOBODY) {
            Edge.no(2, "choice(" + p + ")", Made::rich, z -> z.choice(p));
        }
    }

    private static void drawing() {
        Edge.sentence(24, "Whether DRAWING now is as good as anything ON THE MEAN: 1 if so, else 0");
        Edge.is("it is best", Due.town("town years 1 trades 1;person;worth : if life = 1 then 0 - 1 else 3 end;").drawing(0), 1);
        Edge.is("it isn't", Due.town("town years 1 trades 1;person;").drawing(0), 0);
        SecondLife x = Due.town("town years 2 trades 1;person;dies 5;worth : if life = 1 then 4 else 8 end;grows : year;");
        Edge.is("7 by living, 6 by DRAWING", x.drawing(0), 0);
        x.live(0, 0);
        Edge.is("4 by either", x.drawing(0), 1);
        Edge.is("0 by either", Due.town("town years 1 trades 1;person;worth : 0 - 1;").drawing(0), 1);
        Edge.same(1, "OVER, and LIFE 2 too", Made::rich, y -> y.drawing(0));

        Edge.sentence(24, "(it can't: 0).");
        Edge.same(0, "in LIFE 2", Made::rich, y -> y.drawing(1));
        Edge.same(0, "PLEDGED", Made::rich, y -> y.drawing(2));
        SecondLife z = Due.town("town years 1 trades 1;person;cash 1;worth : 0 - 1;");
        z.pledge(0, 1);
        Edge.is("PLEDGED, and 0 is the most", z.drawing(0), 0);
        z.redeem(0);
        z.draw(0);
        Edge.is("in LIFE 2, and 0 is the most", z.drawing(0), 0);

        Edge.sentence(24, "-2.");
        for (int p : NOBODY) {
            Edge.no(2, "drawing(" + p + ")", Made::rich, y -> y.drawing(p));
        }
    }

    private static void hope() {
        Edge.sentence(25, "HOPE, what 0: the number above, 1: below.");
        hope("4 of 5", Due.town("town years 1 trades 1;person;grows : 1;dies 2;worth : 5;"), 5, 4, 5);
        // PERSON 1, TRADE 1: 2 and 1 in two YEARS, 4/5 each
        Edge.same(16, "hope(1, 3, 0)", Made::rich, x -> x.hope(1, 3, 0));
        Edge.same(25, "hope(1, 3, 1)", Made::rich, x -> x.hope(1, 3, 1));
        Edge.same(4, "hope(1, 2, 0)", Made::rich, x -> x.hope(1, 2, 0));
        Edge.same(0, "hope(1, 60, 0)", Made::rich, x -> x.hope(1, 60, 0));
        Edge.same(1, "hope(1, 0, 1)", Made::rich, x -> x.hope(1, 0, 1));

        Edge.sentence(25, "-2;");
        for (int p : NOBODY) {
            Edge.no(2, "hope(" + p + ", 1, 0)", Made::rich, x -> x.hope(p, 1, 0));
            Edge.no(2, "ahead of -3: hope(" + p + ", 61, 0)", Made::rich, x -> x.hope(p, 61, 0));
        }
        wrongWhat("hope of what", what -> x -> x.hope(1, 1, what));
        wrongWhat("ahead of -3: hope of what", what -> x -> x.hope(1, 61, what));

        Edge.sentence(25, "-3: the number.");
        for (int n : NOT_HOPED) {
            Edge.no(3, "hope(1, " + n + ", 0)", Made::rich, x -> x.hope(1, n, 0));
            Edge.no(3, "hope(0, " + n + ", 1)", Made::rich, x -> x.hope(0, n, 1));
        }
    }

    private static void hoping() {
        Edge.sentence(26, "What is best for this HOPE to do next: the first TRADE, or else 9: to DRAW.");
        SecondLife x = Due.town(NOW_OR_LATER + "dies 5;");
        Edge.is("1", x.hoping(0, 1), 0);
        Edge.is("2", x.hoping(0, 2), 0);
        Edge.is("3", x.hoping(0, 3), 1);
        Edge.is("9", x.hoping(0, 9), 1);
        Edge.is("all are alike", Due.town("town years 1 trades 4;person;worth : 1;").hoping(0, 1), 0);
        SecondLife y = Due.town("town years 1 trades 1;person;dies 5;worth : if life = 2 then 4 else 0 - 1 end;");
        Edge.is("only by DRAWING", y.hoping(0, 4), 9);
        y.draw(0);
        Edge.is("in LIFE 2", y.hoping(0, 4), 0);
        SecondLife z = Due.town("town years 1 trades 1;person;dies 5;worth : if life = 2 then 4 else 0 end;");
        Edge.is("a TRADE ahead of DRAWING", z.hoping(0, 4), 0);
        SecondLife v = Due.town("town years 1 trades 1;person;worth : if life = 2 then 4 else if trade = 0 then 0 - 1 else 9 end end;");
        Edge.is("no TRADE that there isn't", v.hoping(0, 4), 9);
        Edge.is("nor ON THE MEAN", v.choice(0), 9);
        v.live(0, 0);
        Edge.is("OVER it may DRAW", v.hoping(0, 4), 9);
        Edge.is("60, surely", Due.town("town years 6 trades 2;person;worth : 4 + trade;").hoping(0, 60), 1);

        Edge.sentence(26, "NONE: to stop is as good;");
        Edge.is("nothing is needed", x.hoping(0, 0), Edge.NONE);
        Edge.is("it never comes to be", x.hoping(0, 10), Edge.NONE);
        Edge.is("nor 60", x.hoping(0, 60), Edge.NONE);
        Edge.is("all die", Due.town("town years 6 trades 2;person;dies 10;").hoping(0, 1), Edge.NONE);
        Edge.same(Edge.NONE, "OVER", Made::rich, w -> w.hoping(0, 1));
        // PERSON 1, YEARS 1 and 2: TRADE 0 brings 1 and 0, TRADE 1 brings 2 and 1
        Edge.same(0, "1 in LIFE 2", Made::rich, w -> w.hoping(1, 1));
        Edge.same(1, "2 in LIFE 2", Made::rich, w -> w.hoping(1, 2));
        Edge.same(Edge.NONE, "4 in LIFE 2", Made::rich, w -> w.hoping(1, 4));

        Edge.sentence(26, "-2;");
        for (int p : NOBODY) {
            Edge.no(2, "hoping(" + p + ", 1)", Made::rich, w -> w.hoping(p, 1));
            Edge.no(2, "ahead of -3: hoping(" + p + ", 61)", Made::rich, w -> w.hoping(p, 61));
        }

        Edge.sentence(26, "-3.");
        for (int n : NOT_HOPED) {
            Edge.no(3, "hoping(1, " + n + ")", Made::rich, w -> w.hoping(1, n));
            Edge.no(3, "hoping(0, " + n + ")", Made::rich, w -> w.hoping(0, n));
        }
    }
}
