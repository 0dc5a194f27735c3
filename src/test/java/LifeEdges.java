/** The edges of what PEOPLE do: promises 5 and 8 to 13, and the terms that bind them. */
final class LifeEdges {
    private LifeEdges() {
    }

    static void all() {
        lives();
        draws();
        pledges();
        whyNot();
        person();
        live();
        draw();
        pledge();
        redeem();
        talent();
        undoing();
        undo();
    }

    // ---- the terms

    private static void lives() {
        Edge.sentence(8, "A PERSON is in its LIFE 1 at first, in YEAR 0;");
        SecondLife x = Due.town("town years 1 trades 1;person;person;person;person;person;person;");
        for (int p = 0; p < 6; p++) {
            Edge.is("LIFE", x.person(p, 1), 1);
            Edge.is("YEAR", x.person(p, 0), 0);
        }

        Edge.sentence(8, "it is OVER when as many YEARS as a life has were lived.");
        SecondLife y = Due.town("town years 2 trades 1;person;person;grows : 1;");
        Edge.is("none of two", y.live(0, 0), 1);
        Edge.is("one of two", y.live(0, 0), 1);
        Edge.no(12, "two of two", y.live(0, 0));
        Edge.is("the other isn't", y.live(1, 0), 1);
        y.draw(0);
        Edge.is("LIFE 2 begins in YEAR 1", y.live(0, 0), 1);
        Edge.no(12, "it is OVER in YEAR 2", y.live(0, 0));

        Edge.sentence(8, "To LIVE a YEAR in a TRADE: it is WORTH what the law worth tells, -9 at least, 9 at most (without one: 1);");
        int[] told = {8, 9, 10, 11, 999, -8, -9, -10, -11, -999};
        int[] due = {8, 9, 9, 9, 9, -8, -9, -9, -9, -9};
        for (int i = 0; i < told.length; i++) {
            String law = told[i] < 0 ? "0 - " + -told[i] : "" + told[i];
            SecondLife z = Due.town("town years 1 trades 1;person;worth : " + law + ";");
            Edge.is("told " + told[i], z.live(0, 0), due[i]);
            Edge.is("it HAS", z.person(0, 2), due[i]);
        }
        Edge.is("without a law", Due.town("town years 1 trades 1;person;").live(0, 0), 1);

        Edge.sentence(8, "that is added to what the PERSON HAS (0 at first); YEAR is 1 more.");
        SecondLife w = Due.town("town years 6 trades 2;person;person;worth : 9 - 18 * trade;");
        Edge.is("0 at first", w.person(0, 2), 0);
        int[] has = {9, 18, 9, 0, -9, -18};
        int[] trades = {0, 0, 1, 1, 1, 1};
        for (int i = 0; i < 6; i++) {
            w.live(0, trades[i]);
            Edge.is("it HAS", w.person(0, 2), has[i]);
            Edge.is("YEAR", w.person(0, 0), i + 1);
        }
        Edge.is("the other HAS", w.person(1, 2), 0);
        Edge.is("its YEAR", w.person(1, 0), 0);
    }

    private static void draws() {
        Edge.sentence(9, "To DRAW: its LIFE 1 (OVER or not) is ended for good, it is in LIFE 2,");
        for (int lived = 0; lived <= 2; lived++) {
            SecondLife x = Due.town("town years 2 trades 1;person;person;");
            for (int i = 0; i < lived; i++) {
                x.live(0, 0);
            }
            Edge.is("in YEAR " + lived, x.draw(0), 0);
            Edge.is("LIFE", x.person(0, 1), 2);
            Edge.is("it HAS what it had", x.person(0, 2), lived);
            Edge.no(12, "for good", x.draw(0));
            Edge.is("the other's LIFE", x.person(1, 1), 1);
        }

        Edge.sentence(9, "in the YEAR which the law grows tells, 0 at least, as many as a life has at most (without one: 0):");
        int[] told = {-999, -1, 0, 1, 2, 3, 4, 999};
        int[] due = {0, 0, 0, 1, 2, 3, 3, 3};
        for (int i = 0; i < told.length; i++) {
            String law = told[i] < 0 ? "0 - " + -told[i] : "" + told[i];
            SecondLife x = Due.town("town years 3 trades 1;person;grows : " + law + ";");
            Edge.is("told " + told[i], x.draw(0), due[i]);
            Edge.is("YEAR", x.person(0, 0), due[i]);
        }
        Edge.is("without a law", Due.town("town years 3 trades 1;person;").draw(0), 0);
        SecondLife y = Due.town("town years 3 trades 1;person;grows : year;");
        y.live(0, 0);
        Edge.is("told of the YEAR in which LIFE 1 is ended", y.draw(0), 1);

        Edge.sentence(9, "OVER at once, if as many.");
        SecondLife z = Due.town("town years 3 trades 1;person;person;grows : 2 + talent;");
        z.talent(1, 1);
        z.draw(0);
        z.draw(1);
        Edge.is("one less", z.live(0, 0), 1);
        Edge.no(12, "as many", z.live(1, 0));
        Edge.no(5, "worth", z.worth(1, 0));

        Edge.sentence(9, "Who has PLEDGED can't.");
        SecondLife w = Due.town("town years 3 trades 1;person;cash 9;");
        w.pledge(0, 1);
        Edge.no(13, "PLEDGED for 1", w.draw(0));
        w.redeem(0);
        Edge.is("REDEEMED", w.draw(0), 0);
        Edge.no(13, "draw(2)", Made::rich, x -> x.draw(2));
    }

    private static void pledges() {
        Edge.sentence(10, "To PLEDGE: in LIFE 1, who hasn't;");
        SecondLife x = Due.town("town years 1 trades 1;person;person;cash 999;");
        x.live(0, 0);
        Edge.is("OVER in LIFE 1", x.pledge(0, 5), 994);
        Edge.no(13, "it has", x.pledge(0, 5));
        x.draw(1);
        Edge.no(12, "in LIFE 2", x.pledge(1, 5));
        x.redeem(0);
        Edge.is("who has REDEEMED hasn't", x.pledge(0, 6), 993);

        Edge.sentence(10, "for 1 to 99 of the CASH, no more than there is:");
        int[] can = {1, 2, 98, 99};
        for (int n : can) {
            Edge.is("for " + n, Due.town("town years 1 trades 1;person;cash 999;").pledge(0, n), 999 - n);
            Edge.is("for all of " + n, Due.town("town years 1 trades 1;person;cash " + n + ";").pledge(0, n), 0);
            Edge.no(14, "for one more than there is", Due.town("town years 1 trades 1;person;cash " + (n - 1) + ";").pledge(0, n));
        }
        int[] cannot = {0, -1, 100, 101, Edge.LEAST, Edge.MOST};
        for (int n : cannot) {
            Edge.no(11, "for " + n, Due.town("town years 1 trades 1;person;cash 999;").pledge(0, n));
        }

        Edge.sentence(10, "it HAS as much more, the bank has less.");
        SecondLife y = Due.town("town years 2 trades 1;person;person;cash 30;worth : 0 - 4;");
        y.live(0, 0);
        Edge.is("CASH", y.pledge(0, 10), 20);
        Edge.is("it HAS", y.person(0, 2), 6);
        Edge.is("the other HAS", y.person(1, 2), 0);
        Edge.is("CASH", y.pledge(1, 20), 0);
        Edge.is("all HAVE", y.count(4), 26);

        Edge.sentence(11, "To REDEEM: the bank has that back, it HAS as much less.");
        y.live(0, 0);
        Edge.is("CASH", y.redeem(0), 10);
        Edge.is("it HAS, less than nothing", y.person(0, 2), -8);
        Edge.is("the other has PLEDGED still", y.person(1, 8), 20);
        Edge.is("CASH", y.redeem(1), 30);

        Edge.sentence(12, "To have a TALENT.");
        SecondLife z = Due.town("town years 2 trades 1;person talent 5;person talent 6;worth : talent;");
        z.talent(0, 9);
        Edge.is("it has", z.person(0, 6), 9);
        Edge.is("a YEAR by it", z.live(0, 0), 9);
        Edge.is("the other has its own", z.person(1, 6), 6);
    }

    private static void whyNot() {
        Edge.sentence(8, "Why not: 1 no such PERSON, TRADE, TALENT, number.");
        Edge.no(11, "PERSON", Made::rich, x -> x.live(3, 0));
        Edge.no(11, "PERSON", Made::rich, x -> x.draw(3));
        Edge.no(11, "PERSON", Made::rich, x -> x.pledge(3, 1));
        Edge.no(11, "PERSON", Made::rich, x -> x.redeem(3));
        Edge.no(11, "PERSON", Made::rich, x -> x.talent(3, 1));
        Edge.no(11, "TRADE", Made::rich, x -> x.live(2, 2));
        Edge.no(11, "TALENT", Made::rich, x -> x.talent(2, 10));
        Edge.no(11, "number", Made::rich, x -> x.pledge(0, 100));
        Edge.no(11, "TRADE, ahead of OVER", Made::rich, x -> x.live(0, 2));
        Edge.no(11, "number, ahead of LIFE 2", Made::rich, x -> x.pledge(1, 0));
        Edge.no(11, "number, ahead of PLEDGED", Made::rich, x -> x.pledge(2, 0));
        Edge.no(11, "number, ahead of the CASH", Made::rich, x -> x.pledge(0, 1000));

        Edge.sentence(8, "2 its LIFE is OVER (LIVE), it is in LIFE 2 (DRAW, PLEDGE).");
        Edge.no(12, "live(0, 0)", Made::rich, x -> x.live(0, 0));
        Edge.no(12, "draw(1)", Made::rich, x -> x.draw(1));
        Edge.no(12, "pledge(1, 1)", Made::rich, x -> x.pledge(1, 1));
        Edge.no(12, "ahead of the CASH", Made::rich, x -> x.pledge(1, 99));
        Edge.is("in LIFE 2 it LIVES", Made.richOne().live(1, 0), 1);
        Edge.is("OVER it DRAWS", Made.richOne().draw(0), 3);
        Edge.is("OVER it PLEDGES", Made.richOne().pledge(0, 3), 20);
        Edge.is("OVER it has a TALENT", Made.richOne().talent(0, 3), 5);

        Edge.sentence(8, "3 it has PLEDGED (DRAW, PLEDGE), it hasn't (REDEEM).");
        Edge.no(13, "draw(2)", Made::rich, x -> x.draw(2));
        Edge.no(13, "pledge(2, 1)", Made::rich, x -> x.pledge(2, 1));
        Edge.no(13, "ahead of the CASH", Made::rich, x -> x.pledge(2, 99));
        Edge.no(13, "redeem(0)", Made::rich, x -> x.redeem(0));
        Edge.no(13, "redeem(1), in LIFE 2", Made::rich, x -> x.redeem(1));
        Edge.is("who has PLEDGED LIVES", Made.richOne().live(2, 0), 1);
        Edge.is("who has PLEDGED has a TALENT", Made.richOne().talent(2, 0), 1);

        Edge.sentence(8, "4 there isn't so much CASH.");
        Edge.no(14, "pledge(0, 24)", Made::rich, x -> x.pledge(0, 24));
        Edge.is("all there is", Made.richOne().pledge(0, 23), 0);
        Edge.no(14, "1 of none", Due.town("town years 1 trades 1;person;").pledge(0, 1));
    }

    // ---- person

    private static void person() {
        Edge.sentence(5, "Of a PERSON, what 0: YEAR, 1: LIFE, 2: what it HAS,");
        SecondLife x = Made.richOne();
        int[][] due = {{3, 1, 11}, {1, 2, 3}, {0, 1, 7}};
        for (int p = 0; p < 3; p++) {
            for (int what = 0; what < 3; what++) {
                Edge.is("person(" + p + ", " + what + ")", x.person(p, what), due[p][what]);
            }
        }

        Edge.sentence(5, "3: last (9),");
        Edge.is("none", x.person(2, 3), 9);
        Edge.is("TRADE 1", x.person(0, 3), 1);
        SecondLife y = Due.town("town years 3 trades 4;person;grows : 1;");
        y.live(0, 3);
        Edge.is("TRADE 3", y.person(0, 3), 3);
        y.live(0, 0);
        Edge.is("TRADE 0", y.person(0, 3), 0);
        y.draw(0);
        Edge.is("none in LIFE 2", y.person(0, 3), 9);

        Edge.sentence(5, "4: streak,");
        SecondLife z = Due.town("town years 6 trades 2;person;");
        Edge.is("none", z.person(0, 4), 0);
        int[] trades = {0, 0, 1, 1, 1, 0};
        int[] streaks = {1, 2, 1, 2, 3, 1};
        for (int i = 0; i < 6; i++) {
            z.live(0, trades[i]);
            Edge.is("streak", z.person(0, 4), streaks[i]);
        }
        z.draw(0);
        Edge.is("none in LIFE 2", z.person(0, 4), 0);

        Edge.sentence(5, "5: old,");
        Edge.is("in LIFE 1, OVER", x.person(0, 5), 0);
        Edge.is("ended in YEAR 6", z.person(0, 5), 6);
        Edge.is("ended in YEAR 0", x.person(1, 5), 0);

        Edge.sentence(5, "6: talent, 7: fear,");
        Edge.is("talent it came to have", x.person(0, 6), 5);
        Edge.is("talent", x.person(1, 6), 2);
        Edge.is("fear", x.person(0, 7), 1);
        Edge.is("fear", x.person(1, 7), 0);
        Edge.is("no fear told", x.person(2, 7), 9);

        Edge.sentence(5, "8: for how much it has PLEDGED (0).");
        Edge.is("it has", x.person(2, 8), 7);
        Edge.is("it hasn't", x.person(0, 8), 0);
        x.redeem(2);
        Edge.is("REDEEMED", x.person(2, 8), 0);

        Edge.sentence(5, "-2.");
        int[] nobody = {-1, 3, 6, Edge.LEAST, Edge.MOST};
        for (int p : nobody) {
            Edge.no(2, "person(" + p + ", 0)", Made::rich, w -> w.person(p, 0));
        }
        int[] nothing = {-1, 9, Edge.LEAST, Edge.MOST};
        for (int what : nothing) {
            Edge.no(2, "person(0, " + what + ")", Made::rich, w -> w.person(0, what));
        }
    }

    // ---- deeds

    private static void live() {
        Edge.sentence(8, "To LIVE a YEAR: what it is WORTH.");
        SecondLife x = Due.town("town years 3 trades 2;person;worth : 3 - 12 * trade;");
        Edge.is("3", x.live(0, 0), 3);
        Edge.is("-9", x.live(0, 1), -9);
        Edge.is("one call each", x.count(7), 2);

        Edge.sentence(8, "-11, -12.");
        int[] nobody = {-1, 3, 6, Edge.LEAST, Edge.MOST};
        for (int p : nobody) {
            Edge.no(11, "live(" + p + ", 0)", Made::rich, y -> y.live(p, 0));
        }
        int[] none = {-1, 2, 4, 9, Edge.LEAST, Edge.MOST};
        for (int t : none) {
            Edge.no(11, "live(2, " + t + ")", Made::rich, y -> y.live(2, t));
            Edge.no(11, "live(0, " + t + ")", Made::rich, y -> y.live(0, t));
        }
        Edge.no(12, "live(0, 0)", Made::rich, y -> y.live(0, 0));
        Edge.no(12, "live(0, 1)", Made::rich, y -> y.live(0, 1));
    }

    private static void draw() {
        Edge.sentence(9, "To DRAW: its YEAR then.");
        SecondLife x = Due.town("town years 3 trades 1;person;person;grows : year + 1;");
        x.live(1, 0);
        x.live(1, 0);
        Edge.is("1", x.draw(0), 1);
        Edge.is("3, OVER", x.draw(1), 3);
        Edge.is("one call each", x.count(7), 4);

        Edge.sentence(9, "-11 to -13.");
        int[] nobody = {-1, 3, 6, Edge.LEAST, Edge.MOST};
        for (int p : nobody) {
            Edge.no(11, "draw(" + p + ")", Made::rich, y -> y.draw(p));
        }
        Edge.no(12, "draw(1)", Made::rich, y -> y.draw(1));
        Edge.no(13, "draw(2)", Made::rich, y -> y.draw(2));
    }

    private static void pledge() {
        Edge.sentence(10, "To PLEDGE: the CASH then.");
        SecondLife x = Due.town("town years 3 trades 1;person;person;cash 100;");
        Edge.is("1", x.pledge(0, 99), 1);
        Edge.is("0", x.pledge(1, 1), 0);
        Edge.is("one call each", x.count(7), 2);

        Edge.sentence(10, "-11 to -14.");
        int[] nobody = {-1, 3, 6, Edge.LEAST, Edge.MOST};
        for (int p : nobody) {
            Edge.no(11, "pledge(" + p + ", 1)", Made::rich, y -> y.pledge(p, 1));
        }
        int[] none = {0, -1, 100, Edge.LEAST, Edge.MOST};
        for (int n : none) {
            for (int p = 0; p < 3; p++) {
                int who = p;
                Edge.no(11, "pledge(" + p + ", " + n + ")", Made::rich, y -> y.pledge(who, n));
            }
        }
        Edge.no(12, "pledge(1, 1)", Made::rich, y -> y.pledge(1, 1));
        Edge.no(13, "pledge(2, 1)", Made::rich, y -> y.pledge(2, 1));
        Edge.no(14, "pledge(0, 24)", Made::rich, y -> y.pledge(0, 24));
        Edge.no(14, "pledge(0, 99)", Made::rich, y -> y.pledge(0, 99));
    }

    private static void redeem() {
        Edge.sentence(11, "To REDEEM: the CASH then.");
        SecondLife x = Made.richOne();
        Edge.is("all of it", x.redeem(2), 30);
        Edge.is("one call", x.count(7), 8);

        Edge.sentence(11, "-11, -13.");
        int[] nobody = {-1, 3, 6, Edge.LEAST, Edge.MOST};
        for (int p : nobody) {
            Edge.no(11, "redeem(" + p + ")", Made::rich, y -> y.redeem(p));
        }
        Edge.no(13, "redeem(0)", Made::rich, y -> y.redeem(0));
        Edge.no(13, "redeem(1)", Made::rich, y -> y.redeem(1));
        Edge.no(13, "a second time", x.redeem(2));
    }

    private static void talent() {
        Edge.sentence(12, "To have a TALENT (0 to 9): what it was.");
        SecondLife x = Due.town("town years 1 trades 1;person talent 4;");
        int was = 4;
        for (int n = 0; n <= 9; n++) {
            Edge.is("talent " + n, x.talent(0, n), was);
            Edge.is("it has", x.person(0, 6), n);
            was = n;
        }
        Edge.is("the same", x.talent(0, 9), 9);

        Edge.sentence(12, "-11.");
        int[] nobody = {-1, 3, 6, Edge.LEAST, Edge.MOST};
        for (int p : nobody) {
            Edge.no(11, "talent(" + p + ", 0)", Made::rich, y -> y.talent(p, 0));
        }
        int[] none = {-1, 10, Edge.LEAST, Edge.MOST};
        for (int n : none) {
            Edge.no(11, "talent(0, " + n + ")", Made::rich, y -> y.talent(0, n));
        }
    }

    // ---- undoing

    private static void undoing() {
        Edge.sentence(13, "Calls that did some can be UNDONE each as a whole, the latest first,");
        SecondLife x = Due.town("town years 6 trades 2;person;person;cash 50;worth : trade + 1;");
        int[] has = new int[8];
        x.live(0, 1);
        has[1] = x.count(4);
        x.pledge(1, 30);
        has[2] = x.count(4);
        x.redeem(1);
        has[3] = x.count(4);
        x.talent(0, 3);
        has[4] = x.count(4);
        x.draw(1);
        has[5] = x.count(4);
        Due.fill(x, 0, 1, 0, 1, 10);
        x.perform(0);
        has[6] = x.count(4);
        x.season(3, 40);
        has[7] = x.count(4);
        Edge.is("one for each", x.count(7), 7);
        for (int left = 6; left >= 0; left--) {
            Edge.is("undo(1)", x.undo(1), left);
            Edge.is("all HAVE", x.count(4), has[left]);
        }
        SecondLife y = Due.town("town years 6 trades 2;person;person;cash 50;worth : trade + 1;");
        y.live(0, 2);
        y.live(2, 0);
        y.redeem(0);
        y.pledge(0, 51);
        y.talent(0, 10);
        y.undo(1);
        Due.fill(y, 0, 0, 20, 0);
        Edge.is("none of a TRAY", y.perform(0), 0);
        Due.fill(y, 0, 0);
        Edge.is("an empty TRAY", y.perform(0), 0);
        y.judge(0, 0);
        y.image(0);
        y.best(0);
        Edge.is("none of these did some", y.count(7), 0);
        SecondLife z = Due.town("town years 6 trades 2;");
        Edge.is("a SEASON of nobody", z.season(3, 40), 0);
        Edge.is("did none", z.count(7), 0);

        Edge.sentence(13, "10 at most (eldest are forgotten):");
        for (int calls = 8; calls <= 34; calls++) {
            SecondLife w = Due.town("town years 6 trades 1;person;");
            for (int i = 1; i <= calls; i++) {
                w.talent(0, i % 10);
                Edge.is("can be UNDONE behind " + i, w.count(7), Math.min(i, 10));
            }
            int back = Math.min(calls, 10);
            Edge.is("all of them", w.undo(back), 0);
            Edge.is("the TALENT ahead of them", w.person(0, 6), (calls - back) % 10);
            Edge.no(3, "the eldest are forgotten", w.undo(1));
        }

        Edge.sentence(13, "all of PEOPLE, CASH.");
        SecondLife u = Due.town("town years 3 trades 2;person talent 4 fear 2;person;cash 30;grows : 1;");
        u.live(0, 1);
        u.live(0, 1);
        u.pledge(0, 12);
        int[] due = new int[18];
        for (int i = 0; i < 18; i++) {
            due[i] = u.person(i / 9, i % 9);
        }
        u.redeem(0);
        u.talent(0, 1);
        u.draw(0);
        u.live(0, 0);
        u.pledge(1, 9);
        u.live(1, 0);
        u.undo(6);
        for (int i = 0; i < 18; i++) {
            Edge.is("person(" + i / 9 + ", " + i % 9 + ")", u.person(i / 9, i % 9), due[i]);
        }
        Edge.is("CASH", u.count(3), 18);
        Due.fill(u, 0, 0, 5);
        Due.feed(u, "x");
        u.undo(1);
        Edge.is("no TRAY", u.write(0, 0, 5), 5);
        Edge.is("no bytes", u.count(8), 20);
    }

    private static void undo() {
        Edge.sentence(13, "n calls (1 to 10) are UNDONE: how many still can be.");
        for (int n = 1; n <= 10; n++) {
            SecondLife x = Due.town("town years 6 trades 1;person;person;");
            for (int i = 0; i < 12; i++) {
                x.live(i % 2, 0);
            }
            Edge.is("undo(" + n + ")", x.undo(n), 10 - n);
            Edge.is("can be", x.count(7), 10 - n);
            Edge.is("all HAVE", x.count(4), 12 - n);
        }
        SecondLife y = Due.town("town years 6 trades 1;person;person;");
        y.live(0, 0);
        y.live(0, 0);
        y.undo(1);
        y.live(1, 0);
        Edge.is("what is done behind can be too", y.count(7), 2);
        y.undo(1);
        Edge.is("to where it was", y.person(0, 0), 1);
        Edge.is("of the other", y.person(1, 0), 0);

        Edge.sentence(13, "-3: n, more than can be.");
        int[] wrong = {0, -1, -10, 8, 9, 10, 11, Edge.LEAST, Edge.MOST};
        for (int n : wrong) {
            Edge.no(3, "undo(" + n + ") of 7", Made::rich, x -> x.undo(n));
        }
        Edge.no(3, "undo(1) of none", Made::nothing, x -> x.undo(1));
        Edge.is("just as many as can be", Made.richOne().undo(7), 0);
        SecondLife z = Due.town("town years 6 trades 1;person;");
        for (int i = 0; i < 20; i++) {
            z.talent(0, 1);
        }
        Edge.no(3, "undo(11) of 10", z.undo(11));
        Edge.no(3, "undo(0) of 10", z.undo(0));
    }
}
