/** The edges of DEEDS in TRAYS and of SEASONS: promises 14 to 16, and the terms that bind them. */
final class DeedEdges {
    private static final String SIX = "town years 6 trades 4;person;person;person;person;person;person;cash 999;worth : trade + 1;";

    private DeedEdges() {
    }

    static void all() {
        deeds();
        judge();
        judged();
        perform();
        seasons();
        season();
    }

    /** Why a DEED can't be done in a town of six, each of whom has PLEDGED or hasn't. */
    private static void why(int why, long deed, boolean pledged) {
        SecondLife x = Due.town(SIX);
        for (int p = 0; p < 6 && pledged; p++) {
            x.pledge(p, 1);
        }
        Due.fill(x, 0, 3, deed);
        Edge.is("why not " + deed, x.judge(0, 1), why);
        Edge.is("done by perform(): " + deed, x.perform(0), why == 0 ? 1 : 0);
    }

    private static void deeds() {
        Edge.sentence(14, "DEEDS in a TRAY: 0 to 99: PERSON v by 10 LIVES a YEAR in TRADE v modulo 10;");
        for (int v = 0; v <= 99; v++) {
            boolean can = v / 10 < 6 && v % 10 < 4;
            why(can ? 0 : 1, v, false);
        }
        SecondLife x = Due.town(SIX);
        Due.fill(x, 0, 0, 0, 53, 21);
        x.perform(0);
        Edge.is("PERSON 0 in TRADE 0", x.person(0, 2), 1);
        Edge.is("PERSON 5 in TRADE 3", x.person(5, 2), 4);
        Edge.is("PERSON 2 in TRADE 1", x.person(2, 3), 1);
        why(1, -1, false);

        Edge.sentence(14, "100 to 109: PERSON v - 100 DRAWS;");
        for (int v = 100; v <= 109; v++) {
            why(v <= 105 ? 0 : 1, v, false);
            why(v <= 105 ? 3 : 1, v, true);
        }
        SecondLife y = Due.town(SIX);
        Due.fill(y, 0, 0, 100, 105);
        y.perform(0);
        Edge.is("0 and 5", y.count(5), 33);

        Edge.sentence(14, "110 to 119: PERSON v - 110 REDEEMS;");
        for (int v = 110; v <= 119; v++) {
            why(v <= 115 ? 3 : 1, v, false);
            why(v <= 115 ? 0 : 1, v, true);
        }

        Edge.sentence(14, "1000 to 1999: PERSON (v - 1000) by 100 PLEDGES for v modulo 100;");
        int[] can = {1001, 1050, 1099, 1101, 1199, 1501, 1599};
        for (int v : can) {
            why(0, v, false);
            SecondLife z = Due.town(SIX);
            Due.fill(z, 0, 1, v);
            z.perform(0);
            Edge.is("for how much " + v, z.person((v - 1000) / 100, 8), v % 100);
        }
        int[] cannot = {1000, 1100, 1500, 1600, 1601, 1699, 1999};
        for (int v : cannot) {
            why(1, v, false);
        }
        why(3, 1001, true);

        Edge.sentence(14, "others: 1.");
        long[] others = {-1, -2, 120, 121, 500, 998, 999, 2000, 2001, 99999, 1L << 32, (1L << 32) + 100, -(1L << 32), Long.MAX_VALUE,
            Long.MIN_VALUE, Integer.MIN_VALUE, Integer.MAX_VALUE};
        for (long v : others) {
            why(1, v, false);
            why(1, v, true);
        }
    }

    private static void judge() {
        Edge.sentence(14, "DEEDS, judged as if done,");
        for (int what = 0; what < 4; what++) {
            int of = what;
            SecondLife once = Made.richOne();
            Edge.same(once.judge(0, what), "judge(0, " + what + ")", Made::rich, x -> x.judge(0, of));
            Edge.same(once.judge(2, what), "judge(2, " + what + ")", Made::rich, x -> x.judge(2, of));
        }
        SecondLife y = Due.town("town years 2 trades 1;person;");
        Due.fill(y, 0, 0, 0, 0, 0);
        Edge.is("each is judged behind those ahead of it", y.judge(0, 0), 2);
        Due.fill(y, 0, 1, 1001);
        Edge.is("no CASH", y.judge(0, 1), 4);

        Edge.sentence(14, "what 0: the first place that can't be (NONE),");
        SecondLife x = Due.town("town years 2 trades 1;person;cash 5;");
        Due.fill(x, 0, 1);
        Edge.is("no DEEDS", x.judge(0, 0), Edge.NONE);
        Due.fill(x, 0, 1, 0, 0);
        Edge.is("all can be", x.judge(0, 0), Edge.NONE);
        Due.fill(x, 0, 1, 9, 0, 9);
        Edge.is("the first", x.judge(0, 0), 0);
        Due.fill(x, 0, 1, 0, 9, 9);
        Edge.is("the second", x.judge(0, 0), 1);
        long[] forty = new long[40];
        for (int i = 0; i < 39; i++) {
            forty[i] = i % 2 == 0 ? 1001 : 110;
        }
        forty[39] = 110;
        Due.fill(x, 0, 1, forty);
        Edge.is("all of forty", x.judge(0, 0), Edge.NONE);
        forty[39] = 1001;
        Due.fill(x, 0, 1, forty);
        Edge.is("the last of forty", x.judge(0, 0), 39);

        Edge.sentence(14, "1: why (0),");
        Due.fill(x, 0, 1);
        Edge.is("no DEEDS", x.judge(0, 1), 0);
        Due.fill(x, 0, 1, 0, 0);
        Edge.is("all can be", x.judge(0, 1), 0);
        Due.fill(x, 0, 1, 10, 1006);
        Edge.is("of the first that can't", x.judge(0, 1), 1);
        Due.fill(x, 0, 1, 0, 0, 0);
        Edge.is("OVER", x.judge(0, 1), 2);
        Due.fill(x, 0, 1, 100, 100);
        Edge.is("in LIFE 2", x.judge(0, 1), 2);
        Due.fill(x, 0, 1, 110);
        Edge.is("it hasn't PLEDGED", x.judge(0, 1), 3);
        Due.fill(x, 0, 1, 1006);
        Edge.is("the CASH", x.judge(0, 1), 4);
    }

    private static void judged() {
        Edge.sentence(14, "2: what all HAVE then,");
        SecondLife x = Due.town("town years 2 trades 2;person;person;cash 50;worth : 3 - 5 * trade;");
        x.live(0, 0);
        Due.fill(x, 0, 1);
        Edge.is("no DEEDS: as now", x.judge(0, 2), 3);
        Due.fill(x, 0, 1, 10, 1, 1105);
        Edge.is("3 + 3 - 2 + 5", x.judge(0, 2), 9);
        Due.fill(x, 0, 1, 11, 1, 99, 10);
        Edge.is("till one can't be", x.judge(0, 2), -1);
        Due.fill(x, 0, 1, 99, 10);
        Edge.is("the first can't be: as now", x.judge(0, 2), 3);

        Edge.sentence(14, "3: who is in LIFE 2 then, as bits.");
        Due.fill(x, 0, 1);
        Edge.is("nobody", x.judge(0, 3), 0);
        Due.fill(x, 0, 1, 101);
        Edge.is("PERSON 1", x.judge(0, 3), 2);
        Due.fill(x, 0, 1, 101, 100);
        Edge.is("both", x.judge(0, 3), 3);
        Due.fill(x, 0, 1, 101, 101, 100);
        Edge.is("till one can't be", x.judge(0, 3), 2);
        x.draw(0);
        Due.fill(x, 0, 1);
        Edge.is("who is already", x.judge(0, 3), 1);
        SecondLife six = Due.town(SIX);
        Due.fill(six, 0, 0, 100, 101, 102, 103, 104, 105);
        Edge.is("six", six.judge(0, 3), 63);

        Edge.sentence(14, "-2: the TRAY, what;");
        int[] wrong = {-1, 4, Edge.LEAST, Edge.MOST};
        for (int n : wrong) {
            Edge.no(2, "judge(" + n + ", 0)", Made::rich, y -> y.judge(n, 0));
            Edge.no(2, "judge(0, " + n + ")", Made::rich, y -> y.judge(0, n));
            Edge.no(2, "ahead of MISSING: judge(3, " + n + ")", Made::rich, y -> y.judge(3, n));
        }

        Edge.sentence(14, "-6.");
        for (int what = 0; what < 4; what++) {
            int of = what;
            Edge.no(6, "judge(3, " + what + ")", Made::rich, y -> y.judge(3, of));
            Edge.no(6, "of a new object", Made::nothing, y -> y.judge(0, of));
        }
    }

    private static void perform() {
        Edge.sentence(15, "They are done, till one can't be: how many.");
        SecondLife x = Due.town("town years 2 trades 2;person;person;cash 50;worth : 3 - 5 * trade;");
        Due.fill(x, 0, 1, 0, 11, 99, 10);
        Edge.is("two", x.perform(0), 2);
        Edge.is("all HAVE", x.count(4), 1);
        Edge.is("none behind the one that can't be", x.person(1, 0), 1);
        Edge.is("one call", x.count(7), 1);
        Due.fill(x, 0, 1, 99, 0);
        Edge.is("none", x.perform(0), 0);
        Edge.is("no call", x.count(7), 1);
        Due.fill(x, 0, 1);
        Edge.is("no DEEDS", x.perform(0), 0);
        Edge.is("no call", x.count(7), 1);
        long[] forty = new long[40];
        for (int i = 0; i < 40; i++) {
            forty[i] = i % 2 == 0 ? 1001 : 110;
        }
        Due.fill(x, 1, 1, forty);
        Edge.is("forty", x.perform(1), 40);
        Edge.is("as a whole", x.undo(2), 0);
        Edge.is("undone", x.count(4), 0);
        Due.fill(x, 0, 0, 100, 101);
        Edge.is("all", x.perform(0), 2);
        Edge.is("both DREW", x.count(5), 3);
        SecondLife y = Due.town("town years 2 trades 2;person;");
        Due.fill(y, 0, 1, 0);
        Edge.is("one", y.perform(0), 1);
        Edge.is("one call", y.undo(1), 0);

        Edge.sentence(15, "-2;");
        int[] wrong = {-1, 4, Edge.LEAST, Edge.MOST};
        for (int n : wrong) {
            Edge.no(2, "perform(" + n + ")", Made::rich, z -> z.perform(n));
        }

        Edge.sentence(15, "-6.");
        Edge.no(6, "perform(3)", Made::rich, z -> z.perform(3));
        Edge.no(6, "of a new object", Made::nothing, z -> z.perform(0));
    }

    // ---- seasons

    private static int x;

    private static int drawn() {
        x = 1103515245 * x + 12345;
        return x >>> 16;
    }

    /** A seed whose first DRAWS leave these rests. */
    private static int seed(int kind, int p, int modulo, int rest) {
        for (int seed = -5000; seed < 5000000; seed++) {
            x = seed;
            if (drawn() % 6 == kind && drawn() % 6 == p && (modulo == 1 || drawn() % modulo == rest)) {
                return seed;
            }
        }
        return 0;
    }

    private static void seasons() {
        Edge.sentence(16, "A SEASON by a SEED (x, an int; a DRAW: x becomes 1103515245 x + 12345, it is x >>> 16):");
        // 12345 >>> 16 is 0: it LIVES; -740551042 >>> 16 is 54236: PERSON 2; -1492899873 >>> 16 is 42756: TRADE 0
        SecondLife a = Due.town(SIX);
        Edge.is("seed 0", a.season(0, 1), 1);
        Edge.is("PERSON 2 LIVED", a.person(2, 0), 1);
        Edge.is("in TRADE 0", a.person(2, 3), 0);
        int[] seeds = {0, 1, -1, 65535, 65536, Edge.LEAST, Edge.MOST, -12345, 1 << 30};
        for (int seed : seeds) {
            SecondLife b = Due.town(SIX);
            SecondLife c = Due.town(SIX);
            Edge.is("seed " + seed, b.season(seed, 40), byHand(c, seed, 40));
            for (int i = 0; i < 54; i++) {
                Edge.is("seed " + seed + " person(" + i / 9 + ", " + i % 9 + ")", b.person(i / 9, i % 9), c.person(i / 9, i % 9));
            }
            Edge.is("CASH", b.count(3), c.count(3));
        }

        Edge.sentence(16, "so many times (1 to 40):");
        for (int times = 1; times <= 40; times++) {
            Edge.is(times + " times", Due.town(SIX).season(77, times), byHand(Due.town(SIX), 77, times));
        }

        Edge.sentence(16, "DRAW modulo 6: 0 to 3 PERSON DRAW modulo 6 LIVES a YEAR in TRADE DRAW modulo 4;");
        for (int kind = 0; kind <= 3; kind++) {
            for (int p = 0; p < 6; p++) {
                for (int t = 0; t < 4; t++) {
                    SecondLife b = Due.town(SIX);
                    Edge.is("kind " + kind, b.season(seed(kind, p, 4, t), 1), 1);
                    Edge.is("PERSON " + p + " LIVED", b.person(p, 0), 1);
                    Edge.is("in TRADE " + t, b.person(p, 3), t);
                    Edge.is("only that", b.count(4), t + 1);
                }
            }
        }

        Edge.sentence(16, "4 PERSON DRAW modulo 6 DRAWS;");
        for (int p = 0; p < 6; p++) {
            SecondLife b = Due.town(SIX);
            Edge.is("one", b.season(seed(4, p, 1, 0), 1), 1);
            Edge.is("PERSON " + p, b.count(5), 1 << p);
        }
        SecondLife d = Due.town(SIX);
        int twice = seed(4, 2, 6, 0);
        x = twice;
        drawn();
        drawn();
        drawn();
        int next = drawn() % 6;
        d.season(twice, 2);
        Edge.is("it takes two DRAWS, the third begins the next", d.person(next, 0), 1);

        Edge.sentence(16, "5 PERSON DRAW modulo 6 PLEDGES for 1 and DRAW modulo 9;");
        for (int p = 0; p < 6; p++) {
            for (int n = 0; n < 9; n++) {
                SecondLife b = Due.town(SIX);
                Edge.is("one", b.season(seed(5, p, 9, n), 1), 1);
                Edge.is("PERSON " + p + " has PLEDGED for", b.person(p, 8), n + 1);
                Edge.is("CASH", b.count(3), 998 - n);
            }
        }

        Edge.sentence(16, "as in a TRAY, if it can be.");
        String few = "town years 1 trades 1;person;cash 3;";
        Edge.is("no such PERSON", Due.town(few).season(seed(0, 1, 4, 0), 1), 0);
        Edge.is("no such TRADE", Due.town(few).season(seed(0, 0, 4, 1), 1), 0);
        Edge.is("not so much CASH", Due.town(few).season(seed(5, 0, 9, 3), 1), 0);
        Edge.is("just so much", Due.town(few).season(seed(5, 0, 9, 2), 1), 1);
        for (int seed = 0; seed < 40; seed++) {
            SecondLife b = Due.town(few);
            SecondLife c = Due.town(few);
            Edge.is("what can't be is gone past, seed " + seed, b.season(seed, 40), byHand(c, seed, 40));
            for (int what = 0; what < 9; what++) {
                Edge.is("person(0, " + what + ")", b.person(0, what), c.person(0, what));
            }
        }
    }

    /** Each of a SEASON's deeds by a call of its own. */
    private static int byHand(SecondLife town, int seed, int times) {
        x = seed;
        int done = 0;
        for (int i = 0; i < times; i++) {
            int kind = drawn() % 6;
            int p = drawn() % 6;
            int answer = kind < 4 ? town.live(p, drawn() % 4) : kind == 4 ? town.draw(p) : town.pledge(p, 1 + drawn() % 9);
            done += answer > -1000 ? 1 : 0;
        }
        return done;
    }

    private static void season() {
        Edge.sentence(16, "A SEASON: how many could be.");
        SecondLife a = Due.town(SIX);
        int could = a.season(5, 40);
        Edge.is("as by hand", could, byHand(Due.town(SIX), 5, 40));
        Edge.is("one call", a.count(7), 1);
        Edge.is("as a whole", a.undo(1), 0);
        Edge.is("all HAVE", a.count(4), 0);
        Edge.is("CASH", a.count(3), 999);
        SecondLife c = Due.town(SIX);
        Edge.is("one", c.season(0, 1), 1);
        Edge.is("one call", c.undo(1), 0);
        SecondLife b = Due.town("town years 1 trades 1;");
        Edge.is("nobody", b.season(5, 40), 0);
        Edge.is("no call", b.count(7), 0);

        Edge.sentence(16, "-3: how many times.");
        int[] wrong = {0, -1, 41, Edge.LEAST, Edge.MOST};
        for (int n : wrong) {
            Edge.no(3, "season(1, " + n + ")", Made::rich, y -> y.season(1, n));
        }
        Edge.no(3, "of a new object", Made::nothing, y -> y.season(1, 0));
    }
}
