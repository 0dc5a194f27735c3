/** The edges of RUNS and RESTS: promises 29 to 34, and the terms that bind them. */
final class RunEdges {
    private RunEdges() {
    }

    static void all() {
        runs();
        terms();
        run();
        rounds();
        spark();
        calm();
        rests();
    }

    // ---- the terms

    private static void runs() {
        Edge.sentence(29, "A RUN: some begin it;");
        SecondLife x = Made.fears(9, 9, 9);
        for (int set = 0; set < 8; set++) {
            Edge.is("who begins stays in it: " + set, x.run(set), set);
        }
        Edge.is("nobody, in a town of nobody", new SecondLife().run(0), 0);

        Edge.sentence(29, "then in rounds each other one joins who sees at least as many in it as its fear (9: at least nine), till nobody does.");
        SecondLife y = Made.fears(2, 2, 3, 9, 9);
        Edge.is("one is seen, two are needed", y.run(8), 8);
        Edge.is("two are seen", y.run(24), 31);
        Edge.is("all who see two join at once", y.rounds(24), 2);
        Edge.is("fear 0 sees enough at once", Made.fears(0).run(0), 1);
        Edge.is("fear 1 doesn't", Made.fears(1).run(0), 0);
        for (int fear = 0; fear <= 9; fear++) {
            SecondLife z = Made.fears(fear, 9, 9, 9, 9, 9);
            for (int k = 0; k <= 5; k++) {
                int set = (1 << k) - 1 << 1;
                Edge.is("fear " + fear + " sees " + k, z.run(set), set | (k >= fear ? 1 : 0));
            }
        }
    }

    private static void terms() {
        Edge.sentence(33, "A REST: a set so that each in it sees at least as many others in it as its fear, and each out of it fewer.");
        SecondLife x = Made.fears(1, 1);
        Edge.is("nobody, both", x.rests(), 2);
        Edge.is("nobody", x.rest(0), 0);
        Edge.is("both: each sees the other, not itself", x.rest(1), 3);
        Edge.is("one alone sees none", Made.fears(1).rests(), 1);
        Edge.is("so nobody", Made.fears(1).rest(0), 0);
        Edge.is("fear 0 is never out of it", Made.fears(0).rests(), 1);
        Edge.is("but in it", Made.fears(0).rest(0), 1);
        // 0 must be in it; 1 sees one, so it must too
        Edge.is("each out of it fewer", Made.fears(0, 1).rest(0), 3);
        Edge.is("only that", Made.fears(0, 1).rests(), 1);
        Edge.is("fear 5 of six", Made.fears(5, 5, 5, 5, 5, 5).rests(), 2);
        Edge.is("all", Made.fears(5, 5, 5, 5, 5, 5).rest(1), 63);
        Edge.is("fear 6 of six", Made.fears(6, 6, 6, 6, 6, 6).rests(), 1);
    }

    // ---- the calls

    private static final int[] NO_SET = {8, 9, 15, 64, -1, -8, Edge.LEAST, Edge.MOST};

    private static void run() {
        Edge.sentence(29, "A RUN that a set of PEOPLE begins: who is in it in the end, as bits.");
        SecondLife x = Made.fears(1, 2, 3, 4, 5, 6);
        Edge.is("nobody", x.run(0), 0);
        Edge.is("the last", x.run(32), 63);
        Edge.is("the first", x.run(1), 1);
        Edge.is("all", x.run(63), 63);
        Edge.same(7, "run(4)", Made::rich, y -> y.run(4));
        Edge.same(3, "run(0)", Made::rich, y -> y.run(0));

        Edge.sentence(29, "-3: others are in the set.");
        for (int set : NO_SET) {
            Edge.no(3, "run(" + set + ")", Made::rich, y -> y.run(set));
        }
        Edge.no(3, "64 of six", x.run(64));
        Edge.no(3, "1 of nobody", Made::nothing, y -> y.run(1));
    }

    private static void rounds() {
        Edge.sentence(30, "How many rounds it takes (0: nobody joins).");
        SecondLife x = Made.fears(1, 2, 3, 4, 5, 6);
        Edge.is("nobody joins nobody", x.rounds(0), 0);
        Edge.is("nobody joins the first", x.rounds(1), 0);
        Edge.is("nobody is left", x.rounds(63), 0);
        Edge.is("one by one", x.rounds(32), 5);
        Edge.is("all at once", Made.fears(1, 1, 1, 1, 1, 9).rounds(32), 1);
        Edge.is("from nobody on", Made.fears(0, 1, 2, 3, 4, 5).rounds(0), 6);
        Edge.is("a town of nobody", new SecondLife().rounds(0), 0);
        Edge.same(2, "rounds(0)", Made::rich, y -> y.rounds(0));

        Edge.sentence(30, "-3.");
        for (int set : NO_SET) {
            Edge.no(3, "rounds(" + set + ")", Made::rich, y -> y.rounds(set));
        }
        Edge.no(3, "1 of nobody", Made::nothing, y -> y.rounds(1));
    }

    private static void spark() {
        Edge.sentence(31, "The fewest who begin a RUN in which there are n (1 to 6) at least in the end,");
        SecondLife x = Made.fears(1, 2, 3, 4, 5, 9);
        // 0 alone brings nobody; 5 alone brings all
        int[] due = {1, 2, 4, 8, 16, 32};
        for (int n = 1; n <= 6; n++) {
            Edge.is("spark(" + n + ")", x.spark(n), due[n - 1]);
        }
        Edge.is("two are fewer than a lesser set of three", Made.fears(9, 9, 9, 2, 2, 9).spark(4), 3);
        Edge.is("nobody needs to", Made.fears(0, 1, 2).spark(3), 0);
        Edge.is("all must", Made.fears(9, 9, 9, 9, 9, 9).spark(6), 63);

        Edge.sentence(31, "of like ones the least set as bits.");
        Edge.is("1 of six", Made.fears(9, 9, 9, 9, 9, 9).spark(1), 1);
        Edge.is("two of six", Made.fears(9, 9, 9, 9, 9, 9).spark(2), 3);
        Edge.is("by the third or the last", Made.fears(1, 1, 9, 9).spark(3), 4);
        Edge.same(4, "spark(3)", Made::rich, y -> y.spark(3));

        Edge.sentence(31, "NONE: there aren't so many;");
        Edge.is("4 of three", Made.fears(0, 0, 0).spark(4), Edge.NONE);
        Edge.is("3 of three", Made.fears(0, 0, 0).spark(3), 0);
        Edge.is("1 of nobody", new SecondLife().spark(1), Edge.NONE);
        Edge.is("6 of nobody", new SecondLife().spark(6), Edge.NONE);
        Edge.same(Edge.NONE, "spark(4)", Made::rich, y -> y.spark(4));

        Edge.sentence(31, "-3: n.");
        int[] wrong = {0, -1, 7, Edge.LEAST, Edge.MOST};
        for (int n : wrong) {
            Edge.no(3, "spark(" + n + ")", Made::rich, y -> y.spark(n));
            Edge.no(3, "ahead of NONE: spark(" + n + ")", Made::nothing, y -> y.spark(n));
        }
    }

    private static void calm() {
        Edge.sentence(32, "The fewest to be calmed (others than those who begin it: they never join)");
        SecondLife x = Made.fears(2, 2, 1, 4, 9);
        // begun by 4, PERSON 2 joins first; without it nobody does
        Edge.is("one is enough", x.calm(16, 1), 4);
        Edge.is("who begins it can't be calmed", Made.fears(9, 9).calm(3, 1), Edge.NONE);
        Edge.is("nor when it would do", Made.fears(1, 9).calm(2, 1), 1);
        Edge.is("two never join", Made.fears(1, 1, 9).calm(4, 1), 3);
        Edge.is("nobody needs to be", Made.fears(9, 9, 9).calm(5, 2), 0);

        Edge.sentence(32, "so that in a RUN that a set begins there are n (0 to 6) at most in the end,");
        SecondLife y = Made.fears(0, 0, 0, 0, 0, 0);
        int[] due = {63, 31, 15, 7, 3, 1, 0};
        for (int n = 0; n <= 6; n++) {
            Edge.is("calm(0, " + n + ")", y.calm(0, n), due[n]);
        }
        Edge.is("just so many begin it", y.calm(1, 1), 62);
        Edge.is("one more may join", y.calm(1, 2), 30);
        Edge.is("nobody joins", Made.fears(9).calm(0, 0), 0);
        Edge.is("a town of nobody", new SecondLife().calm(0, 0), 0);
        Edge.is("a town of nobody", new SecondLife().calm(0, 6), 0);

        Edge.sentence(32, "of like ones the least set as bits.");
        Edge.is("one of five", Made.fears(1, 1, 1, 1, 1, 9).calm(32, 5), 1);
        Edge.is("two of five", Made.fears(1, 1, 1, 1, 1, 9).calm(32, 4), 3);
        Edge.is("a fewer one though greater", Made.fears(2, 2, 1, 9).calm(8, 1), 4);
        // with one calmed all others join, whichever it is
        Edge.same(1, "calm(4, 2)", Made::rich, z -> z.calm(4, 2));

        Edge.sentence(32, "NONE: too many begin it;");
        Edge.is("1 for 0", Made.fears(9).calm(1, 0), Edge.NONE);
        Edge.is("1 for 1", Made.fears(9).calm(1, 1), 0);
        Edge.is("6 for 5", y.calm(63, 5), Edge.NONE);
        Edge.is("6 for 6", y.calm(63, 6), 0);
        Edge.same(Edge.NONE, "calm(7, 2)", Made::rich, z -> z.calm(7, 2));

        Edge.sentence(32, "-3: the set, n.");
        for (int set : NO_SET) {
            Edge.no(3, "calm(" + set + ", 3)", Made::rich, z -> z.calm(set, 3));
            Edge.no(3, "ahead of NONE: calm(" + set + ", 0)", Made::rich, z -> z.calm(set, 0));
        }
        int[] wrong = {-1, 7, Edge.LEAST, Edge.MOST};
        for (int n : wrong) {
            Edge.no(3, "calm(0, " + n + ")", Made::rich, z -> z.calm(0, n));
            Edge.no(3, "ahead of NONE: calm(7, " + n + ")", Made::rich, z -> z.calm(7, n));
        }
        Edge.no(3, "1 of nobody", Made::nothing, z -> z.calm(1, 0));
    }

    private static void rests() {
        Edge.sentence(33, "How many RESTS there are.");
        Edge.is("a town of nobody: its only set", new SecondLife().rests(), 1);
        // two pairs by two fears: nobody; 0 and 1; all four
        Edge.is("three", Made.fears(1, 1, 3, 3).rests(), 3);
        Edge.is("only nobody", Made.fears(9, 9, 9).rests(), 1);
        Edge.is("only all", Made.fears(0, 0, 0).rests(), 1);
        // PEOPLE 1 and 2 need two others each, so they need one another and 0
        Edge.is("nobody or all", Made.fears(1, 2, 2).rests(), 2);
        // PEOPLE 0 and 1 see one another: 2, who needs two, then sees two
        Edge.is("nobody or all", Made.fears(1, 1, 2).rests(), 2);
        Edge.is("one in it, one out of it", Made.fears(0, 9).rests(), 1);
        Edge.same(1, "rests()", Made::rich, z -> z.rests());

        Edge.sentence(34, "The k-th REST, by its bits as a number.");
        SecondLife x = Made.fears(1, 1, 3, 3);
        Edge.is("from 0 on", x.rest(0), 0);
        Edge.is("1", x.rest(1), 3);
        Edge.is("2", x.rest(2), 15);
        Edge.is("a town of nobody", new SecondLife().rest(0), 0);
        Edge.is("all six", Made.fears(0, 0, 0, 0, 0, 0).rest(0), 63);

        Edge.sentence(34, "NONE: not so many;");
        Edge.is("3", x.rest(3), Edge.NONE);
        Edge.is("the greatest", x.rest(Edge.MOST), Edge.NONE);
        Edge.is("a town of nobody", new SecondLife().rest(1), Edge.NONE);
        Edge.same(Edge.NONE, "rest(1)", Made::rich, z -> z.rest(1));

        Edge.sentence(34, "-3: k is below 0.");
        Edge.no(3, "rest(-1)", Made::rich, z -> z.rest(-1));
        Edge.no(3, "the least", Made::rich, z -> z.rest(Edge.LEAST));
        Edge.no(3, "a town of nobody", Made::nothing, z -> z.rest(-1));
    }
}
