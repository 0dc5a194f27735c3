/** The edges of what TALENT one has: promises 27 and 28, and the terms that bind them. */
final class TalentEdges {
    private static final int[] NOBODY = {-1, 3, 6, Edge.LEAST, Edge.MOST};
    private static final int[] NO_TRAY = {-1, 4, Edge.LEAST, Edge.MOST};

    private TalentEdges() {
    }

    static void all() {
        lived();
        talents();
        talentsRefused();
        attempt();
        attemptRefused();
    }

    private static SecondLife lived(String town, long... trades) {
        SecondLife x = Due.town(town);
        Due.fill(x, 0, 3, trades);
        return x;
    }

    private static void lived() {
        String town = "town years 6 trades 2;person;worth : talent * trade;";
        Edge.sentence(27, "LIVED in a TRAY (1 to 12 numbers):");
        Edge.no(4, "none", lived(town).talents(0, 0, 0));
        Edge.is("one", lived(town, 1).talents(0, 0, 5), 1 << 5);
        Edge.is("six", lived(town, 1, 1, 1, 1, 1, 0).talents(0, 0, 25), 1 << 5);
        int[] many = {7, 11, 12, 13, 40};
        for (int n : many) {
            Edge.no(4, n + " numbers", lived(town, new long[n]).talents(0, 0, 0));
        }

        Edge.sentence(27, "TRADES of YEARS from now on, one behind the other (as many as this LIFE still has, at most):");
        String habit = "town years 3 trades 2;person;grows : 1;worth : talent * streak - last + 9 * life;";
        // 9 - 9, then talent - last + 9
        SecondLife x = lived(habit, 1, 1);
        Edge.is("0 + talent + 8, 9 at most", x.talents(0, 0, 9), 0x3fe);
        Edge.is("by TALENT 0", x.talents(0, 0, 8), 1);
        x.live(0, 0);
        // talent - 0 + 9, then 2 talent or talent, less 1 or 0, and 9
        Edge.is("from now on: 9 + 9", x.talents(0, 0, 18), 0x3fe);
        Edge.is("9 + 8", x.talents(0, 0, 17), 1);
        x.live(0, 0);
        Edge.no(4, "one is left", x.talents(0, 0, 18));
        Due.fill(x, 0, 3, 1);
        Edge.is("one", x.talents(0, 0, 9), 0x3ff);
        x.live(0, 0);
        Edge.no(4, "OVER: none is left", x.talents(0, 0, 9));
        x.draw(0);
        Edge.is("LIFE 2 has two", x.talents(0, 0, 9), 0x3ff);
        Due.fill(x, 0, 3, 1, 1, 1);
        Edge.no(4, "but no three", x.talents(0, 0, 9));

        Edge.sentence(27, "TALENTS 0 to 9 by which they are WORTH a told number together.");
        SecondLife y = lived(town, 1);
        for (int t = 0; t <= 9; t++) {
            Edge.is("WORTH " + t, y.talents(0, 0, t), 1 << t);
        }
        Edge.is("10: none", y.talents(0, 0, 10), 0);
        Edge.is("-1: none", y.talents(0, 0, -1), 0);
        SecondLife z = lived("town years 2 trades 1;person talent 3;worth : talent * talent - 20;", 0);
        Edge.is("each YEAR is WORTH 9 at most", z.talents(0, 0, 9), 0x3c0);
        Edge.is("and -9 at least", z.talents(0, 0, -9), 0xf);
        Edge.is("just -4", z.talents(0, 0, -4), 1 << 4);
        Edge.is("not what it HAS", z.live(0, 0), -9);
        Edge.is("but what is yet to come", z.talents(0, 0, -9), 0xf);
    }

    private static void talents() {
        Edge.sentence(27, "LIVED: TALENTS, as bits.");
        SecondLife x = lived("town years 1 trades 2;person talent 7;worth : talent * trade;", 0);
        Edge.is("all", x.talents(0, 0, 0), 1023);
        Edge.is("none", x.talents(0, 0, 1), 0);
        Edge.is("none", x.talents(0, 0, Edge.LEAST), 0);
        Edge.is("none", x.talents(0, 0, Edge.MOST), 0);
        Due.fill(x, 0, 0, 1);
        Edge.is("the last", x.talents(0, 0, 9), 512);
        Edge.is("the TALENT stays", x.person(0, 6), 7);
        Edge.is("nothing can be UNDONE", x.count(7), 0);
        SecondLife y = Due.town("town years 1 trades 1;person;");
        for (int sort = 0; sort < 4; sort++) {
            for (int tray = 0; tray < 4; tray++) {
                Due.fill(y, tray, sort, 0);
                Edge.is("TRAY " + tray + " of sort " + sort, y.talents(tray, 0, 1), 1023);
            }
        }
    }

    /** PERSON 2 of Made.rich() has three YEARS and two TRADES. */
    private static void with(SecondLife x, long... trades) {
        Made.rich(x);
        Due.fill(x, 0, 3, trades);
    }

    private static void talentsRefused() {
        Edge.sentence(27, "-2: the TRAY, the PERSON;");
        for (int tray : NO_TRAY) {
            Edge.no(2, "TRAY " + tray, Made::rich, x -> x.talents(tray, 2, 0));
        }
        for (int p : NOBODY) {
            Edge.no(2, "PERSON " + p, Made::rich, x -> x.talents(2, p, 0));
            Edge.no(2, "ahead of MISSING: PERSON " + p, Made::rich, x -> x.talents(3, p, 0));
            Edge.no(2, "ahead of too many: PERSON " + p, Made::rich, x -> x.talents(0, p, 0));
        }

        Edge.sentence(27, "-6;");
        Edge.no(6, "TRAY 3", Made::rich, x -> x.talents(3, 2, 0));
        Edge.no(6, "whose LIFE is OVER", Made::rich, x -> x.talents(3, 0, 0));

        Edge.sentence(27, "-4: not 1 to 12 numbers,");
        Edge.no(4, "no numbers", Made::rich, x -> x.talents(1, 2, 0));
        Edge.no(4, "thirteen", y -> with(y, new long[13]), x -> x.talents(0, 2, 0));

        Edge.sentence(27, "more than this LIFE has;");
        Edge.is("three of three", trayOf(0, 1, 0).talents(0, 2, 1 + 1 - 1), 1 << 1);
        Edge.no(4, "four of three", y -> with(y, 0, 1, 0, 1), x -> x.talents(0, 2, 0));
        Edge.no(4, "ahead of no TRADE", y -> with(y, 7, 7, 7, 7), x -> x.talents(0, 2, 0));
        Edge.no(4, "three of two", y -> with(y, 0, 1, 0), x -> x.talents(0, 1, 0));
        Edge.no(4, "one of none", y -> with(y, 0), x -> x.talents(0, 0, 0));

        Edge.sentence(27, "-3: one is no TRADE.");
        Edge.no(3, "1 and 2", Made::rich, x -> x.talents(2, 2, 0));
        long[] none = {-1, 2, 3, 9, 1L << 32, (1L << 32) + 1, Long.MIN_VALUE, Long.MAX_VALUE};
        for (long v : none) {
            Edge.no(3, v + " first", y -> with(y, v, 0, 0), x -> x.talents(0, 2, 0));
            Edge.no(3, v + " last", y -> with(y, 0, 0, v), x -> x.talents(0, 2, 0));
        }
    }

    private static SecondLife trayOf(long... trades) {
        SecondLife x = new SecondLife();
        with(x, trades);
        return x;
    }

    private static void attempt() {
        Edge.sentence(28, "The TRADE to try next (one YEAR of it now):");
        // YEAR 0: TRADE 0 tells all apart, TRADE 1 none; YEAR 1 the other way round
        SecondLife x = lived("town years 2 trades 2;person talent 1;worth : if year = trade then talent else 0 end;", 1);
        Edge.is("in YEAR 0", x.attempt(0, 0, 0), 0);
        x.live(0, 1);
        Edge.is("in YEAR 1", x.attempt(0, 0, 1), 0);
        Due.fill(x, 0, 0, 0);
        Edge.is("in YEAR 1", x.attempt(0, 0, 0), 1);
        SecondLife y = lived("town years 2 trades 2;person talent 1;worth : if year = trade then talent else 0 end;", 1, 0);
        Edge.is("now, not behind those in the TRAY, when LIFE is OVER", y.attempt(0, 0, 0), 0);
        Edge.is("nothing is done", y.count(7), 0);
        Edge.is("the TALENT stays", y.person(0, 6), 1);

        Edge.sentence(28, "the greatest number of these TALENTS by which it is WORTH the same is least,");
        // TRADE 0: all alike. 1: five and five. 2: six alike, the others apart. 3: four, three, three
        String town = "town years 1 trades 4;person;worth : if trade = 0 then 1 else if trade = 1 then if talent < 5 then 1 else 2 end else "
                + "if trade = 2 then if talent < 6 then 1 else talent end else "
                + "if talent < 4 then 1 else if talent < 7 then 2 else 3 end end end end end;";
        Edge.is("of all", lived(town, 0).attempt(0, 0, 1), 3);
        // TRADE 1 left 5 to 9: by 2 they are two alike at most (5 and none: 1, 6, 7, 8, 9), by 3 three
        Edge.is("of 5 to 9", lived(town, 1).attempt(0, 0, 2), 2);
        // of 0 to 4: by 2 five alike, by 3 four
        Edge.is("of 0 to 4", lived(town, 1).attempt(0, 0, 1), 3);

        // TRADE 2 left 0 and 1, which TRADE 1 tells apart
        Edge.is("of 0 and 1", lived("town years 1 trades 3;person;worth : if trade = 0 then 0 else if trade = 1 then talent else "
                + "if talent < 2 then 0 else 1 end end end;", 2).attempt(0, 0, 0), 1);
        Edge.is("alike by -9", lived("town years 1 trades 2;person;worth : if trade = 0 then 0 - 20 else talent - 5 end;", 0)
                .attempt(0, 0, -9), 1);
        Edge.is("alike by 9", lived("town years 1 trades 2;person;worth : if trade = 0 then 20 else talent - 5 end;", 0)
                .attempt(0, 0, 9), 1);
        Edge.is("of the TRADES there are", lived("town years 1 trades 2;person;worth : if trade > 1 then talent else 0 end;", 0)
                .attempt(0, 0, 0), 0);

        Edge.sentence(28, "the first.");
        Edge.is("one is left: each will do", lived(town, 2).attempt(0, 0, 9), 0);
        Edge.is("none tells them apart", lived("town years 1 trades 4;person;", 3).attempt(0, 0, 1), 0);
        Edge.is("two that do", lived("town years 1 trades 3;person;worth : if trade = 0 then 0 else talent end;", 0).attempt(0, 0, 0), 1);
    }

    private static void attemptRefused() {
        Edge.sentence(28, "NONE: there are none;");
        SecondLife x = lived("town years 1 trades 2;person;", 1);
        Edge.is("none", x.attempt(0, 0, 2), Edge.NONE);
        Edge.is("none", x.attempt(0, 0, Edge.MOST), Edge.NONE);
        Edge.is("some", x.attempt(0, 0, 1), 0);
        Edge.same(Edge.NONE, "attempt(0, 2, 99)", y -> with(y, 0), z -> z.attempt(0, 2, 99));

        Edge.sentence(28, "as talents().");
        for (int tray : NO_TRAY) {
            Edge.no(2, "TRAY " + tray, Made::rich, z -> z.attempt(tray, 2, 0));
        }
        for (int p : NOBODY) {
            Edge.no(2, "PERSON " + p, Made::rich, z -> z.attempt(2, p, 0));
            Edge.no(2, "ahead of MISSING: PERSON " + p, Made::rich, z -> z.attempt(3, p, 0));
        }
        Edge.no(6, "TRAY 3", Made::rich, z -> z.attempt(3, 2, 0));
        Edge.no(4, "no numbers", Made::rich, z -> z.attempt(1, 2, 0));
        Edge.no(4, "more than this LIFE has", y -> with(y, 7, 7, 7, 7), z -> z.attempt(0, 2, 0));
        Edge.no(4, "OVER", y -> with(y, 0), z -> z.attempt(0, 0, 0));
        Edge.no(3, "no TRADE, ahead of NONE", Made::rich, z -> z.attempt(2, 2, 99));
    }
}
