/** The edges of COURSES: promises 17 to 21, and the terms that bind them. */
final class CourseEdges {
    private static final int[] NOBODY = {-1, 3, 6, Edge.LEAST, Edge.MOST};

    private CourseEdges() {
    }

    static void all() {
        made();
        seen();
        ends();
        bestOfAll();
        fewest();
        first();
        best();
        course();
        drawsAt();
        courses();
        soonest();
    }

    private static void course(SecondLife x, int... due) {
        for (int i = 0; i < due.length; i++) {
            Edge.is("doing " + i, x.course(0, i), due[i]);
        }
        Edge.is("no more", x.course(0, due.length), Edge.NONE);
    }

    // ---- the terms

    private static void made() {
        Edge.sentence(17, "A COURSE of a PERSON from now on: YEARS LIVED in TRADES, and a DRAWING at most (told as 9), one behind the other,");
        SecondLife x = Due.town("town years 2 trades 2;person;worth : trade + life;");
        course(x, 1, 1, 9, 1, 1);
        x.live(0, 0);
        course(x, 1, 9, 1, 1);
        Edge.is("what is LIVED is none of it", x.best(0), 8);
        x.draw(0);
        course(x, 1, 1);
        Edge.is("no second DRAWING", x.best(0), 6);
        x.live(0, 1);
        course(x, 1);
        x.live(0, 1);
        course(x);
    }

    /** What the laws see of a PERSON as it stands now, and of where it could come to stand. */
    private static void seen() {
        Edge.sentence(17, "A COURSE of a PERSON from now on:");
        SecondLife x = Due.town("town years 6 trades 4;person;grows : 6;worth : if trade = last then streak else 0 end;");
        Edge.is("streaks 1 to 5", x.best(0), 1 + 2 + 3 + 4 + 5);
        x.live(0, 2);
        x.live(0, 2);
        Edge.is("a streak of 2 that stands", x.best(0), 2 + 3 + 4 + 5);
        course(x, 2, 2, 2, 2);
        x.live(0, 3);
        Edge.is("a streak of 1 that stands", x.best(0), 1 + 2 + 3);
        course(x, 3, 3, 3);
        Edge.is("mean", x.mean(0, 0), 6);
        Edge.is("hope", x.hope(0, 6, 0), 1);
        Edge.is("soonest 0 + 1 + 0 + 1 + 2", x.soonest(0, 4), 2);
        SecondLife s = Due.town("town years 6 trades 1;person;grows : 6;worth : 5 - streak * 2;");
        Edge.is("no streak, then 1, then 2", s.best(0), 5 + 3 + 1);
        s.live(0, 0);
        Edge.is("a streak of 1 in TRADE 0", s.best(0), 3 + 1);
        SecondLife u = Due.town("town years 3 trades 1;person talent 1;person talent 7;grows : 3;worth : talent - year;");
        u.live(0, 0);
        u.live(0, 0);
        Edge.is("nothing more is WORTH anything", u.best(0), 0);
        Edge.is("the other's TALENT is asked for", u.worth(1, 0), 7);
        u.undo(2);
        Edge.is("its own TALENT counts", u.best(0), 1);
        SecondLife y = Due.town("town years 2 trades 1;person;worth : if life = 1 then old + 1 else old * 2 + 1 end;");
        Edge.is("1 + 1 in LIFE 1, old 2 in LIFE 2", y.best(0), 2 + 5 + 5);
        y.live(0, 0);
        y.draw(0);
        Edge.is("old 1 that stands", y.best(0), 3 + 3);
        y.live(0, 0);
        Edge.is("a YEAR of it", y.best(0), 3);
        SecondLife z = Due.town("town years 3 trades 2;person talent 1;person talent 3;person talent 2;grows : talent;worth : talent;");
        Edge.is("TALENT 1", z.best(0), 3 + 2);
        Edge.is("TALENT 3", z.best(1), 9);
        Edge.is("TALENT 2", z.best(2), 6 + 2);
        Edge.is("TALENT 1", z.courses(0), 4 * (1 + 2 + 4 + 8));
        Edge.is("TALENT 3", z.courses(1), 1 + 2 + 4 + 8);
        z.talent(0, 2);
        Edge.is("a TALENT it came to have", z.best(0), 6 + 2);
        z.undo(1);
        Edge.is("UNDONE", z.best(0), 3 + 2);
        z.live(0, 0);
        z.live(0, 0);
        Edge.is("from YEAR 2 on", z.courses(0), 4 * (1 + 2));
        SecondLife w = Due.town("town years 2 trades 1;person;grows : year;worth : if life = 2 then year * 2 + 1 else year end;");
        // drawn in YEAR 0: 1 + 3; in YEAR 1: 0 + 3; never: 0 + 1
        Edge.is("years and lives", w.best(0), 4);
        course(w, 9, 0, 0);
    }

    private static void ends() {
        Edge.sentence(17, "till nothing more can be done or it stops (that it may do any time; nothing else is done, nobody dies).");
        SecondLife x = Due.town("town years 3 trades 1;person;worth : 2 - year * 3 - life * 0;grows : 3;");
        Edge.is("it stops behind a YEAR", x.best(0), 2);
        course(x, 0);
        SecondLife y = Due.town("town years 3 trades 1;person;worth : 0 - 1;");
        Edge.is("it stops at once", y.best(0), 0);
        course(y);
        SecondLife z = Due.town("town years 1 trades 1;person;worth : if life = 1 then 0 - 1 else if old = 0 then 0 - 1 else 3 end end;");
        Edge.is("through a bad YEAR", z.best(0), 2);
        course(z, 0, 9, 0);
        SecondLife p = Due.town("town years 1 trades 1;person;cash 9;worth : if life = 2 then 9 else 1 end;");
        p.pledge(0, 9);
        Edge.is("nothing else: it doesn't REDEEM", p.best(0), 1);
        Edge.is("nor PLEDGE", Due.town("town years 1 trades 1;person;cash 9;worth : 0 - 1;").soonest(0, 1), Edge.NONE);
        Edge.is("nobody dies", Due.town("town years 2 trades 1;person;dies 10;").best(0), 4);
    }

    private static void bestOfAll() {
        Edge.sentence(17, "THE BEST COURSE: the most it is WORTH, all YEARS together,");
        SecondLife x = Due.town("town years 3 trades 2;person;worth : if life = 2 then 0 else if year = 0 then 3 - trade * 4 else last * 9 end end;");
        // TRADE 0 first is worth 3, TRADE 1 first takes 1 away and brings 9
        Edge.is("it looks ahead", x.best(0), -1 + 9 + 9);
        course(x, 1, 1, 0);
        SecondLife y = Due.town("town years 6 trades 4;person;worth : 9;");
        Edge.is("the most there can be", y.best(0), 108);
        SecondLife z = Due.town("town years 2 trades 1;person;worth : if life = 1 then 4 else old * 3 end;grows : year;");
        // drawn in YEAR 1: 4 + 3; in YEAR 2: 8 and none; never: 8
        Edge.is("both lives together", z.best(0), 8);
        course(z, 0, 0);
    }

    private static void fewest() {
        Edge.sentence(17, "of like ones the one of fewest such doings,");
        SecondLife x = Due.town("town years 3 trades 2;person;worth : if life = 2 then 0 else if year = 1 then trade - 1 else 1 - trade end end;grows : 0;");
        // 1, then 0 by TRADE 1, then 1 by TRADE 0; a DRAWING behind it would bring nothing
        Edge.is("WORTH", x.best(0), 2);
        course(x, 0, 1, 0);
        SecondLife y = Due.town("town years 2 trades 1;person;worth : 0;");
        course(y);
        SecondLife w = Due.town("town years 2 trades 1;person;worth : if life = 1 then if year = 0 then 3 else 0 end else 0 end;");
        course(w, 0);
        SecondLife t = Due.town("town years 2 trades 2;person;worth : if life = 2 then 0 else if trade = 1 then 2 - year * 3 else if last = 1 then 0 else 1 end end end;");
        // 1 and 1 by TRADE 0, or 2 by TRADE 1: one doing is fewer than two
        Edge.is("WORTH", t.best(0), 2);
        course(t, 1);
        // 3 by three YEARS, or by a DRAWING and two: a DRAWING is a doing too
        course(Due.town(drawnAtOnce("year", 1)), 0, 0, 0);
        // 3 by three YEARS, or by a DRAWING and one
        course(Due.town(drawnAtOnce("3", 2)), 9, 0);
    }

    private static String drawnAtOnce(String second, int grown) {
        return "town years 3 trades 1;person;grows : " + grown + ";worth : if life = 1 then 1 else if old > 0 then 0 - 9 else "
                + second + " end end;";
    }

    private static void first() {
        Edge.sentence(17, "then the first (by TRADES, 9 behind them).");
        SecondLife x = Due.town("town years 2 trades 4;person;");
        course(x, 0, 0, 9, 0, 0);
        SecondLife y = Due.town("town years 2 trades 3;person;worth : if life = 2 then 0 else if year = 0 then 1 + trade else 3 - last end end;");
        // each is WORTH 4 by two doings
        course(y, 0, 0);
        SecondLife z = Due.town("town years 2 trades 1;person;worth : if life = 1 then 1 - year * 6 else 1 end;grows : year;");
        // 0 9 0 and 9 0 0 are WORTH 2 both
        Edge.is("WORTH", z.best(0), 2);
        course(z, 0, 9, 0);
        SecondLife w = Due.town("town years 1 trades 3;person;worth : if trade = 0 then 1 else 2 end;grows : 1;");
        course(w, 1);
    }

    // ---- the calls

    private static void best() {
        Edge.sentence(17, "THE BEST COURSE: what it is WORTH (0 or more).");
        Edge.is("0", Due.town("town years 6 trades 4;person;worth : 0 - 9;").best(0), 0);
        SecondLife x = Made.richOne();
        // OVER, it DRAWS in YEAR 3 and is OVER again
        Edge.is("OVER", x.best(0), 0);
        // TALENT 2, TRADE 1, YEARS 1 and 2
        Edge.is("in LIFE 2", x.best(1), 2 + 1);
        // TALENT 1, TRADE 1: 2 + 1 + 0, and no LIFE 2
        Edge.is("who has PLEDGED", x.best(2), 3);
        for (int p = 0; p < 3; p++) {
            int who = p;
            Edge.same(x.best(p), "best(" + p + ")", Made::rich, y -> y.best(who));
        }

        Edge.sentence(17, "-2.");
        for (int p : NOBODY) {
            Edge.no(2, "best(" + p + ")", Made::rich, y -> y.best(p));
        }
    }

    private static void course() {
        Edge.sentence(18, "What is done in it i-th (a TRADE, 9: it DRAWS).");
        SecondLife x = Due.town("town years 6 trades 4;person;worth : if trade = 3 then 9 else 1 end;");
        course(x, 3, 3, 3, 3, 3, 3, 9, 3, 3, 3, 3, 3, 3);

        Edge.sentence(18, "NONE: not so many;");
        int[] more = {13, 14, 15, 100, Edge.MOST};
        for (int i : more) {
            Edge.is("course(0, " + i + ")", x.course(0, i), Edge.NONE);
        }
        SecondLife y = Due.town("town years 6 trades 4;person;worth : 0;");
        Edge.is("none at all", y.course(0, 0), Edge.NONE);
        Edge.same(Edge.NONE, "OVER", Made::rich, z -> z.course(0, 0));
        Edge.same(1, "in LIFE 2", Made::rich, z -> z.course(1, 0));
        Edge.same(1, "in LIFE 2", Made::rich, z -> z.course(1, 1));
        Edge.same(Edge.NONE, "in LIFE 2", Made::rich, z -> z.course(1, 2));
        Edge.same(1, "PLEDGED", Made::rich, z -> z.course(2, 1));
        // the third YEAR is WORTH 0
        Edge.same(Edge.NONE, "PLEDGED", Made::rich, z -> z.course(2, 2));

        Edge.sentence(18, "-2;");
        for (int p : NOBODY) {
            Edge.no(2, "course(" + p + ", 0)", Made::rich, z -> z.course(p, 0));
            Edge.no(2, "ahead of -3: course(" + p + ", -1)", Made::rich, z -> z.course(p, -1));
        }

        Edge.sentence(18, "-3: i is below 0.");
        Edge.no(3, "course(0, -1)", Made::rich, z -> z.course(0, -1));
        Edge.no(3, "course(1, least)", Made::rich, z -> z.course(1, Edge.LEAST));
    }

    private static void drawsAt() {
        Edge.sentence(19, "The YEAR in which it DRAWS in it.");
        for (int at = 0; at <= 3; at++) {
            SecondLife x = Due.town("town years 3 trades 1;person;worth : if life = 2 then if old = " + at + " then 9 else 0 end else 0 end;");
            Edge.is("in YEAR " + at, x.drawsAt(0), at);
            Edge.is("WORTH", x.best(0), 27);
            x.live(0, 0);
            Edge.is("a YEAR later", x.drawsAt(0), at == 0 ? Edge.NONE : at);
        }

        Edge.sentence(19, "NONE: it doesn't;");
        SecondLife y = Due.town("town years 1 trades 1;person;cash 5;grows : 1;");
        Edge.is("LIFE 2 is WORTH nothing", y.drawsAt(0), Edge.NONE);
        SecondLife z = Due.town("town years 1 trades 1;person;cash 5;");
        Edge.is("it does", z.drawsAt(0), 1);
        z.pledge(0, 1);
        Edge.is("who has PLEDGED can't", z.drawsAt(0), Edge.NONE);
        z.redeem(0);
        z.draw(0);
        Edge.is("in LIFE 2", z.drawsAt(0), Edge.NONE);
        for (int p = 0; p < 3; p++) {
            int who = p;
            Edge.same(Edge.NONE, "drawsAt(" + p + ")", Made::rich, x -> x.drawsAt(who));
        }

        Edge.sentence(19, "-2.");
        for (int p : NOBODY) {
            Edge.no(2, "drawsAt(" + p + ")", Made::rich, x -> x.drawsAt(p));
        }
    }

    private static void courses() {
        Edge.sentence(20, "How many COURSES there are that go on till nothing more can be done.");
        SecondLife x = Due.town("town years 1 trades 1;person;cash 5;");
        Edge.is("0 9 0 and 9 0", x.courses(0), 2);
        x.pledge(0, 5);
        Edge.is("PLEDGED: 0", x.courses(0), 1);
        x.live(0, 0);
        Edge.is("PLEDGED and OVER: none of doings is one COURSE", x.courses(0), 1);
        x.redeem(0);
        Edge.is("OVER: 9 0", x.courses(0), 1);
        x.draw(0);
        Edge.is("in LIFE 2: 0", x.courses(0), 1);
        x.live(0, 0);
        Edge.is("OVER in LIFE 2", x.courses(0), 1);
        SecondLife y = Due.town("town years 2 trades 3;person;grows : year;");
        // drawn in YEAR 0: 3 * 3, in YEAR 1: 3 * 3, in YEAR 2: 9 * 1
        Edge.is("by grows", y.courses(0), 27);
        SecondLife z = Due.town("town years 6 trades 4;person;worth : 0 - 9;");
        Edge.is("the most, whatever they are WORTH", z.courses(0), 4096L * (1 + 4 + 16 + 64 + 256 + 1024 + 4096));
        SecondLife w = Due.town("town years 6 trades 4;person;grows : 6;");
        Edge.is("LIFE 2 is OVER at once", w.courses(0), 1 + 4 + 16 + 64 + 256 + 1024 + 4096);
        Edge.same(4, "courses(1)", Made::rich, v -> v.courses(1));
        Edge.same(8, "courses(2)", Made::rich, v -> v.courses(2));

        Edge.sentence(20, "-2.");
        for (int p : NOBODY) {
            Edge.no(2, "courses(" + p + ")", Made::rich, v -> v.courses(p));
        }
    }

    private static void soonest() {
        Edge.sentence(21, "The fewest doings (TRADES, a DRAWING) by which it would HAVE a told number at least.");
        SecondLife x = Due.town("town years 3 trades 2;person;cash 50;worth : if life = 2 then 9 else trade end;grows : 1;");
        int[] n = {Edge.LEAST, -1, 0, 1, 2, 9, 10, 18, 19, 20, 21};
        int[] due = {0, 0, 0, 1, 2, 2, 3, 3, 4, 5, 6};
        for (int i = 0; i < n.length; i++) {
            Edge.is("soonest(0, " + n[i] + ")", x.soonest(0, n[i]), due[i]);
        }
        x.live(0, 1);
        Edge.is("what it HAS counts", x.soonest(0, 1), 0);
        Edge.is("21", x.soonest(0, 21), 5);
        x.pledge(0, 30);
        Edge.is("PLEDGED too", x.soonest(0, 31), 0);
        Edge.is("33", x.soonest(0, 33), 2);
        Edge.is("34: it can't DRAW", x.soonest(0, 34), Edge.NONE);
        SecondLife y = Due.town("town years 2 trades 1;person;worth : year * 9 - 4;grows : 2;");
        Edge.is("on the way it HAS less: 1", y.soonest(0, 1), 2);
        y.live(0, 0);
        Edge.is("it HAS -4", y.soonest(0, -4), 0);
        Edge.is("-3", y.soonest(0, -3), 1);
        SecondLife z = Due.town("town years 2 trades 2;person;worth : if life = 2 then 0 else if trade = 1 then 5 else if last = 0 then 9 else 0 end end end;");
        Edge.is("the greatest at the end isn't soonest", z.soonest(0, 5), 1);
        Edge.is("9 by two", z.soonest(0, 9), 2);
        SecondLife most = Due.town("town years 6 trades 4;person;worth : 9;");
        Edge.is("108 by all there are", most.soonest(0, 108), 13);
        Edge.is("109", most.soonest(0, 109), Edge.NONE);

        Edge.sentence(21, "NONE: by none;");
        Edge.is("22", Due.town("town years 3 trades 2;person;worth : if life = 2 then 9 else trade end;grows : 1;").soonest(0, 22), Edge.NONE);
        Edge.is("the greatest number", x.soonest(0, Edge.MOST), Edge.NONE);
        SecondLife w = Due.town("town years 1 trades 1;person;worth : 0 - 9;grows : 1;");
        w.live(0, 0);
        Edge.is("it HAS -9, and the greatest is told", w.soonest(0, Edge.MOST), Edge.NONE);
        Edge.is("0 of -9", w.soonest(0, 0), Edge.NONE);
        Edge.same(Edge.NONE, "OVER", Made::rich, v -> v.soonest(0, 12));
        Edge.same(0, "OVER", Made::rich, v -> v.soonest(0, 11));

        Edge.sentence(21, "-2.");
        for (int p : NOBODY) {
            Edge.no(2, "soonest(" + p + ", 0)", Made::rich, v -> v.soonest(p, 0));
        }
    }
}
