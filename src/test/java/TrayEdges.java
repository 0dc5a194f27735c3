/** The edges of TRAYS, IMAGES and codes: promises 35 to 40, and the terms that bind them. */
final class TrayEdges {
    private static final int[] NO_TRAY = {-1, 4, Edge.LEAST, Edge.MOST};
    private static final int[] NO_IMAGE = {-1, 2, Edge.LEAST, Edge.MOST};

    private TrayEdges() {
    }

    static void all() {
        trays();
        numbers();
        write();
        lists();
        images();
        undoneBehind();
        image();
        restore();
        count();
        refused();
        codes();
        severalCodes();
    }

    // ---- trays

    private static void trays() {
        Edge.sentence(35, "TRAYS 0 to 3 are MISSING at first,");
        for (int tray = 0; tray < 4; tray++) {
            int t = tray;
            Edge.no(6, "write", Made::nothing, x -> x.write(t, 0, 0));
            Edge.no(6, "judge", Made::nothing, x -> x.judge(t, 0));
            Edge.no(6, "perform", Made::nothing, x -> x.perform(t));
            SecondLife y = new SecondLife();
            y.numbers(t, 0, 0);
            Edge.is("TRAY " + t + " isn't then", y.perform(t), 0);
            Edge.no(6, "another one is still", y.perform((t + 1) % 4));
        }

        Edge.sentence(35, "or have 0 to 40 numbers of 8 bits (sort 0), 16 (1), 32 (2), 64 (3).");
        for (int sort = 0; sort < 4; sort++) {
            SecondLife x = new SecondLife();
            Edge.is("none", x.numbers(0, sort, 0), 0);
            Edge.no(7, "it has no first", x.write(0, 0, 0));
            Edge.is("forty", x.numbers(0, sort, 40), 0);
            Edge.is("the last", x.write(0, 39, 7), 7);
            Edge.no(7, "no more", x.write(0, 40, 7));
            int off = 64 - (8 << sort);
            long[] values = {0, 1, -1, 127, 128, 255, 256, -128, -129, 32767, 32768, 65535, 65536, -32769, 2147483647L, 2147483648L,
                4294967295L, 4294967296L, -2147483649L, Long.MAX_VALUE, Long.MIN_VALUE};
            for (long v : values) {
                Edge.is(v + " of " + (8 << sort) + " bits", x.write(0, 3, v), v << off >> off);
            }
        }
    }

    private static void numbers() {
        Edge.sentence(35, "A TRAY has n numbers of a sort, all 0 (in place of another one): 0.");
        SecondLife x = Due.town("town years 6 trades 1;person;");
        for (int tray = 0; tray < 4; tray++) {
            Due.fill(x, tray, 3, 9, 9, 9, 9);
            for (int n = 0; n <= 4; n++) {
                Edge.is("numbers", x.numbers(tray, tray, n), 0);
                Edge.is("all are 0: it LIVES in TRADE 0", x.judge(tray, 2), n);
                Edge.no(7, "no more", x.write(tray, n, 0));
            }
            Edge.is("the same anew", x.numbers(tray, tray, 4), 0);
            Edge.is("all are 0", x.judge(tray, 0), Edge.NONE);
        }
        Edge.is("8 bits in place of 64", resorted(3, 0), 0);
        Edge.is("16 bits in place of 64", resorted(3, 1), 256);
        Edge.is("64 bits in place of 8", resorted(0, 3), 256);
        Edge.is("others stay", othersStay(), 5);

        Edge.sentence(35, "-2: no such TRAY, sort;");
        for (int t : NO_TRAY) {
            Edge.no(2, "numbers(" + t + ", 0, 1)", Made::rich, y -> y.numbers(t, 0, 1));
            Edge.no(2, "numbers(0, " + t + ", 1)", Made::rich, y -> y.numbers(0, t, 1));
            Edge.no(2, "ahead of -3: numbers(0, " + t + ", 41)", Made::rich, y -> y.numbers(0, t, 41));
            Edge.no(2, "a MISSING one stays so: numbers(3, " + t + ", 1)", Made::rich, y -> y.numbers(3, t, 1));
        }

        Edge.sentence(35, "-3, and the TRAY stays: n is below 0 or above 40.");
        int[] wrong = {-1, 41, Edge.LEAST, Edge.MOST};
        for (int n : wrong) {
            Edge.no(3, "numbers(0, 0, " + n + ")", Made::rich, y -> y.numbers(0, 0, n));
            Edge.no(3, "a MISSING one: numbers(3, 0, " + n + ")", Made::rich, y -> y.numbers(3, 0, n));
            SecondLife z = Made.richOne();
            z.numbers(0, 0, n);
            Edge.is("its DEEDS stay", z.perform(0), 4);
            Edge.is("its sort stays", z.write(0, 3, 30000), 30000);
        }
    }

    private static long resorted(int from, int to) {
        SecondLife x = new SecondLife();
        x.numbers(0, from, 2);
        x.numbers(0, to, 2);
        return x.write(0, 1, 256);
    }

    private static long othersStay() {
        SecondLife x = Due.town("town years 6 trades 1;person;");
        Due.fill(x, 1, 0, 0, 0, 0, 0, 0);
        x.numbers(0, 0, 1);
        x.numbers(2, 0, 1);
        return x.judge(1, 2);
    }

    private static void write() {
        Edge.sentence(36, "Number i of a TRAY is v, cut to its sort: as it is there.");
        SecondLife x = Due.town("town years 6 trades 2;person;worth : trade + 1;");
        x.numbers(0, 0, 3);
        Edge.is("the first", x.write(0, 0, 1), 1);
        Edge.is("it is there", x.judge(0, 2), 2 + 1 + 1);
        Edge.is("the last, cut", x.write(0, 2, 256 + 1), 1);
        Edge.is("as it is there", x.judge(0, 2), 2 + 1 + 2);
        Edge.is("over it", x.write(0, 2, 200), -56);
        Edge.is("as it is there: no DEED", x.judge(0, 0), 2);
        x.numbers(1, 1, 1);
        Edge.is("16 bits", x.write(1, 0, 65536 + 100), 100);
        Edge.is("it DRAWS", x.judge(1, 3), 1);
        x.numbers(2, 2, 1);
        Edge.is("32 bits", x.write(2, 0, (1L << 32) + 100), 100);
        Edge.is("it DRAWS", x.judge(2, 3), 1);
        x.numbers(3, 3, 1);
        Edge.is("64 bits", x.write(3, 0, (1L << 32) + 100), (1L << 32) + 100);
        Edge.is("that is no DEED", x.judge(3, 1), 1);

        Edge.sentence(36, "-2: no such TRAY;");
        for (int t : NO_TRAY) {
            Edge.no(2, "write(" + t + ", 0, 1)", Made::rich, y -> y.write(t, 0, 1));
            Edge.no(2, "ahead of all: write(" + t + ", 99, 1)", Made::rich, y -> y.write(t, 99, 1));
        }

        Edge.sentence(36, "-6;");
        Edge.no(6, "write(3, 0, 1)", Made::rich, y -> y.write(3, 0, 1));
        Edge.no(6, "ahead of -7: write(3, -1, 1)", Made::rich, y -> y.write(3, -1, 1));

        Edge.sentence(36, "-7.");
        int[] wrong = {-1, 4, 39, 40, Edge.LEAST, Edge.MOST};
        for (int i : wrong) {
            Edge.no(7, "write(0, " + i + ", 1)", Made::rich, y -> y.write(0, i, 1));
        }
        Edge.no(7, "it has none: write(1, 0, 1)", Made::rich, y -> y.write(1, 0, 1));
    }

    private static void lists() {
        Edge.sentence(37, "What is done in THE BEST COURSE comes into a TRAY, as DEEDS,");
        SecondLife x = Due.town("town years 2 trades 3;person;person;person;person;person;person;"
                + "worth : if trade = 2 then 3 else 0 end;");
        for (int p = 0; p < 6; p++) {
            Due.fill(x, 0, p % 4, 99, 99, 99, 99, 99);
            Edge.is("lists", x.lists(0, p), 5);
            Edge.is("all can be done", x.judge(0, 0), Edge.NONE);
            Edge.is("and are WORTH as much", x.judge(0, 2), x.best(p));
            Edge.is("PERSON " + p + " DRAWS", x.judge(0, 3), 1 << p);
        }
        x.draw(5);
        x.live(5, 0);
        Due.fill(x, 0, 0, 99, 99);
        Edge.is("in LIFE 2", x.lists(0, 5), 1);
        Edge.is("PERSON 5 in TRADE 2", x.judge(0, 2), 3);
        Edge.is("what was there behind them stays", x.judge(0, 0), 1);
        x.numbers(0, 0, 2);
        x.write(0, 0, 99);
        x.write(0, 1, 12);
        x.lists(0, 5);
        Edge.is("here too", x.judge(0, 2), 6);
        Edge.is("nothing was done", x.count(7), 2);

        Edge.sentence(37, "as far as it has places: how many.");
        for (int n = 0; n <= 40; n++) {
            SecondLife y = Due.town("town years 6 trades 4;person;");
            long[] none = new long[n];
            java.util.Arrays.fill(none, 99);
            Due.fill(y, 1, 1, none);
            Edge.is(n + " places", y.lists(1, 0), Math.min(n, 13));
            Edge.is("the first that isn't one of them", y.judge(1, 0), n > 13 ? 13 : Edge.NONE);
        }
        SecondLife z = Due.town("town years 6 trades 4;person;worth : 0;");
        Due.fill(z, 0, 0, 99);
        Edge.is("nothing is done in it", z.lists(0, 0), 0);
        Edge.is("the TRAY stays", z.judge(0, 0), 0);

        Edge.sentence(37, "-2: the TRAY, the PERSON;");
        for (int t : NO_TRAY) {
            Edge.no(2, "lists(" + t + ", 1)", Made::rich, w -> w.lists(t, 1));
        }
        int[] nobody = {-1, 3, 6, Edge.LEAST, Edge.MOST};
        for (int p : nobody) {
            Edge.no(2, "lists(0, " + p + ")", Made::rich, w -> w.lists(0, p));
            Edge.no(2, "ahead of -6: lists(3, " + p + ")", Made::rich, w -> w.lists(3, p));
        }

        Edge.sentence(37, "-6.");
        Edge.no(6, "lists(3, 1)", Made::rich, w -> w.lists(3, 1));
        Edge.no(6, "nothing to list", Made::rich, w -> w.lists(3, 0));
    }

    // ---- images

    private static void images() {
        Edge.sentence(38, "IMAGES 0 to 1: THE TOWN and what a call could bring back by UNDOING;");
        for (int i = 0; i < 2; i++) {
            SecondLife x = Made.richOne();
            SecondLife y = Made.richOne();
            Edge.is("image", x.image(i), 0);
            x.undo(3);
            x.town(29);
            x.live(0, 2);
            Due.feed(x, "town");
            x.numbers(0, 0, 1);
            x.write(0, 0, 2);
            Edge.is("restore", x.restore(i), 0);
            for (int what = 0; what < 10; what++) {
                if (what != 7 && what != 8) {
                    Edge.is("count " + what, x.count(what), y.count(what));
                }
            }
            for (int k = 0; k < 27; k++) {
                Edge.is("person(" + k / 9 + ", " + k % 9 + ")", x.person(k / 9, k % 9), y.person(k / 9, k % 9));
            }
            Edge.is("the law worth", x.worth(2, 1), y.worth(2, 1));
            Edge.is("the law grows", x.grown(0), y.grown(0));
            Edge.is("who dies", x.mean(1, 0), y.mean(1, 0));
            Edge.is("no bytes are in it", x.count(8), 20);
            Edge.is("nor TRAYS", x.write(0, 0, 256), 0);
        }
        Edge.no(5, "an IMAGE is of its own place: the other wasn't made", imaged(0).restore(1));
        Edge.no(5, "nor this", imaged(1).restore(0));
    }

    private static SecondLife imaged(int i) {
        SecondLife x = Due.town("town years 1 trades 1;person;");
        x.image(i);
        return x;
    }

    private static void undoneBehind() {
        Edge.sentence(39, "nothing can be UNDONE behind");
        SecondLife x = Made.richOne();
        Edge.is("ahead", x.count(7), 7);
        x.restore(0);
        Edge.is("behind restore()", x.count(7), 0);
        Edge.no(3, "undo(1)", x.undo(1));
        x.live(2, 0);
        Edge.is("what is done then can be", x.undo(1), 0);
        Edge.no(3, "but no more", x.undo(1));

        Edge.sentence(38, "(none at first).");
        Edge.no(5, "restore(0)", Made::nothing, y -> y.restore(0));
        Edge.no(5, "restore(1)", Made::nothing, y -> y.restore(1));
    }

    private static void image() {
        Edge.sentence(38, "An IMAGE is made: 0.");
        SecondLife x = new SecondLife();
        Edge.is("of a town without a text", x.image(1), 0);
        Due.tell(x, "town years 3 trades 2;person;cash 5;");
        Edge.is("image(0)", x.image(0), 0);
        x.live(0, 1);
        x.restore(1);
        Edge.is("YEARS", x.count(0), 1);
        Edge.is("PEOPLE", x.count(2), 0);
        Edge.is("LINES", x.count(9), 0);
        x.restore(0);
        Edge.is("YEARS", x.count(0), 3);
        Edge.is("YEAR", x.person(0, 0), 0);
        x.live(0, 1);
        Edge.is("in place of another one", x.image(0), 0);
        x.live(0, 1);
        x.restore(0);
        Edge.is("the later one", x.person(0, 0), 1);
        Edge.is("what can be UNDONE stays", imageLeavesUndoing(), 1);

        Edge.sentence(38, "-2.");
        for (int i : NO_IMAGE) {
            Edge.no(2, "image(" + i + ")", Made::rich, y -> y.image(i));
        }
    }

    private static int imageLeavesUndoing() {
        SecondLife x = Due.town("town years 3 trades 2;person;");
        x.live(0, 0);
        x.image(0);
        return x.count(7);
    }

    private static void restore() {
        Edge.sentence(39, "All that is in an IMAGE is as it was: 0.");
        SecondLife x = Made.richOne();
        Edge.is("restore(0)", x.restore(0), 0);
        int[] due = {2, 1, 8, 0, 1, 0, 4, 1, 0};
        for (int what = 0; what < 9; what++) {
            Edge.is("person(0, " + what + ")", x.person(0, what), due[what]);
        }
        Edge.is("CASH", x.count(3), 23);
        x.live(0, 0);
        x.redeem(2);
        x.draw(2);
        Edge.is("again", x.restore(0), 0);
        for (int what = 0; what < 9; what++) {
            Edge.is("again: person(0, " + what + ")", x.person(0, what), due[what]);
        }
        Edge.is("CASH", x.count(3), 23);
        Edge.is("best by its law", x.best(2), 3);

        Edge.sentence(39, "-2;");
        for (int i : NO_IMAGE) {
            Edge.no(2, "restore(" + i + ")", Made::rich, y -> y.restore(i));
        }

        Edge.sentence(39, "-5: none was made.");
        Edge.no(5, "restore(1)", Made::rich, y -> y.restore(1));
        Edge.no(5, "of a new object", Made::nothing, y -> y.restore(0));
    }

    // ---- count

    private static void count() {
        Edge.sentence(40, "0 YEARS, 1 TRADES, 2 PEOPLE, 3 CASH, 4 what all HAVE, 5 who is in LIFE 2, as bits, 6 who has PLEDGED, as bits, "
                + "7 calls that can be UNDONE, 8 bytes on THE TAPE, 9 LINES.");
        SecondLife x = Made.richOne();
        int[] due = {3, 2, 3, 23, 21, 2, 4, 7, 40, 8};
        for (int what = 0; what < 10; what++) {
            int of = what;
            Edge.is("count(" + what + ")", x.count(what), due[what]);
            Edge.same(due[what], "count(" + what + ")", Made::rich, y -> y.count(of));
        }
        SecondLife six = Due.town("town years 6 trades 4;person;person;person;person;person;person;cash 594;worth : 0 - 9;");
        for (int p = 0; p < 6; p++) {
            six.live(p, 0);
            six.pledge(p, 99);
        }
        Edge.is("all have PLEDGED", six.count(6), 63);
        Edge.is("all HAVE", six.count(4), 6 * 90);
        Edge.is("no CASH is left", six.count(3), 0);
        for (int p = 0; p < 6; p++) {
            six.redeem(p);
            six.draw(p);
        }
        Edge.is("all are in LIFE 2", six.count(5), 63);
        Edge.is("nobody has PLEDGED", six.count(6), 0);
        Edge.is("less than nothing", six.count(4), -54);
        Edge.is("ten at most", six.count(7), 10);
        SecondLife one = Due.town("town years 1 trades 1;person;person;cash 1;");
        one.pledge(1, 1);
        Edge.is("PLEDGED for 1", one.count(6), 2);
        SecondLife full = new SecondLife();
        Made.full(full);
        Edge.is("900 at most", full.count(8), 900);

        Edge.sentence(40, "NONE for others.");
        int[] others = {-1, 10, 11, Edge.LEAST, Edge.MOST};
        for (int what : others) {
            Edge.same(Edge.NONE, "count(" + what + ")", Made::rich, y -> y.count(what));
        }
    }

    // ---- codes

    private static void refused() {
        Edge.sentence(40, "Refused calls change nothing and answer by a code: -99000000 and what is told below:");
        Edge.no(5, "feed", Made::full, x -> x.feed(1, 2, 3, 4, 5));
        Edge.no(3, "town", Made::full, x -> x.town(901));
        Edge.no(12, "live", Made::full, x -> x.live(0, 0));
        Edge.no(14, "pledge", Made::full, x -> x.pledge(0, 24));
        Edge.no(3, "undo", Made::full, x -> x.undo(8));
        Edge.no(3, "season", Made::full, x -> x.season(9, 41));
        Edge.no(3, "numbers", Made::full, x -> x.numbers(0, 1, 41));
        Edge.no(7, "write", Made::full, x -> x.write(0, 4, 5));
        Edge.no(6, "lists", Made::full, x -> x.lists(3, 0));
        Edge.no(2, "image", Made::full, x -> x.image(2));
        Edge.no(5, "restore", Made::full, x -> x.restore(1));
    }

    private static void codes() {
        SecondLife x = Made.richOne();
        Edge.sentence(5, "-2 there is none such (so -99000002);");
        Edge.is("person(3, 0)", x.person(3, 0), -99000002L);
        Edge.is("courses(3)", x.courses(3), -99000002L);
        Edge.is("mean(3, 0)", x.mean(3, 0), -99000002L);
        Edge.is("hope(3, 0, 0)", x.hope(3, 0, 0), -99000002L);
        Edge.is("write(4, 0, 0)", x.write(4, 0, 0), -99000002L);

        Edge.sentence(13, "-3 a number can't be;");
        Edge.is("undo(0)", x.undo(0), -99000003L);
        Edge.is("hope(0, 61, 0)", x.hope(0, 61, 0), -99000003L);

        Edge.sentence(27, "-4 too many;");
        Edge.is("talents", x.talents(0, 2, 0), -99000004L);

        Edge.sentence(6, "-5 it can't be now;");
        Edge.is("worth(0, 0)", x.worth(0, 0), -99000005L);
        Edge.is("grown(1)", x.grown(1), -99000005L);

        Edge.sentence(36, "-6 a TRAY is MISSING;");
        Edge.is("write(3, 0, 0)", x.write(3, 0, 0), -99000006L);
        Edge.is("judge(3, 0)", x.judge(3, 0), -99000006L);

        Edge.sentence(36, "-7 it has no such number;");
        Edge.is("write(0, 4, 0)", x.write(0, 4, 0), -99000007L);

        Edge.sentence(10, "-11 to -14 why not (1 to 4);");
        Edge.is("1", x.pledge(0, 0), -99000011L);
        Edge.is("2", x.pledge(1, 1), -99000012L);
        Edge.is("3", x.pledge(2, 1), -99000013L);
        Edge.is("4", x.pledge(0, 24), -99000014L);

        Edge.sentence(3, "-30 less the FAULT: a text.");
        Edge.is("1", Due.tell(new SecondLife(), "?"), -99000031L);
        Edge.is("2", Due.tell(new SecondLife(), "person"), -99000032L);
        Edge.is("3", Due.tell(new SecondLife(), "town years 0"), -99000033L);
        Edge.is("4", Due.tell(new SecondLife(), "town years 1 trades 1;" + "person;".repeat(7)), -99000034L);

        Edge.sentence(40, "NONE is -1.");
        Edge.is("NONE", SecondLife.NONE, -1);
        Edge.is("count(10)", x.count(10), SecondLife.NONE);
        Edge.is("course", x.course(0, 0), SecondLife.NONE);
    }

    private static void severalCodes() {
        Edge.sentence(40, "(Of several that which the call tells first; all these ahead of NONE.)");
        Edge.no(2, "worth: no TRADE, OVER", Made::rich, x -> x.worth(0, 2));
        Edge.no(2, "course: nobody, i below 0", Made::rich, x -> x.course(3, -1));
        Edge.no(3, "course: i below 0, none is done", Made::rich, x -> x.course(0, -1));
        Edge.no(2, "hope: nobody, the number", Made::rich, x -> x.hope(3, 61, 0));
        Edge.no(2, "hope: what, the number", Made::rich, x -> x.hope(0, 61, 2));
        Edge.no(2, "hoping: nobody, the number", Made::rich, x -> x.hoping(3, 61));
        Edge.no(3, "hoping: the number, to stop is as good", Made::rich, x -> x.hoping(0, 61));
        Edge.no(2, "judge: what, MISSING", Made::rich, x -> x.judge(3, 4));
        Edge.no(2, "talents: nobody, MISSING", Made::rich, x -> x.talents(3, 3, 0));
        Edge.no(6, "talents: MISSING, OVER", Made::rich, x -> x.talents(3, 0, 0));
        Edge.no(4, "talents: more than this LIFE has, no TRADE", Made::rich, x -> x.talents(0, 2, 0));
        Edge.no(3, "attempt: no TRADE, none", Made::rich, x -> x.attempt(2, 2, 99));
        Edge.no(3, "spark: n, not so many", Made::nothing, x -> x.spark(7));
        Edge.no(3, "calm: the set, too many begin it", Made::rich, x -> x.calm(15, 0));
        Edge.no(3, "calm: n, too many begin it", Made::rich, x -> x.calm(7, -1));
        Edge.no(3, "rest: k below 0", Made::nothing, x -> x.rest(-1));
        Edge.no(2, "numbers: sort, n", Made::rich, x -> x.numbers(0, 4, 41));
        Edge.no(2, "numbers: the TRAY, n", Made::rich, x -> x.numbers(4, 0, 41));
        Edge.no(2, "write: the TRAY, the number", Made::rich, x -> x.write(4, 99, 0));
        Edge.no(6, "write: MISSING, the number", Made::rich, x -> x.write(3, 99, 0));
        Edge.no(2, "lists: nobody, MISSING", Made::rich, x -> x.lists(3, 3));
        Edge.no(11, "live: no TRADE, OVER", Made::rich, x -> x.live(0, 2));
        Edge.no(11, "pledge: the number, LIFE 2", Made::rich, x -> x.pledge(1, 100));
        Edge.no(12, "pledge: LIFE 2, the CASH", Made::rich, x -> x.pledge(1, 99));
        Edge.no(13, "pledge: PLEDGED, the CASH", Made::rich, x -> x.pledge(2, 99));
    }
}
