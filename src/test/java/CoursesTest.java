/** Promises 17 to 21: best, course, drawsAt, courses, soonest. */
public final class CoursesTest {
    private static final int NO_SUCH = -99000002;

    public static void main(String[] args) {
        refused();
        stopping();
        fewestDoingsThenFirst();
        drawing();
        habits();
        courses();
        soonest();
        largest();
        Due.end();
    }

    private static void course(SecondLife x, int p, int... due) {
        for (int i = 0; i < due.length; i++) {
            Due.is("course " + i, x.course(p, i), due[i]);
        }
        Due.is("no more", x.course(p, due.length), -1);
        Due.is("nor more", x.course(p, Integer.MAX_VALUE), -1);
    }

    private static void refused() {
        SecondLife x = Due.town("town years 1 trades 1;person;");
        int[] nobody = {-1, 1, 6, Integer.MAX_VALUE, Integer.MIN_VALUE};
        for (int p : nobody) {
            Due.is("best", x.best(p), NO_SUCH);
            Due.is("course", x.course(p, -1), NO_SUCH);
            Due.is("drawsAt", x.drawsAt(p), NO_SUCH);
            Due.is("courses", x.courses(p), NO_SUCH);
            Due.is("soonest", x.soonest(p, 0), NO_SUCH);
        }
        Due.is("course -1", x.course(0, -1), -99000003);
        Due.is("course least", x.course(0, Integer.MIN_VALUE), -99000003);
    }

    private static void stopping() {
        SecondLife x = Due.town("town years 3 trades 2;person;worth : 0 - trade;");
        Due.is("nothing is worth anything", x.best(0), 0);
        course(x, 0);
        Due.is("it doesn't draw", x.drawsAt(0), -1);
        SecondLife y = Due.town("town years 3 trades 1;person;worth : if life = 2 then 0 - 9 else if year = 1 then 0 - 2 else 3 end end;");
        // 3 - 2 + 3 is more than 3
        Due.is("through a bad year", y.best(0), 4);
        course(y, 0, 0, 0, 0);
        SecondLife z = Due.town("town years 3 trades 1;person;worth : if life = 2 then 0 - 9 else if year = 1 then 0 - 3 else 3 end end;");
        Due.is("as much by fewer", z.best(0), 3);
        course(z, 0, 0);
    }

    private static void fewestDoingsThenFirst() {
        SecondLife x = Due.town("town years 2 trades 3;person;worth : if life = 2 then 0 else if trade = 0 then 1 else 2 end end;");
        Due.is("best", x.best(0), 4);
        course(x, 0, 1, 1);
        // drawing at once is as good as two years, and shorter
        SecondLife y = Due.town("town years 2 trades 2;person;worth : if life = 2 then if year = 1 then 4 else 0 end else 2 end;grows : 1;");
        Due.is("best", y.best(0), 8);
        course(y, 0, 0, 0, 9, 0);
        // all of LIFE 1 is worth 0: drawing first
        SecondLife z = Due.town("town years 2 trades 2;person;worth : if life = 2 then 1 else 0 end;grows : 1;");
        course(z, 0, 9, 0);
        // a trade ahead of drawing, where both lead to as much by as many
        SecondLife w = Due.town("town years 1 trades 1;person;worth : 1;grows : 0;");
        course(w, 0, 0, 9, 0);
    }

    private static void drawing() {
        SecondLife x = Due.town("town years 3 trades 1;person;cash 9;worth : if life = 1 then if year = 2 then 0 - 5 else 2 end else old * 3 end;grows : year;");
        // drawn in YEAR 1: 2 and two years worth 3 each; in YEAR 2: 4 and one worth 6
        Due.is("best", x.best(0), 10);
        course(x, 0, 0, 0, 9, 0);
        Due.is("drawsAt", x.drawsAt(0), 2);
        x.live(0, 0);
        Due.is("best from now on", x.best(0), 8);
        course(x, 0, 0, 9, 0);
        x.pledge(0, 4);
        Due.is("who has pledged can't draw", x.best(0), 2);
        course(x, 0, 0);
        Due.is("drawsAt", x.drawsAt(0), -1);
        x.redeem(0);
        x.draw(0);
        Due.is("in LIFE 2", x.best(0), 6);
        course(x, 0, 0, 0);
        Due.is("it has drawn", x.drawsAt(0), -1);
        x.live(0, 0);
        x.live(0, 0);
        Due.is("over", x.best(0), 0);
        course(x, 0);
    }

    private static void habits() {
        // a trade pays from its third year on, a change pays at once
        SecondLife x = Due.town("town years 4 trades 3;person;worth : if life = 2 then 0 else if trade = last then streak * 3 - 4 else trade end end;");
        Due.is("best", x.best(0), 2 - 1 + 2 + 5);
        course(x, 0, 2, 2, 2, 2);
        x.live(0, 2);
        x.live(0, 2);
        Due.is("a streak that stands", x.best(0), 7);
        x.live(0, 1);
        Due.is("a streak that is broken", x.best(0), 2);
        course(x, 0, 2);
    }

    private static void courses() {
        // YEAR 3: 1 way to draw; LIFE 2 from YEAR 0 on has 2 * 2 * 2
        SecondLife x = Due.town("town years 3 trades 2;person;cash 5;");
        Due.is("courses", x.courses(0), ((8 * 2 + 8) * 2 + 8) * 2 + 8);
        x.live(0, 0);
        Due.is("from YEAR 1 on", x.courses(0), (8 * 2 + 8) * 2 + 8);
        x.pledge(0, 1);
        Due.is("pledged", x.courses(0), 4);
        x.redeem(0);
        x.draw(0);
        Due.is("in LIFE 2", x.courses(0), 8);
        x.live(0, 1);
        x.live(0, 1);
        x.live(0, 1);
        Due.is("over", x.courses(0), 1);
        SecondLife y = Due.town("town years 6 trades 4;person;");
        Due.is("most", y.courses(0), 4096L * (1 + 4 + 16 + 64 + 256 + 1024 + 4096));
    }

    private static void soonest() {
        SecondLife x = Due.town("town years 3 trades 2;person;cash 50;worth : if life = 2 then 9 else trade end;grows : 1;");
        Due.is("has it", x.soonest(0, 0), 0);
        Due.is("less", x.soonest(0, Integer.MIN_VALUE), 0);
        Due.is("1", x.soonest(0, 1), 1);
        Due.is("2", x.soonest(0, 2), 2);
        Due.is("9", x.soonest(0, 9), 2);
        Due.is("18", x.soonest(0, 18), 3);
        Due.is("19", x.soonest(0, 19), 4);
        Due.is("21", x.soonest(0, 21), 6);
        Due.is("22", x.soonest(0, 22), -1);
        Due.is("most", x.soonest(0, Integer.MAX_VALUE), -1);
        x.pledge(0, 20);
        Due.is("pledged 20", x.soonest(0, 20), 0);
        Due.is("pledged 23", x.soonest(0, 23), 3);
        Due.is("pledged 24", x.soonest(0, 24), -1);
        SecondLife y = Due.town("town years 2 trades 1;person;worth : 0 - 1;");
        y.live(0, 0);
        Due.is("has -1", y.soonest(0, 0), -1);
        Due.is("has -1", y.soonest(0, -1), 0);
    }

    private static void largest() {
        SecondLife x = Due.town("town years 6 trades 4;person;worth : 9;");
        Due.is("best", x.best(0), 108);
        course(x, 0, 0, 0, 0, 0, 0, 0, 9, 0, 0, 0, 0, 0, 0);
        Due.is("soonest", x.soonest(0, 108), 13);
        SecondLife y = Due.town("town years 6 trades 4;person;worth : if trade = 3 then 9 else 0 - 9 end;grows : 6;");
        Due.is("best", y.best(0), 54);
        course(y, 0, 3, 3, 3, 3, 3, 3);
        Due.is("drawsAt", y.drawsAt(0), -1);
    }
}
