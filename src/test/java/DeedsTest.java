/** Promises 8 to 16: live, draw, pledge, redeem, talent, undo, judge, perform, season. */
public final class DeedsTest {
    private static final int NO_SUCH = -99000002;
    private static final int BAD_NUMBER = -99000003;
    private static final int MISSING = -99000006;
    private static final int WHY = -99000010;

    private static final String TOWN = "town years 2 trades 2;person talent 3;person talent 1;cash 10;"
            + "worth : talent + streak + life - last + old * 2 + 9 * trade - 9 * trade;grows : year;";

    public static void main(String[] args) {
        live();
        draw();
        pledge();
        redeem();
        talent();
        undo();
        judge();
        perform();
        season();
        Due.end();
    }

    // 8
    private static void live() {
        SecondLife x = Due.town("town years 3 trades 2;person talent 3;worth : streak * 2 - last + trade - 1;");
        Due.is("last is 9", x.live(0, 0), -9);
        Due.is("has", x.person(0, 2), -9);
        Due.is("streak 1, last 0", x.live(0, 0), 1);
        Due.is("streak 2, last 0", x.live(0, 1), 4);
        Due.is("streak is 1 again", x.person(0, 4), 1);
        Due.is("over", x.live(0, 0), WHY - 2);
        Due.is("over, no such trade", x.live(0, 2), WHY - 1);
        Due.is("no trade", x.live(0, -1), WHY - 1);
        Due.is("nobody", x.live(1, 0), WHY - 1);
        Due.is("nobody", x.live(-1, 0), WHY - 1);
        Due.is("calls to undo", x.count(7), 3);
        Due.is("has", x.person(0, 2), -4);
    }

    // 9
    private static void draw() {
        SecondLife x = Due.town(TOWN);
        x.live(0, 0);
        Due.is("draw", x.draw(0), 1);
        Due.is("twice", x.draw(0), WHY - 2);
        Due.is("nobody", x.draw(2), WHY - 1);
        Due.is("nobody", x.draw(-1), WHY - 1);
        x.pledge(1, 1);
        Due.is("pledged", x.draw(1), WHY - 3);
        x.redeem(1);
        x.live(1, 0);
        x.live(1, 0);
        Due.is("LIFE 1 is over", x.live(1, 0), WHY - 2);
        Due.is("over at once", x.draw(1), 2);
        Due.is("so it can't live", x.live(1, 0), WHY - 2);
        Due.is("old", x.person(1, 5), 2);
        Due.is("both", x.count(5), 3);
    }

    // 10
    private static void pledge() {
        SecondLife x = Due.town(TOWN);
        Due.is("nobody", x.pledge(2, 1), WHY - 1);
        Due.is("for 0", x.pledge(0, 0), WHY - 1);
        Due.is("for 100", x.pledge(0, 100), WHY - 1);
        Due.is("for 99", x.pledge(0, 99), WHY - 4);
        Due.is("for 11", x.pledge(0, 11), WHY - 4);
        Due.is("all", x.pledge(0, 10), 0);
        Due.is("has", x.person(0, 2), 10);
        Due.is("twice", x.pledge(0, 99), WHY - 3);
        Due.is("no cash", x.pledge(1, 1), WHY - 4);
        x.draw(1);
        Due.is("LIFE 2", x.pledge(1, 99), WHY - 2);
        Due.is("LIFE 2, for 0", x.pledge(1, 0), WHY - 1);
        Due.is("who", x.count(6), 1);
        SecondLife y = Due.town("town years 1 trades 1;person;cash 999;");
        y.live(0, 0);
        Due.is("over, yet it can", y.pledge(0, 99), 900);
    }

    // 11
    private static void redeem() {
        SecondLife x = Due.town(TOWN);
        Due.is("nobody", x.redeem(2), WHY - 1);
        Due.is("it hasn't", x.redeem(0), WHY - 3);
        x.pledge(0, 6);
        Due.is("redeem", x.redeem(0), 10);
        Due.is("has", x.person(0, 2), 0);
        Due.is("pledged", x.person(0, 8), 0);
        Due.is("twice", x.redeem(0), WHY - 3);
        Due.is("again", x.pledge(0, 3), 7);
    }

    // 12
    private static void talent() {
        SecondLife x = Due.town(TOWN);
        Due.is("was", x.talent(0, 9), 3);
        Due.is("was", x.talent(0, 0), 9);
        Due.is("is", x.person(0, 6), 0);
        Due.is("10", x.talent(0, 10), WHY - 1);
        Due.is("-1", x.talent(0, -1), WHY - 1);
        Due.is("nobody", x.talent(2, 0), WHY - 1);
        Due.is("undone", x.undo(2), 0);
        Due.is("as it was", x.person(0, 6), 3);
    }

    // 13
    private static void undo() {
        SecondLife x = Due.town("town years 6 trades 1;person;person;cash 20;");
        Due.is("nothing", x.undo(1), BAD_NUMBER);
        for (int k = 0; k < 6; k++) {
            x.live(0, 0);
            x.live(1, 0);
        }
        Due.is("the eldest are forgotten", x.count(7), 10);
        Due.is("0", x.undo(0), BAD_NUMBER);
        Due.is("-1", x.undo(-1), BAD_NUMBER);
        Due.is("11", x.undo(11), BAD_NUMBER);
        Due.is("3", x.undo(3), 7);
        Due.is("years 0", x.person(0, 0), 5);
        Due.is("years 1", x.person(1, 0), 4);
        Due.is("8", x.undo(8), BAD_NUMBER);
        x.pledge(1, 5);
        x.draw(0);
        Due.is("two more", x.count(7), 9);
        Due.is("2", x.undo(2), 7);
        Due.is("cash is back", x.count(3), 20);
        Due.is("LIFE 1 is back", x.person(0, 1), 1);
        Due.is("7", x.undo(7), 0);
        Due.is("years 0", x.person(0, 0), 1);
        Due.is("years 1", x.person(1, 0), 1);
        x.draw(9);
        x.live(0, 1);
        Due.is("refused calls did nothing", x.count(7), 0);
    }

    // 14
    private static void judge() {
        SecondLife x = Due.town(TOWN);
        Due.is("no tray", x.judge(4, 0), NO_SUCH);
        Due.is("no tray", x.judge(-1, 0), NO_SUCH);
        Due.is("missing", x.judge(3, 3), MISSING);
        Due.is("missing, no such what", x.judge(3, 4), NO_SUCH);
        Due.fill(x, 0, 1);
        judged(x, -1, 0, 0, 0);
        // LIFE 1 of person 0: 3 + 0 + 1 - 9, in LIFE 2, from YEAR 1 on: 3 + 2 - 9 + 2
        Due.fill(x, 0, 1, 0, 100, 1, 1103, 111, 110);
        judged(x, 5, 3, -7, 1);
        why(x, 1, 20);
        why(x, 1, 2);
        why(x, 1, 102);
        why(x, 1, 109);
        why(x, 1, 112);
        why(x, 1, 120);
        why(x, 1, 999);
        why(x, 1, 1000);
        why(x, 1, 1201);
        why(x, 1, 2000);
        why(x, 1, -1);
        why(x, 4, 1011);
        why(x, 3, 110);
        why(x, 0, 1010);
        why(x, 0, 11);
        why(x, 0, 101);
        Due.fill(x, 0, 1, 1005, 100);
        judged(x, 1, 3, 5, 0);
        Due.fill(x, 0, 1, 100, 1005);
        judged(x, 1, 2, 0, 1);
        Due.fill(x, 0, 1, 0, 0, 0);
        judged(x, 2, 2, 0, 0);
        Due.is("nothing was done", x.count(7), 0);
        Due.is("nothing was lived", x.person(0, 0), 0);
        Due.fill(x, 0, 0, 100, 255);
        judged(x, 1, 1, 0, 1);
    }

    private static void judged(SecondLife x, int place, int why, int have, int drawn) {
        Due.is("judged place", x.judge(0, 0), place);
        Due.is("judged why", x.judge(0, 1), why);
        Due.is("judged have", x.judge(0, 2), have);
        Due.is("judged drawn", x.judge(0, 3), drawn);
        Due.is("judged else", x.judge(0, 4), NO_SUCH);
        Due.is("judged else", x.judge(0, -1), NO_SUCH);
    }

    private static void why(SecondLife x, int why, long deed) {
        Due.fill(x, 0, 3, deed);
        Due.is("why not " + deed, x.judge(0, 1), why);
    }

    // 15
    private static void perform() {
        SecondLife x = Due.town(TOWN);
        Due.is("no tray", x.perform(4), NO_SUCH);
        Due.is("no tray", x.perform(-1), NO_SUCH);
        Due.is("missing", x.perform(2), MISSING);
        Due.fill(x, 2, 2, 0, 100, 1, 1103, 111, 110, 10);
        Due.is("till one can't be", x.perform(2), 5);
        Due.is("have", x.count(4), -7);
        Due.is("drawn", x.count(5), 1);
        Due.is("person 1 hasn't lived", x.person(1, 0), 0);
        Due.is("one call", x.count(7), 1);
        Due.is("the first can't be", x.perform(2), 0);
        Due.is("still one call", x.count(7), 1);
        Due.is("undone as a whole", x.undo(1), 0);
        Due.is("year", x.person(0, 0), 0);
        Due.is("life", x.person(0, 1), 1);
        Due.fill(x, 2, 2);
        Due.is("no deeds", x.perform(2), 0);
        Due.is("no call", x.count(7), 0);
    }

    // 16
    private static void season() {
        SecondLife x = Due.town("town years 6 trades 4;person;person;person;person;person;person;cash 99;");
        Due.is("0 times", x.season(1, 0), BAD_NUMBER);
        Due.is("41 times", x.season(1, 41), BAD_NUMBER);
        Due.is("-1 times", x.season(1, -1), BAD_NUMBER);
        Due.is("no people", new SecondLife().season(1, 40), 0);
        int[] seeds = {0, 1, 7, -5, 123456789, Integer.MAX_VALUE, Integer.MIN_VALUE};
        for (int seed : seeds) {
            SecondLife a = Due.town("town years 6 trades 4;person;person;person;person;person;person;cash 99;");
            SecondLife b = Due.town("town years 6 trades 4;person;person;person;person;person;person;cash 99;");
            int due = byHand(b, seed, 40);
            Due.is("season " + seed, a.season(seed, 40), due);
            Due.is("one call", a.count(7), 1);
            for (int p = 0; p < 6; p++) {
                for (int what = 0; what < 9; what++) {
                    Due.is("season " + seed + " person " + p + " " + what, a.person(p, what), b.person(p, what));
                }
            }
            Due.is("cash", a.count(3), b.count(3));
            a.undo(1);
            Due.is("undone as a whole", a.count(4), 0);
        }
    }

    private static int byHand(SecondLife x, int seed, int times) {
        int s = seed;
        int done = 0;
        for (int i = 0; i < times; i++) {
            int[] d = new int[3];
            int at = s;
            for (int k = 0; k < 3; k++) {
                at = at * 1103515245 + 12345;
                d[k] = at >>> 16;
            }
            int kind = d[0] % 6;
            int answer = kind < 4 ? x.live(d[1] % 6, d[2] % 4) : kind == 4 ? x.draw(d[1] % 6) : x.pledge(d[1] % 6, 1 + d[2] % 9);
            done += answer > -1000 ? 1 : 0;
            for (int k = 0; k < (kind == 4 ? 2 : 3); k++) {
                s = s * 1103515245 + 12345;
            }
        }
        return done;
    }
}
