/** Promises 27 and 28: talents, attempt. */
public final class TalentsTest {
    private static final int NO_SUCH = -99000002;
    private static final int BAD_NUMBER = -99000003;
    private static final int TOO_MANY = -99000004;
    private static final int MISSING = -99000006;

    public static void main(String[] args) {
        refused();
        fitting();
        attempts();
        inLifeTwo();
        Due.end();
    }

    private static void both(String what, SecondLife x, int tray, int p, int due) {
        Due.is("talents " + what, x.talents(tray, p, 0), due);
        Due.is("attempt " + what, x.attempt(tray, p, 0), due);
    }

    private static void refused() {
        SecondLife x = Due.town("town years 3 trades 2;person;person;");
        both("no tray", x, 4, 0, NO_SUCH);
        both("no tray", x, -1, 0, NO_SUCH);
        both("nobody", x, 0, 2, NO_SUCH);
        both("nobody", x, 0, -1, NO_SUCH);
        both("missing", x, 0, 0, MISSING);
        Due.fill(x, 0, 1);
        both("no numbers", x, 0, 0, TOO_MANY);
        Due.fill(x, 0, 1, 0, 0, 0, 7);
        both("more than the years", x, 0, 0, TOO_MANY);
        Due.fill(x, 0, 1, 0, 0, 2);
        both("no trade", x, 0, 0, BAD_NUMBER);
        Due.fill(x, 0, 3, 0, 4294967296L);
        both("no trade, cut or not", x, 0, 0, BAD_NUMBER);
        Due.fill(x, 0, 0, -1);
        both("no trade", x, 0, 0, BAD_NUMBER);
        Due.fill(x, 0, 2, 0, 1, 0);
        Due.is("three years", x.talents(0, 0, 3), 1023);
        x.live(0, 0);
        both("more than are left", x, 0, 0, TOO_MANY);
        Due.is("of the other", x.talents(0, 1, 3), 1023);
        Due.fill(x, 1, 2, 0, 1);
        x.live(0, 0);
        x.live(0, 0);
        Due.fill(x, 1, 2, 0);
        both("over", x, 1, 0, TOO_MANY);
    }

    private static void fitting() {
        // a year in trade 0 is worth the talent, at most 4, then what it was worth for its streak
        SecondLife x = Due.town("town years 4 trades 2;person talent 8;"
                + "worth : if trade = 0 then if talent > 4 then 4 else talent end + streak else talent - 5 end;");
        Due.fill(x, 0, 0, 0);
        Due.is("4", x.talents(0, 0, 4), 0x3f0);
        Due.is("3", x.talents(0, 0, 3), 8);
        Due.is("5", x.talents(0, 0, 5), 0);
        Due.fill(x, 0, 0, 0, 0);
        Due.is("4 + 5", x.talents(0, 0, 9), 0x3f0);
        Due.is("2 + 3", x.talents(0, 0, 5), 4);
        Due.fill(x, 0, 0, 0, 1);
        // talent 6: 4 + 1, talent 5: 4 + 0, talent 4: 4 - 1
        Due.is("4 + 0", x.talents(0, 0, 4), 1 << 5);
        Due.is("3", x.talents(0, 0, 3), 1 << 4);
        Due.is("-5", x.talents(0, 0, -5), 1);
        Due.is("the talent stays", x.person(0, 6), 8);
        Due.is("nothing was lived", x.person(0, 0), 0);
        Due.is("nothing to undo", x.count(7), 0);
        x.live(0, 0);
        Due.fill(x, 0, 0, 0);
        Due.is("from now on", x.talents(0, 0, 5), 0x3f0);
    }

    private static void attempts() {
        SecondLife x = Due.town("town years 2 trades 4;person;"
                + "worth : if trade = 0 then 1 else if trade = 1 then if talent < 5 then 0 else 1 end else talent end end;");
        Due.fill(x, 0, 0, 0);
        Due.is("all", x.talents(0, 0, 1), 1023);
        Due.is("the first that tells all apart", x.attempt(0, 0, 1), 2);
        Due.fill(x, 0, 0, 1);
        Due.is("0 to 4", x.attempt(0, 0, 0), 2);
        Due.is("none", x.attempt(0, 0, 7), -1);
        Due.fill(x, 0, 0, 2);
        Due.is("one talent: any trade will do", x.attempt(0, 0, 7), 0);
        // of 0 to 9 trade 1 leaves 7 alike, trade 2 leaves 6
        SecondLife y = Due.town("town years 1 trades 3;person;"
                + "worth : if trade = 0 then 0 else if trade = 1 then if talent < 7 then 0 else talent end else "
                + "if talent < 6 then 1 else 0 end end end;");
        Due.fill(y, 0, 0, 0);
        Due.is("6 are fewer than 7", y.attempt(0, 0, 0), 2);
    }

    private static void inLifeTwo() {
        SecondLife x = Due.town("town years 3 trades 1;person;worth : if life = 2 then old * talent - year else 0 end;grows : 1;");
        x.live(0, 0);
        x.draw(0);
        Due.fill(x, 0, 0, 0, 0);
        // talent - 1 and talent - 2
        Due.is("2 * talent - 3", x.talents(0, 0, 5), 1 << 4);
        Due.fill(x, 0, 0, 0, 0, 0);
        Due.is("YEAR 1: two are left", x.talents(0, 0, 5), TOO_MANY);
    }
}
