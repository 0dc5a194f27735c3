/** Promises 22 to 26: mean, choice, drawing, hope, hoping. */
public final class ChanceTest {
    private static final int NO_SUCH = -99000002;
    private static final int BAD_NUMBER = -99000003;

    public static void main(String[] args) {
        refused();
        oneYear();
        dyingInLifeOne();
        stopping();
        choices();
        hopes();
        careOrDaring();
        pledged();
        largest();
        Due.end();
    }

    private static void mean(SecondLife x, int p, long above, long below) {
        Due.is("mean above", x.mean(p, 0), above);
        Due.is("mean below", x.mean(p, 1), below);
    }

    private static void hope(SecondLife x, int p, int n, long above, long below) {
        Due.is("hope " + n + " above", x.hope(p, n, 0), above);
        Due.is("hope " + n + " below", x.hope(p, n, 1), below);
    }

    private static void refused() {
        SecondLife x = Due.town("town years 1 trades 1;person;");
        int[] nobody = {-1, 1, Integer.MAX_VALUE, Integer.MIN_VALUE};
        for (int p : nobody) {
            Due.is("mean", x.mean(p, 0), NO_SUCH);
            Due.is("choice", x.choice(p), NO_SUCH);
            Due.is("drawing", x.drawing(p), NO_SUCH);
            Due.is("hope", x.hope(p, 61, 0), NO_SUCH);
            Due.is("hoping", x.hoping(p, 61), NO_SUCH);
        }
        Due.is("mean what", x.mean(0, 2), NO_SUCH);
        Due.is("mean what", x.mean(0, -1), NO_SUCH);
        Due.is("hope what", x.hope(0, 61, 2), NO_SUCH);
        Due.is("hope 61", x.hope(0, 61, 0), BAD_NUMBER);
        Due.is("hope -1", x.hope(0, -1, 1), BAD_NUMBER);
        Due.is("hoping 61", x.hoping(0, 61), BAD_NUMBER);
        Due.is("hoping -1", x.hoping(0, -1), BAD_NUMBER);
    }

    private static void oneYear() {
        // LIFE 2 begins at its end: one year, 8 in 10
        SecondLife x = Due.town("town years 1 trades 1;person;dies 2;worth : 5;grows : 1;");
        mean(x, 0, 4, 1);
        Due.is("choice", x.choice(0), 0);
        Due.is("drawing", x.drawing(0), 0);
        hope(x, 0, 5, 4, 5);
        hope(x, 0, 6, 0, 1);
        SecondLife y = Due.town("town years 1 trades 1;person;dies 10;worth : 5;grows : 1;");
        mean(y, 0, 0, 1);
        Due.is("all die", y.choice(0), -1);
        Due.is("to draw is as good", y.drawing(0), 1);
        hope(y, 0, 1, 0, 1);
        Due.is("hoping", y.hoping(0, 1), -1);
    }

    private static void dyingInLifeOne() {
        // LIFE 2, two years worth 4: 1/2 * (4 + 1/2 * 4) = 3. YEAR 1 of LIFE 1: LIFE 2 then is one year: 2.
        // From YEAR 0: draw 3; or live 2: 1/2 * (2 + M1) + 1/2 * 3, where M1 = max(2, 1/2 * (2 + 0) + 1/2 * 2) = 2
        SecondLife x = Due.town("town years 2 trades 1;person;dies 5;worth : if life = 1 then 2 else 4 end;grows : year;");
        mean(x, 0, 7, 2);
        Due.is("choice", x.choice(0), 0);
        Due.is("drawing", x.drawing(0), 0);
        x.live(0, 0);
        mean(x, 0, 2, 1);
        Due.is("a trade ahead of drawing", x.choice(0), 0);
        Due.is("drawing is as good", x.drawing(0), 1);
        x.live(0, 0);
        mean(x, 0, 0, 1);
        Due.is("over: to stop is as good", x.choice(0), -1);
        Due.is("and to draw", x.drawing(0), 1);
        x.draw(0);
        Due.is("it has drawn", x.drawing(0), 0);
        // who dies in LIFE 1 may still draw: 1/2 * (1 + 4) + 1/2 * 4, where all LIFE 2 is worth 8 * 1/2
        SecondLife y = Due.town("town years 1 trades 1;person;dies 5;worth : if life = 1 then 1 else 8 end;");
        mean(y, 0, 9, 2);
    }

    private static void stopping() {
        SecondLife x = Due.town("town years 3 trades 2;person;dies 3;worth : 0 - 1 - trade;");
        mean(x, 0, 0, 1);
        Due.is("choice", x.choice(0), -1);
        Due.is("drawing", x.drawing(0), 1);
        hope(x, 0, 0, 1, 1);
        Due.is("hoping", x.hoping(0, 0), -1);
    }

    private static void choices() {
        SecondLife x = Due.town("town years 1 trades 3;person;worth : if trade = 0 then 1 else 3 end;grows : 1;");
        Due.is("the first of the best", x.choice(0), 1);
        SecondLife y = Due.town("town years 1 trades 2;person;worth : if life = 1 then 0 - 1 else 3 end;");
        Due.is("to draw", y.choice(0), 9);
        Due.is("drawing", y.drawing(0), 1);
        mean(y, 0, 3, 1);
        y.draw(0);
        Due.is("in LIFE 2", y.choice(0), 0);
        Due.is("it can't", y.drawing(0), 0);
    }

    private static void hopes() {
        // two years worth 3, each 9 in 10; no LIFE 2
        SecondLife x = Due.town("town years 2 trades 1;person;dies 1;worth : 3;grows : 2;");
        hope(x, 0, 0, 1, 1);
        hope(x, 0, 1, 9, 10);
        hope(x, 0, 3, 9, 10);
        hope(x, 0, 4, 81, 100);
        hope(x, 0, 6, 81, 100);
        hope(x, 0, 7, 0, 1);
        hope(x, 0, 60, 0, 1);
        Due.is("hoping 6", x.hoping(0, 6), 0);
        Due.is("hoping 7", x.hoping(0, 7), -1);
        // through years that take something away: 9 - 9 + 9 + 9 in three steps from 1 on
        SecondLife y = Due.town("town years 3 trades 1;person;dies 1;worth : if year = 0 then 0 - 9 else 9 end;grows : 3;");
        hope(y, 0, 9, 729, 1000);
        hope(y, 0, 10, 0, 1);
        Due.is("hoping 9", y.hoping(0, 9), 0);
    }

    private static void careOrDaring() {
        // the mean is best by the second trade, and so is one hope; LIFE 2 helps the other
        SecondLife x = Due.town("town years 1 trades 2;person;dies 5;worth : if life = 2 then 4 else if trade = 0 then 1 else 2 end end;");
        mean(x, 0, 3, 1);
        Due.is("choice", x.choice(0), 1);
        hope(x, 0, 4, 1, 2);
        Due.is("hoping 4: the first trade is as good", x.hoping(0, 4), 0);
        hope(x, 0, 6, 1, 4);
        Due.is("hoping 6", x.hoping(0, 6), 1);
        hope(x, 0, 2, 3, 4);
        Due.is("hoping 2", x.hoping(0, 2), 1);
        SecondLife y = Due.town("town years 1 trades 1;person;dies 5;worth : if life = 2 then 4 else 0 - 1 end;");
        hope(y, 0, 4, 1, 2);
        Due.is("only by drawing", y.hoping(0, 4), 9);
    }

    private static void pledged() {
        SecondLife x = Due.town("town years 1 trades 1;person;cash 5;dies 5;worth : 2;");
        mean(x, 0, 2, 1);
        x.pledge(0, 5);
        mean(x, 0, 1, 1);
        Due.is("it can't draw", x.drawing(0), 0);
        hope(x, 0, 4, 0, 1);
        hope(x, 0, 2, 1, 2);
        x.redeem(0);
        hope(x, 0, 4, 1, 4);
        hope(x, 0, 2, 3, 4);
    }

    private static void largest() {
        SecondLife x = Due.town("town years 6 trades 4;person;dies 1;worth : 9;");
        // each life: 9 * (9/10 + ... + (9/10)^6); both, as LIFE 2 comes behind LIFE 1 whatever happens
        long each = 9 * (900000L + 810000 + 729000 + 656100 + 590490 + 531441);
        mean(x, 0, 2 * each / 2, 500000);
        SecondLife y = Due.town("town years 6 trades 1;person;dies 3;worth : 5;");
        // twelve years in a row, 7 in 10 each
        hope(y, 0, 60, 13841287201L, 1000000000000L);
        SecondLife z = Due.town("town years 6 trades 1;person;worth : 9;");
        mean(z, 0, 108, 1);
        hope(z, 0, 60, 1, 1);
    }
}
