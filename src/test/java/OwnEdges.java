/**
 * What is asked of a PERSON is told of that one: PERSON 0 to 5 of a town of six, the others being in other states, answers
 * what it does when it is the only one of its town.
 */
final class OwnEdges {
    private static final String HEAD = "town years 4 trades 3;";
    private static final String LAWS = "cash 500;dies 3;grows : (year + talent) * (year + talent) - 5;"
            + "worth : if trade = last then streak * 2 - trade else talent - trade * year end * life + old * (trade - 1) - talent;";
    private static final int STATES = 6;

    private OwnEdges() {
    }

    interface Of {
        long ask(SecondLife x, int p);
    }

    static void all() {
        state();
        deeds();
        courses();
        chances();
        talents();
    }

    /** A PERSON comes to a state by what is done to it alone. */
    private static void bring(SecondLife x, int p, int state) {
        x.talent(p, 1 + state % 3);
        if (state == 1 || state == 4) {
            x.live(p, 2);
            x.live(p, 2);
        }
        if (state == 2 || state == 5) {
            x.live(p, 1);
            x.live(p, state == 2 ? 1 : 0);
            x.live(p, 0);
            x.draw(p);
            x.live(p, 2);
        }
        if (state == 3 || state == 4) {
            x.pledge(p, 10 + state);
        }
    }

    private static SecondLife alone(int state) {
        SecondLife x = Due.town(HEAD + "person fear 4;" + LAWS);
        bring(x, 0, state);
        Due.fill(x, 0, 0, 1);
        return x;
    }

    private static SecondLife amongOthers(int p, int state) {
        StringBuilder text = new StringBuilder(HEAD);
        for (int i = 0; i < 6; i++) {
            text.append(i == p ? "person fear 4;" : "person fear 2;");
        }
        SecondLife x = Due.town(text + LAWS);
        for (int i = 0; i < 6; i++) {
            bring(x, i, i == p ? state : (state + 1 + (i + p) % (STATES - 1)) % STATES);
        }
        Due.fill(x, 0, 0, 1);
        return x;
    }

    private static void own(String call, Of of) {
        for (int state = 0; state < STATES; state++) {
            long due = of.ask(alone(state), 0);
            for (int p = 0; p < 6; p++) {
                Edge.is(call + " of PERSON " + p + " in state " + state, of.ask(amongOthers(p, state), p), due);
            }
        }
    }

    /** As own(), with each number from one to another one. */
    private static void ownOfAll(String call, int from, int to, OfNumber of) {
        for (int n = from; n <= to; n++) {
            int told = n;
            own(call + " " + n, (x, p) -> of.ask(x, p, told));
        }
    }

    interface OfNumber {
        long ask(SecondLife x, int p, int n);
    }

    /** All that is told of a PERSON, as one number. */
    private static long parts(SecondLife x, int p) {
        long all = 0;
        for (int what = 0; what < 9; what++) {
            all = all * 1000 + x.person(p, what) + 200;
        }
        return all;
    }

    private static void state() {
        Edge.sentence(5, "Of a PERSON,");
        ownOfAll("person", 0, 8, (x, p, what) -> x.person(p, what));

        Edge.sentence(6, "What a YEAR in a TRADE would be WORTH now.");
        ownOfAll("worth", 0, 2, (x, p, trade) -> x.worth(p, trade));

        Edge.sentence(7, "In which YEAR LIFE 2 would begin, if it DREW now.");
        own("grown", (x, p) -> x.grown(p));
    }

    private static long behind(SecondLife x, int p, long answer) {
        return answer * 1000003 + parts(x, p);
    }

    private static void deeds() {
        Edge.sentence(8, "To LIVE a YEAR: what it is WORTH.");
        ownOfAll("live", 0, 2, (x, p, trade) -> behind(x, p, x.live(p, trade)));

        Edge.sentence(9, "To DRAW: its YEAR then.");
        own("draw", (x, p) -> behind(x, p, x.draw(p)));

        Edge.sentence(10, "it HAS as much more, the bank has less.");
        own("pledge", (x, p) -> behind(x, p, x.pledge(p, 9) < 0 ? 0 : 1));

        Edge.sentence(11, "To REDEEM: the bank has that back, it HAS as much less.");
        own("redeem", (x, p) -> behind(x, p, x.redeem(p) < 0 ? 0 : 1));

        Edge.sentence(12, "To have a TALENT (0 to 9): what it was.");
        own("talent", (x, p) -> behind(x, p, x.talent(p, 8)));

        Edge.sentence(13, "n calls (1 to 10) are UNDONE: how many still can be.");
        for (int deed = 0; deed < 5; deed++) {
            for (int p = 0; p < 6; p++) {
                undone(p, deed);
            }
        }
    }

    private static long one(SecondLife x, int p, int deed) {
        switch (deed) {
            case 0:
                return x.live(p, 1);
            case 1:
                return x.draw(p);
            case 2:
                return x.pledge(p, 5);
            case 3:
                return x.redeem(p);
            default:
                return x.talent(p, 9);
        }
    }

    /** What one PERSON did is UNDONE, and all of the six are as they were. */
    private static void undone(int p, int deed) {
        int did = 0;
        for (int state = 0; state < STATES; state++) {
            SecondLife x = amongOthers(p, state);
            SecondLife was = amongOthers(p, state);
            if (one(x, p, deed) > -99000000) {
                did++;
                Edge.holds("deed " + deed + " of PERSON " + p + " in state " + state, parts(x, p) != parts(was, p));
                x.undo(1);
            }
            for (int other = 0; other < 6; other++) {
                Edge.is("PERSON " + other + " behind deed " + deed + " of " + p, parts(x, other), parts(was, other));
            }
            Edge.is("CASH", x.count(3), was.count(3));
        }
        Edge.holds("deed " + deed + " can be in some state", did > 0);
    }

    private static void courses() {
        Edge.sentence(17, "THE BEST COURSE: what it is WORTH (0 or more).");
        own("best", (x, p) -> x.best(p));

        Edge.sentence(18, "What is done in it i-th (a TRADE, 9: it DRAWS).");
        ownOfAll("course", 0, 8, (x, p, i) -> x.course(p, i));

        Edge.sentence(19, "The YEAR in which it DRAWS in it.");
        own("drawsAt", (x, p) -> x.drawsAt(p));

        Edge.sentence(20, "How many COURSES there are that go on till nothing more can be done.");
        own("courses", (x, p) -> x.courses(p));

        Edge.sentence(21, "The fewest doings (TRADES, a DRAWING) by which it would HAVE a told number at least.");
        ownOfAll("soonest", -10, 60, (x, p, n) -> x.soonest(p, n));
    }

    private static void chances() {
        Edge.sentence(22, "ON THE MEAN, what 0: the number above, 1: below.");
        ownOfAll("mean", 0, 1, (x, p, what) -> x.mean(p, what));

        Edge.sentence(23, "What is best ON THE MEAN to do next:");
        own("choice", (x, p) -> x.choice(p));

        Edge.sentence(24, "Whether DRAWING now is as good as anything ON THE MEAN:");
        own("drawing", (x, p) -> x.drawing(p));

        Edge.sentence(25, "HOPE, what 0: the number above, 1: below.");
        ownOfAll("hope above", 0, 40, (x, p, n) -> x.hope(p, n, 0));
        ownOfAll("hope below", 0, 40, (x, p, n) -> x.hope(p, n, 1));

        Edge.sentence(26, "What is best for this HOPE to do next:");
        ownOfAll("hoping", 0, 40, (x, p, n) -> x.hoping(p, n));
    }

    private static void talents() {
        Edge.sentence(27, "LIVED: TALENTS, as bits.");
        ownOfAll("talents", -9, 9, (x, p, sum) -> x.talents(0, p, sum));

        Edge.sentence(28, "The TRADE to try next (one YEAR of it now):");
        ownOfAll("attempt", -9, 9, (x, p, sum) -> x.attempt(0, p, sum));
    }
}
