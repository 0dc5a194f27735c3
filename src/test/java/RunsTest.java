/** Promises 29 to 34: run, rounds, spark, calm, rests, rest. */
public final class RunsTest {
    private static final int BAD_NUMBER = -99000003;

    public static void main(String[] args) {
        nobody();
        chain();
        fearNine();
        sparks();
        calms();
        calmsOfMore();
        rests();
        Due.end();
    }

    private static SecondLife fears(int... fears) {
        StringBuilder b = new StringBuilder("town years 1 trades 1;");
        for (int f : fears) {
            b.append("person fear ").append(f).append(";");
        }
        return Due.town(b.toString());
    }

    private static void nobody() {
        SecondLife x = new SecondLife();
        Due.is("run", x.run(0), 0);
        Due.is("run 1", x.run(1), BAD_NUMBER);
        Due.is("rounds 1", x.rounds(1), BAD_NUMBER);
        Due.is("calm", x.calm(0, 0), 0);
        Due.is("calm 1", x.calm(1, 0), BAD_NUMBER);
        Due.is("spark 6", x.spark(6), -1);
        Due.is("rests", x.rests(), 1);
        Due.is("rest 0", x.rest(0), 0);
    }

    private static void chain() {
        SecondLife x = fears(1, 2, 3, 4, 5, 6);
        Due.is("by nobody", x.run(0), 0);
        Due.is("no rounds", x.rounds(0), 0);
        Due.is("by the last", x.run(32), 63);
        Due.is("five rounds", x.rounds(32), 5);
        Due.is("by the first", x.run(1), 1);
        Due.is("nobody joins", x.rounds(1), 0);
        Due.is("by two", x.run(3), 3);
        Due.is("by 0 and 2", x.run(5), 7);
        Due.is("all", x.run(63), 63);
        Due.is("64", x.run(64), BAD_NUMBER);
        Due.is("-1", x.run(-1), BAD_NUMBER);
        Due.is("rounds 64", x.rounds(64), BAD_NUMBER);
        Due.is("rounds least", x.rounds(Integer.MIN_VALUE), BAD_NUMBER);
        SecondLife y = fears(0, 0, 2);
        Due.is("by themselves", y.run(0), 7);
        Due.is("in two rounds", y.rounds(0), 2);
        Due.is("all at once", y.rounds(3), 1);
    }

    private static void fearNine() {
        SecondLife x = fears(9, 6, 5, 0, 0, 0);
        Due.is("some never join", x.run(0), 0x38);
        Due.is("nor with five", x.run(0x3e), 0x3e);
        Due.is("five in it", x.run(0x3b), 0x3f);
    }

    private static void sparks() {
        SecondLife x = fears(1, 1, 3, 3, 9);
        Due.is("1", x.spark(1), 1);
        Due.is("2", x.spark(2), 1);
        Due.is("3", x.spark(3), 4);
        Due.is("4", x.spark(4), 4);
        Due.is("5", x.spark(5), 16);
        Due.is("6", x.spark(6), -1);
        Due.is("0", x.spark(0), BAD_NUMBER);
        Due.is("7", x.spark(7), BAD_NUMBER);
        Due.is("-1", x.spark(-1), BAD_NUMBER);
        SecondLife y = fears(0, 1, 2);
        Due.is("nobody must begin", y.spark(3), 0);
        Due.is("not so many", y.spark(4), -1);
    }

    private static void calms() {
        SecondLife x = fears(1, 1, 2, 3, 9, 5);
        // begun by 5 there are all but 4
        Due.is("the run", x.run(32), 47);
        Due.is("to 6", x.calm(32, 6), 0);
        Due.is("to 5", x.calm(32, 5), 0);
        Due.is("to 4", x.calm(32, 4), 1);
        Due.is("to 3, none of one", x.calm(32, 3), 3);
        Due.is("to 2", x.calm(32, 2), 3);
        Due.is("to 1", x.calm(32, 1), 3);
        Due.is("to 0", x.calm(32, 0), -1);
        Due.is("nobody begins", x.calm(0, 0), 0);
        Due.is("n 7", x.calm(32, 7), BAD_NUMBER);
        Due.is("n -1", x.calm(32, -1), BAD_NUMBER);
        Due.is("set 64", x.calm(64, 0), BAD_NUMBER);
        Due.is("set -1", x.calm(-1, 0), BAD_NUMBER);
        Due.is("the set ahead of NONE", x.calm(127, 0), BAD_NUMBER);
    }

    private static void calmsOfMore() {
        // all join at once; three may be left out, whichever
        SecondLife x = fears(1, 9, 1, 1, 1);
        Due.is("to 4", x.calm(2, 4), 1);
        Due.is("to 3", x.calm(2, 3), 5);
        Due.is("to 2", x.calm(2, 2), 13);
        Due.is("to 1", x.calm(2, 1), 29);
        Due.is("who begins can't be calmed", x.calm(3, 1), -1);
        Due.is("to 2 of two", x.calm(3, 2), 28);
        // only the third holds the others back
        SecondLife y = fears(2, 2, 1, 4, 9);
        Due.is("the run", y.run(16), 31);
        Due.is("one is enough", y.calm(16, 1), 4);
    }

    private static void rests() {
        SecondLife x = fears(1, 1);
        Due.is("none or both", x.rests(), 2);
        Due.is("none", x.rest(0), 0);
        Due.is("both", x.rest(1), 3);
        Due.is("no more", x.rest(2), -1);
        Due.is("-1", x.rest(-1), BAD_NUMBER);
        SecondLife y = fears(1, 1, 3, 3, 9);
        Due.is("rests", y.rests(), 3);
        Due.is("0", y.rest(0), 0);
        Due.is("1", y.rest(1), 3);
        Due.is("2", y.rest(2), 15);
        SecondLife z = fears(0, 9);
        Due.is("one alone", z.rests(), 1);
        Due.is("who is never calm", z.rest(0), 1);
        // one who would join two but is never seen by more than one
        SecondLife w = fears(0, 1, 2, 3, 4, 5);
        Due.is("all", w.rest(0), 63);
        Due.is("only all", w.rests(), 1);
    }
}
