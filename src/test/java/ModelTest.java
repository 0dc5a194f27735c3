import java.util.ArrayList;
import java.util.HashMap;
import java.util.List;
import java.util.Map;
import java.util.Random;

/** Runs of calls, drawn by fixed seeds, answered by the class and by the plain model. */
public final class ModelTest {
    private static final int RUNS = 300;
    private static final int FAR = 1000000;
    private final Random r;
    private final SecondLife x = new SecondLife();
    private final Model m = new Model();
    private final List<String> told = new ArrayList<>();
    private boolean off = false;
    private final int run;

    private ModelTest(int run) {
        this.run = run;
        this.r = new Random(run * 7919L + 17);
    }

    public static void main(String[] args) {
        int runs = args.length > 0 ? Integer.parseInt(args[0]) : RUNS;
        for (int i = 0; i < runs; i++) {
            new ModelTest(i).go();
        }
        for (int i = 0; i < runs / 25; i++) {
            new ModelTest(FAR + i).goFar();
        }
        Due.end();
    }

    private void same(String call, long got, long want) {
        told.add(call + " -> " + got);
        Due.is("run " + run + ": " + call, got, want);
        if (got != want && !off) {
            off = true;
            told.forEach(System.out::println);
        }
    }

    private void go() {
        tell(r.nextInt(12) == 0 ? broken(text()) : text());
        int calls = 60 + r.nextInt(60);
        for (int i = 0; i < calls && !off; i++) {
            call();
        }
    }

    /** Long lives with many trades, where years differ much and may take much away. */
    private void goFar() {
        StringBuilder worth = new StringBuilder();
        for (int t = 0; t < 4; t++) {
            worth.append("if trade = ").append(t).append(" then ").append(r.nextInt(10)).append(" - (")
                    .append(r.nextInt(4)).append("*streak) + ").append(r.nextInt(3)).append("*year - ")
                    .append(r.nextInt(3)).append("*old + if last < trade then 0 - ").append(r.nextInt(15))
                    .append(" else if year > ").append(r.nextInt(5)).append(" and life = 2 then ").append(r.nextInt(9))
                    .append(" else 0 end end else ");
        }
        worth.append("0 end end end end");
        tell("town years " + (5 + r.nextInt(2)) + " trades " + (3 + r.nextInt(2)) + ";person talent 3;person;cash 9;dies "
                + r.nextInt(10) + ";grows : " + (r.nextBoolean() ? "year - 2" : "0") + ";worth : " + worth + ";");
        for (int i = 0; i < 4 && !off; i++) {
            far(0);
            doSome();
        }
    }

    private void far(int p) {
        Model.Guy g = m.now.guys.get(p);
        Map<String, Model.Part> hopes = new HashMap<>();
        for (int n = 0; n <= 60; n += 1 + r.nextInt(5)) {
            same("hope " + p + " " + n + " 0", x.hope(p, n, 0), m.hopeFrom(g, n, hopes).get(0));
            same("hope " + p + " " + n + " 1", x.hope(p, n, 1), m.hopeFrom(g, n, hopes).get(1));
            same("hoping " + p + " " + n, x.hoping(p, n), m.hopingFrom(g, n, hopes));
        }
        askChances();
        same("best " + p, x.best(p), m.best(p));
        List<Integer> doings = m.bestCourse(g, new HashMap<>()).doings;
        for (int i = 0; i < 14; i++) {
            same("course " + p + " " + i, x.course(p, i), i < doings.size() ? doings.get(i) : -1);
        }
        Map<String, Integer> known = new HashMap<>();
        for (int n = -5; n <= 110; n += 1 + r.nextInt(9)) {
            int due = -1;
            for (int k = 13; k >= 0; k--) {
                int most = m.mostBehind(g, k, known);
                due = most != Integer.MIN_VALUE && most >= n ? k : due;
            }
            same("soonest " + p + " " + n, x.soonest(p, n), due);
        }
    }

    // ---- texts

    private String text() {
        int trades = 1 + r.nextInt(4);
        int years = 1 + r.nextInt(r.nextInt(4) == 0 ? 6 : trades < 3 ? 4 : 3);
        StringBuilder b = new StringBuilder("town years " + years + " trades " + trades + ";");
        int lines = 2 + r.nextInt(9);
        for (int i = 0; i < lines; i++) {
            String line = line();
            if (b.length() + line.length() < 880) {
                b.append(line).append(r.nextInt(5) == 0 ? "\n" : "");
            }
        }
        return b.toString();
    }

    private String line() {
        switch (r.nextInt(10)) {
            case 0:
                return "cash " + r.nextInt(r.nextBoolean() ? 30 : 1000) + ";";
            case 1:
                return "dies " + r.nextInt(11) + " ;";
            case 2:
            case 3:
                return "worth : " + sum(true, 0) + ";";
            case 4:
                return "grows:" + sum(false, 0) + ";";
            default:
                String s = "person";
                for (int k = r.nextInt(3); k > 0; k--) {
                    s += r.nextBoolean() ? " talent " + r.nextInt(10) : " fear " + r.nextInt(r.nextBoolean() ? 10 : 5);
                }
                return s + ";";
        }
    }

    private String sum(boolean worth, int depth) {
        String s = term(worth, depth);
        for (int k = r.nextInt(3); k > 0; k--) {
            s += (r.nextBoolean() ? " + " : " - ") + term(worth, depth);
        }
        return s;
    }

    private String term(boolean worth, int depth) {
        String s = atom(worth, depth);
        for (int k = r.nextInt(5) / 4; k > 0; k--) {
            s += "*" + atom(worth, depth);
        }
        return s;
    }

    private String atom(boolean worth, int depth) {
        int kind = r.nextInt(depth < 4 ? 10 : 7);
        if (kind < 2) {
            return "" + r.nextInt(r.nextInt(9) == 0 ? 1000 : 8);
        }
        if (kind < 7) {
            String[] words = {"talent", "year", "trade", "last", "streak", "life", "old"};
            return words[r.nextInt(worth ? 7 : 2)];
        }
        if (kind == 7) {
            return "(" + sum(worth, depth + 1) + ")";
        }
        return "if " + truth(worth, depth + 1) + " then " + sum(worth, depth + 1) + " else " + sum(worth, depth + 1) + " end";
    }

    private String truth(boolean worth, int depth) {
        String s = unit(worth, depth);
        for (int k = r.nextInt(3) / 2; k > 0; k--) {
            s += (r.nextBoolean() ? " and " : " or ") + unit(worth, depth);
        }
        return s;
    }

    private String unit(boolean worth, int depth) {
        int kind = r.nextInt(8);
        if (kind == 0 && depth < 5) {
            return "not " + unit(worth, depth + 1);
        }
        if (kind == 1 && depth < 5) {
            return "[" + truth(worth, depth + 1) + "]";
        }
        return term(worth, depth) + new String[] {" = ", " < ", ">"}[r.nextInt(3)] + term(worth, depth);
    }

    private String broken(String s) {
        String[] bits = {";", "(", ")", "[", "if ", "not ", "1234", " 11 ", "person;", "?", "T", "town", " ", "9", ":", "\t", "end"};
        StringBuilder b = new StringBuilder(s);
        for (int k = 1 + r.nextInt(2); k > 0; k--) {
            int at = r.nextInt(b.length());
            int kind = r.nextInt(4);
            if (kind == 0) {
                b.deleteCharAt(at);
            } else if (kind == 1) {
                b.setLength(Math.max(1, at));
            } else if (kind == 2) {
                b.insert(at, bits[r.nextInt(bits.length)]);
            } else {
                b.setCharAt(at, bits[r.nextInt(bits.length)].charAt(0));
            }
        }
        return b.toString();
    }

    private void tell(String text) {
        for (int from = 0; from < text.length(); from += 20) {
            int[] w = new int[5];
            for (int i = 0; i < 20; i++) {
                int c = from + i < text.length() ? text.charAt(from + i) & 255 : 32;
                w[i / 4] = w[i / 4] << 8 | c;
            }
            same("feed", x.feed(w[0], w[1], w[2], w[3], w[4]), m.feed(w));
        }
        int n = run < FAR && r.nextInt(25) == 0 ? r.nextInt(text.length() + 1) : text.length();
        same("town " + n + " \"" + text + "\"", x.town(n), m.town(n));
        same("fault(0)", x.fault(0), m.fault(0));
        same("fault(1)", x.fault(1), m.fault(1));
    }

    // ---- calls

    private int p() {
        return r.nextInt(12) == 0 ? r.nextInt(9) - 2 : r.nextInt(Math.max(1, m.now.guys.size()));
    }

    private int trade() {
        return r.nextInt(8) == 0 ? r.nextInt(7) - 1 : r.nextInt(m.place.trades);
    }

    private int tray() {
        return r.nextInt(20) == 0 ? r.nextInt(8) - 2 : r.nextInt(2);
    }

    private int set() {
        return r.nextInt(8) == 0 ? r.nextInt() : r.nextInt(m.all() + 1);
    }

    private long deed() {
        switch (r.nextInt(8)) {
            case 0:
                return 100 + p();
            case 1:
                return 110 + p();
            case 2:
                return 1000 + 100 * p() + r.nextInt(12);
            case 3:
                return r.nextInt(4) == 0 ? r.nextLong() : r.nextInt(2500) - 200;
            default:
                return 10 * p() + trade();
        }
    }

    private void call() {
        switch (r.nextInt(8)) {
            case 0:
            case 1:
                doSome();
                break;
            case 2:
                askCourses();
                break;
            case 3:
                askChances();
                break;
            case 4:
                askRuns();
                break;
            case 5:
                askPeople();
                break;
            case 6:
                trays();
                break;
            default:
                others();
        }
    }

    private void doSome() {
        int p = p();
        int t = trade();
        switch (r.nextInt(10)) {
            case 0:
                same("draw " + p, x.draw(p), m.draw(p));
                break;
            case 1:
                int n = r.nextInt(9) == 0 ? r.nextInt(200) - 50 : 1 + r.nextInt(9);
                same("pledge " + p + " " + n, x.pledge(p, n), m.pledge(p, n));
                break;
            case 2:
                same("redeem " + p, x.redeem(p), m.redeem(p));
                break;
            case 3:
                int k = r.nextInt(12) - 1;
                same("talent " + p + " " + k, x.talent(p, k), m.talent(p, k));
                break;
            case 4:
                int seed = r.nextInt();
                int times = r.nextInt(6) == 0 ? r.nextInt(50) - 4 : 1 + r.nextInt(4);
                same("season " + seed + " " + times, x.season(seed, times), m.season(seed, times));
                break;
            case 5:
                int u = r.nextInt(6) == 0 ? r.nextInt(13) - 1 : 1 + r.nextInt(3);
                same("undo " + u, x.undo(u), m.undo(u));
                break;
            default:
                same("live " + p + " " + t, x.live(p, t), m.live(p, t));
        }
    }

    private void askCourses() {
        int p = p();
        same("best " + p, x.best(p), m.best(p));
        for (int i = r.nextInt(9) == 0 ? -1 : 0; i < 14 && (i < 0 || m.course(p, i) >= 0); i++) {
            same("course " + p + " " + i, x.course(p, i), m.course(p, i));
        }
        same("course " + p + " 13", x.course(p, 13), m.course(p, 13));
        same("drawsAt " + p, x.drawsAt(p), m.drawsAt(p));
        if (m.small()) {
            same("courses " + p, x.courses(p), m.courses(p));
            int n = r.nextInt(9) == 0 ? r.nextInt() : r.nextInt(40) - 5;
            same("soonest " + p + " " + n, x.soonest(p, n), m.soonest(p, n));
            if (m.is(p)) {
                walked(p);
            }
        }
    }

    /** The best course, found among all of them. */
    private void walked(int p) {
        Model.Course[] best = new Model.Course[1];
        m.walk(m.now.guys.get(p), 0, new int[20], new ArrayList<>(), best);
        same("best of all " + p, x.best(p), best[0].worth - m.now.guys.get(p).has);
        for (int i = 0; i < best[0].doings.size(); i++) {
            same("course of all " + p + " " + i, x.course(p, i), best[0].doings.get(i));
        }
        same("course ends " + p, x.course(p, best[0].doings.size()), -1);
    }

    private void askChances() {
        int p = p();
        int n = r.nextInt(5) == 0 ? r.nextInt(66) - 3 : r.nextInt(25);
        int what = r.nextInt(12) == 0 ? r.nextInt(4) - 1 : 0;
        same("mean " + p + " " + what, x.mean(p, what), m.mean(p, what));
        same("mean " + p + " 1", x.mean(p, 1), m.mean(p, 1));
        same("choice " + p, x.choice(p), m.choice(p));
        same("drawing " + p, x.drawing(p), m.drawing(p));
        same("hope " + p + " " + n + " " + what, x.hope(p, n, what), m.hope(p, n, what));
        same("hope " + p + " " + n + " 1", x.hope(p, n, 1), m.hope(p, n, 1));
        same("hoping " + p + " " + n, x.hoping(p, n), m.hoping(p, n));
    }

    private void askRuns() {
        int s = set();
        int n = r.nextInt(9) - 1;
        same("run " + s, x.run(s), m.run(s));
        same("rounds " + s, x.rounds(s), m.rounds(s));
        same("spark " + n, x.spark(n), m.spark(n));
        same("calm " + s + " " + n, x.calm(s, n), m.calm(s, n));
        same("rests", x.rests(), m.rests());
        int k = r.nextInt(5) - 1;
        same("rest " + k, x.rest(k), m.rest(k));
    }

    private void askPeople() {
        for (int p = -1; p < 7; p++) {
            for (int what = -1; what < 10; what++) {
                same("person " + p + " " + what, x.person(p, what), m.person(p, what));
            }
            for (int t = -1; t < 5; t++) {
                same("worth " + p + " " + t, x.worth(p, t), m.worth(p, t));
            }
            same("grown " + p, x.grown(p), m.grown(p));
        }
        for (int what = -1; what < 11; what++) {
            same("count " + what, x.count(what), m.count(what));
        }
        for (int what = -1; what < 4; what++) {
            same("fault " + what, x.fault(what), m.fault(what));
        }
    }

    private void trays() {
        int t = tray();
        int sort = r.nextInt(9) == 0 ? r.nextInt(7) - 1 : r.nextInt(4);
        int n = r.nextInt(9) == 0 ? r.nextInt(60) - 8 : 1 + r.nextInt(4);
        same("numbers " + t + " " + sort + " " + n, x.numbers(t, sort, n), m.numbers(t, sort, n));
        boolean trades = r.nextBoolean();
        for (int i = 0; i < 6; i++) {
            long v = trades ? trade() : deed();
            same("write " + t + " " + i + " " + v, x.write(t, i, v), m.write(t, i, v));
        }
        askTray(t);
        int p = p();
        int sum = r.nextInt(30) - 9;
        for (int k = 0; k < 4; k++, sum++) {
            same("talents " + t + " " + p + " " + sum, x.talents(t, p, sum), m.talents(t, p, sum));
            same("attempt " + t + " " + p + " " + sum, x.attempt(t, p, sum), m.attempt(t, p, sum));
        }
        if (r.nextInt(3) == 0) {
            same("lists " + t + " " + p, x.lists(t, p), m.lists(t, p));
            askTray(t);
        }
        if (r.nextInt(3) == 0) {
            same("perform " + t, x.perform(t), m.perform(t));
        }
    }

    private void askTray(int t) {
        for (int what = -1; what < 5; what++) {
            same("judge " + t + " " + what, x.judge(t, what), m.judge(t, what));
        }
    }

    private void others() {
        int i = r.nextInt(12) == 0 ? r.nextInt(5) - 2 : r.nextInt(2);
        switch (r.nextInt(9)) {
            case 0:
                tell(text());
                break;
            case 1:
                tell(broken(text()));
                break;
            case 2:
            case 3:
                same("image " + i, x.image(i), m.image(i));
                break;
            case 4:
            case 5:
                same("restore " + i, x.restore(i), m.restore(i));
                break;
            case 6:
                int n = r.nextInt(30) - 10;
                same("town " + n, x.town(n), m.town(n));
                break;
            default:
                same("fault 2", x.fault(2), m.fault(2));
                same("fault 0", x.fault(0), m.fault(0));
        }
    }
}
