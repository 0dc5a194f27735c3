import java.util.ArrayList;
import java.util.List;

/**
 * One sentence of the document at a time: sentence() tells which promise it belongs to and its words, and all that is
 * asked behind it is asked for it, so that what is printed names both.
 */
final class Edge {
    static final int MOST = Integer.MAX_VALUE;
    static final int LEAST = Integer.MIN_VALUE;
    static final int NONE = -1;

    /** What was said of the document so far, a row each: promise and words. */
    static final List<Integer> PROMISES = new ArrayList<>();
    static final List<String> WORDS = new ArrayList<>();

    private static int asked = 1;

    private Edge() {
    }

    interface Making {
        void make(SecondLife x);
    }

    interface Asking {
        long ask(SecondLife x);
    }

    static void sentence(int promise, String words) {
        nothingUnasked();
        PROMISES.add(promise);
        WORDS.add(words);
        asked = 0;
    }

    /** A sentence of which nothing is asked has no test. */
    static void nothingUnasked() {
        if (asked == 0) {
            Due.is(label("is tested"), 0, 1);
        }
    }

    private static String label(String call) {
        int last = WORDS.size() - 1;
        return "promise " + PROMISES.get(last) + ", \"" + WORDS.get(last) + "\": " + call;
    }

    static void is(String call, long got, long want) {
        asked++;
        Due.is(label(call), got, want);
    }

    static void holds(String what, boolean truth) {
        is(what, truth ? 1 : 0, 1);
    }

    /** A call is refused by a code. */
    static void no(int code, String call, long got) {
        is(call, got, -99000000L - code);
    }

    /** A call is refused by a code, and leaves all as it was. */
    static void no(int code, String call, Making making, Asking asking) {
        is(call, leavesAll(call, making, asking), -99000000L - code);
    }

    /** A call answers what is due, and leaves all as it was. */
    static void same(long want, String call, Making making, Asking asking) {
        is(call, leavesAll(call, making, asking), want);
    }

    /** Two objects are made alike, one of them is asked, and nothing tells them apart then. */
    private static long leavesAll(String call, Making making, Asking asking) {
        SecondLife other = new SecondLife();
        SecondLife x = new SecondLife();
        making.make(other);
        making.make(x);
        long got = asking.ask(x);
        List<Long> due = all(other);
        List<Long> seen = all(x);
        int apart = NONE;
        for (int i = Math.min(due.size(), seen.size()) - 1; i >= 0; i--) {
            apart = due.get(i).equals(seen.get(i)) ? apart : i;
        }
        is(call + " leaves all as it was: the first answer that differs", due.size() == seen.size() ? apart : 0, NONE);
        return got;
    }

    // ---- all that can be seen of an object; what is seen last is used up by it

    private static List<Long> all(SecondLife x) {
        List<Long> seen = new ArrayList<>();
        look(x, seen);
        for (int tray = 0; tray < 4; tray++) {
            for (int what = 0; what < 4; what++) {
                seen.add((long) x.judge(tray, what));
            }
        }
        for (int i = 0; i < 10 && x.count(7) > 0; i++) {
            seen.add((long) x.undo(1));
            glance(x, seen);
        }
        for (int image = 0; image < 2; image++) {
            seen.add((long) x.restore(image));
            look(x, seen);
        }
        for (int tray = 0; tray < 4; tray++) {
            // how it is cut tells the sort, where it ends tells how many there are
            for (int i = 0; i < 5; i++) {
                seen.add(x.write(tray, i, 0x123456789abcdefL));
            }
            seen.add(x.write(tray, 39, 0));
        }
        seen.add((long) x.town(x.count(8)));
        for (int what = 0; what < 4; what++) {
            seen.add((long) x.count(what));
            seen.add((long) x.fault(what));
        }
        return seen;
    }

    private static void look(SecondLife x, List<Long> seen) {
        for (int what = 0; what < 10; what++) {
            seen.add((long) x.count(what));
        }
        seen.add((long) x.fault(0));
        seen.add((long) x.fault(1));
        for (int p = 0; p < x.count(2); p++) {
            for (int what = 0; what < 9; what++) {
                seen.add((long) x.person(p, what));
            }
            seen.add((long) x.worth(p, 1));
            seen.add((long) x.grown(p));
            seen.add(x.mean(p, 0));
        }
    }

    private static void glance(SecondLife x, List<Long> seen) {
        for (int what = 3; what < 8; what++) {
            seen.add((long) x.count(what));
        }
        for (int p = 0; p < x.count(2); p++) {
            seen.add((long) x.person(p, 0));
            seen.add((long) x.person(p, 6));
        }
    }
}
