import java.util.Random;

/** Calls with any numbers, in any state, many more than are promised: none may throw, all must end, the room stays small. */
public final class WildTest {
    private static final int[] EDGES = {0, 1, -1, 2, 3, 5, 6, 9, 10, 40, 41, 60, 61, 99, 100, 900, Integer.MAX_VALUE, Integer.MIN_VALUE};
    private static final String[] TOWNS = {
        "town years 6 trades 4;person talent 1;person talent 2 fear 3;person talent 3 fear 1;person fear 0;person talent 9;person;"
            + "dies 3;cash 500;worth : (trade * 7 + year * 5 + streak * 3 + last * 11 + old * 2 + life * 4 + talent * 3) * 37 - 200"
            + " + if trade = last and streak > 2 or old < 2 then talent * year - 3 * streak else 0 - trade end;grows : year - 1;",
        "town years 1 trades 1;person;person;",
        "town years 6 trades 4;person;worth : trade + streak - year + old - 2;dies 5;cash 9;grows : talent;",
        "town years 3 trades 2;"};

    public static void main(String[] args) {
        Random r = new Random(4711);
        long sum = 0;
        for (int run = 0; run < 60; run++) {
            SecondLife x = new SecondLife();
            for (int i = 0; i < 1500; i++) {
                if (r.nextInt(60) == 0) {
                    Due.tell(x, TOWNS[r.nextInt(TOWNS.length)]);
                }
                sum += call(x, r, r.nextInt(39));
            }
        }
        System.out.println("all calls ended (" + sum + ")");
        room();
        Due.end();
    }

    private static int n(Random r) {
        int kind = r.nextInt(4);
        return kind == 0 ? EDGES[r.nextInt(EDGES.length)] : kind == 1 && r.nextInt(8) == 0 ? r.nextInt() : r.nextInt(7);
    }

    private static long call(SecondLife x, Random r, int which) {
        int a = n(r);
        int b = n(r);
        int c = n(r);
        switch (which) {
            case 0: return x.feed(r.nextInt(), a, b, c, n(r));
            case 1: return x.town(a);
            case 2: return x.fault(a);
            case 3: return x.person(a, b);
            case 4: return x.worth(a, b);
            case 5: return x.grown(a);
            case 6: return x.live(a, b);
            case 7: return x.draw(a);
            case 8: return x.pledge(a, b);
            case 9: return x.redeem(a);
            case 10: return x.talent(a, b);
            case 11: return x.undo(a);
            case 12: return x.judge(a, b);
            case 13: return x.perform(a);
            case 14: return x.season(a, b);
            case 15: return x.best(a);
            case 16: return x.course(a, b);
            case 17: return x.drawsAt(a);
            case 18: return x.courses(a);
            case 19: return x.soonest(a, b);
            case 20: return x.mean(a, b);
            case 21: return x.choice(a);
            case 22: return x.drawing(a);
            case 23: return x.hope(a, b, c);
            case 24: return x.hoping(a, b);
            case 25: return x.talents(a, b, c);
            case 26: return x.attempt(a, b, c);
            case 27: return x.run(a);
            case 28: return x.rounds(a);
            case 29: return x.spark(a);
            case 30: return x.calm(a, b);
            case 31: return x.rests();
            case 32: return x.rest(a);
            case 33: return x.numbers(a, b, c);
            case 34: return x.write(a, b, r.nextBoolean() ? r.nextLong() : r.nextInt(130));
            case 35: return x.lists(a, b);
            case 36: return x.image(a);
            case 37: return x.restore(a);
            default: return x.count(a);
        }
    }

    /** 512 calls, the dearest ones among them, make far less than the room holds. */
    private static void room() {
        com.sun.management.ThreadMXBean threads =
                (com.sun.management.ThreadMXBean) java.lang.management.ManagementFactory.getThreadMXBean();
        long before = threads.getCurrentThreadAllocatedBytes();
        SecondLife x = new SecondLife();
        int used = 0;
        long sum = 0;
        while (used < 480) {
            used += TOWNS[0].length() / 20 + 2;
            Due.tell(x, TOWNS[0]);
            for (int p = 0; p < 6; p++, used += 6) {
                sum += x.best(p) + x.soonest(p, 40) + x.mean(p, 0) + x.hope(p, 30, 0) + x.hoping(p, 20) + x.talent(p, used % 10);
            }
        }
        long made = threads.getCurrentThreadAllocatedBytes() - before;
        System.out.println(made + " bytes were made by " + used + " calls (" + sum + ")");
        Due.is("the room stays small: " + made, made < 4000000 ? 1 : 0, 1);
    }
}
