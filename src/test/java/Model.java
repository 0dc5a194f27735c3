import java.math.BigInteger;
import java.util.ArrayDeque;
import java.util.ArrayList;
import java.util.Deque;
import java.util.HashMap;
import java.util.List;
import java.util.Map;

/** The document said once more, as plainly as can be: people are objects, courses are walked one by one. */
final class Model {
    static final int NONE = -1;

    interface Law {
        int tell(Guy g, int trade);
    }

    interface Truth {
        boolean holds(Guy g, int trade);
    }

    static final class Guy {
        int year = 0;
        int life = 1;
        int has = 0;
        int last = 9;
        int streak = 0;
        int old = 0;
        int talent = 0;
        int fear = 9;
        int pledged = 0;
        boolean dead = false;

        Guy copy() {
            Guy g = new Guy();
            g.year = year;
            g.life = life;
            g.has = has;
            g.last = last;
            g.streak = streak;
            g.old = old;
            g.talent = talent;
            g.fear = fear;
            g.pledged = pledged;
            g.dead = dead;
            return g;
        }

        String key() {
            return year + "," + life + "," + last + "," + streak + "," + old + "," + dead;
        }
    }

    static final class Place {
        int years = 1;
        int trades = 1;
        int cash = 0;
        int dies = 0;
        int lines = 0;
        Law worth = (g, t) -> 1;
        Law grows = (g, t) -> 0;
        List<Guy> guys = new ArrayList<>();
    }

    static final class Moment {
        List<Guy> guys = new ArrayList<>();
        int cash = 0;

        Moment copy() {
            Moment m = new Moment();
            for (Guy g : guys) {
                m.guys.add(g.copy());
            }
            m.cash = cash;
            return m;
        }
    }

    static final class Wrong extends RuntimeException {
        final int kind;
        final int place;

        Wrong(int kind, int place) {
            this.kind = kind;
            this.place = place;
        }
    }

    // ---- the state

    StringBuilder tape = new StringBuilder();
    Place place = new Place();
    Moment now = new Moment();
    Deque<Moment> past = new ArrayDeque<>();
    Place[] imagePlace = new Place[2];
    Moment[] imageMoment = new Moment[2];
    long[][] trays = new long[4][];
    int[] sorts = new int[4];
    int fault = 0;
    int faultPlace = NONE;

    static int no(int code) {
        return -99000000 - code;
    }

    boolean is(int p) {
        return p >= 0 && p < now.guys.size();
    }

    // ---- the town

    int feed(int... words) {
        if (tape.length() + 20 > 900) {
            return no(5);
        }
        for (int w : words) {
            for (int k = 3; k >= 0; k--) {
                tape.append((char) (w >>> 8 * k & 255));
            }
        }
        return tape.length();
    }

    int town(int n) {
        if (n < 0 || n > tape.length()) {
            return no(3);
        }
        String text = tape.substring(0, n);
        tape.setLength(0);
        Place read;
        try {
            read = new Parser(text).read();
        } catch (Wrong w) {
            fault = w.kind;
            faultPlace = w.place;
            return no(30 + w.kind);
        }
        fault = 0;
        faultPlace = NONE;
        place = read;
        now = new Moment();
        for (Guy g : read.guys) {
            now.guys.add(g.copy());
        }
        now.cash = read.cash;
        past.clear();
        return read.lines;
    }

    int fault(int what) {
        return what == 0 ? fault : what == 1 ? faultPlace : NONE;
    }

    int person(int p, int what) {
        if (!is(p) || what < 0 || what > 8) {
            return no(2);
        }
        Guy g = now.guys.get(p);
        return new int[] {g.year, g.life, g.has, g.last, g.streak, g.old, g.talent, g.fear, g.pledged}[what];
    }

    int worthOf(Guy g, int trade) {
        return Math.max(-9, Math.min(9, place.worth.tell(g, trade)));
    }

    int grownOf(Guy g) {
        return Math.max(0, Math.min(place.years, place.grows.tell(g, 0)));
    }

    int worth(int p, int trade) {
        if (!is(p) || trade < 0 || trade >= place.trades) {
            return no(2);
        }
        Guy g = now.guys.get(p);
        return g.year == place.years ? no(5) : worthOf(g, trade);
    }

    int grown(int p) {
        if (!is(p)) {
            return no(2);
        }
        return now.guys.get(p).life == 2 ? no(5) : grownOf(now.guys.get(p));
    }

    // ---- deeds: each answers why not, or 0

    int doLive(Moment m, int p, long trade) {
        if (p < 0 || p >= m.guys.size() || trade < 0 || trade >= place.trades) {
            return 1;
        }
        Guy g = m.guys.get(p);
        if (g.year == place.years) {
            return 2;
        }
        liveYear(g, (int) trade);
        return 0;
    }

    void liveYear(Guy g, int trade) {
        g.has += worthOf(g, trade);
        g.streak = g.last == trade ? g.streak + 1 : 1;
        g.last = trade;
        g.year++;
    }

    int doDraw(Moment m, int p) {
        if (p < 0 || p >= m.guys.size()) {
            return 1;
        }
        Guy g = m.guys.get(p);
        if (g.life == 2) {
            return 2;
        }
        if (g.pledged > 0) {
            return 3;
        }
        drawLife(g);
        return 0;
    }

    void drawLife(Guy g) {
        int grown = grownOf(g);
        g.old = g.year;
        g.year = grown;
        g.life = 2;
        g.last = 9;
        g.streak = 0;
        g.dead = false;
    }

    int doPledge(Moment m, int p, long n) {
        if (p < 0 || p >= m.guys.size() || n < 1 || n > 99) {
            return 1;
        }
        Guy g = m.guys.get(p);
        if (g.life == 2) {
            return 2;
        }
        if (g.pledged > 0) {
            return 3;
        }
        if (m.cash < n) {
            return 4;
        }
        g.pledged = (int) n;
        g.has += n;
        m.cash -= n;
        return 0;
    }

    int doRedeem(Moment m, int p) {
        if (p < 0 || p >= m.guys.size()) {
            return 1;
        }
        Guy g = m.guys.get(p);
        if (g.pledged == 0) {
            return 3;
        }
        g.has -= g.pledged;
        m.cash += g.pledged;
        g.pledged = 0;
        return 0;
    }

    int doDeed(Moment m, long v) {
        if (v >= 0 && v < 100) {
            return doLive(m, (int) v / 10, v % 10);
        }
        if (v >= 100 && v < 110) {
            return doDraw(m, (int) v - 100);
        }
        if (v >= 110 && v < 120) {
            return doRedeem(m, (int) v - 110);
        }
        if (v >= 1000 && v < 2000) {
            return doPledge(m, (int) (v - 1000) / 100, v % 100);
        }
        return 1;
    }

    void remember(Moment m) {
        past.addLast(m);
        if (past.size() > 10) {
            past.removeFirst();
        }
    }

    int live(int p, int trade) {
        Moment m = now.copy();
        int why = doLive(now, p, trade);
        if (why != 0) {
            return no(10 + why);
        }
        remember(m);
        return now.guys.get(p).has - m.guys.get(p).has;
    }

    int draw(int p) {
        Moment m = now.copy();
        int why = doDraw(now, p);
        if (why != 0) {
            return no(10 + why);
        }
        remember(m);
        return now.guys.get(p).year;
    }

    int pledge(int p, int n) {
        Moment m = now.copy();
        int why = doPledge(now, p, n);
        if (why != 0) {
            return no(10 + why);
        }
        remember(m);
        return now.cash;
    }

    int redeem(int p) {
        Moment m = now.copy();
        int why = doRedeem(now, p);
        if (why != 0) {
            return no(10 + why);
        }
        remember(m);
        return now.cash;
    }

    int talent(int p, int n) {
        if (!is(p) || n < 0 || n > 9) {
            return no(11);
        }
        remember(now.copy());
        int was = now.guys.get(p).talent;
        now.guys.get(p).talent = n;
        return was;
    }

    int undo(int n) {
        if (n < 1 || n > 10 || n > past.size()) {
            return no(3);
        }
        for (int i = 0; i < n; i++) {
            now = past.removeLast();
        }
        return past.size();
    }

    int judge(int tray, int what) {
        if (tray < 0 || tray > 3 || what < 0 || what > 3) {
            return no(2);
        }
        if (trays[tray] == null) {
            return no(6);
        }
        Moment m = now.copy();
        int at = NONE;
        int why = 0;
        for (int i = 0; i < trays[tray].length && why == 0; i++) {
            why = doDeed(m, trays[tray][i]);
            at = why != 0 ? i : NONE;
        }
        return what == 0 ? at : what == 1 ? why : what == 2 ? have(m) : second(m);
    }

    static int have(Moment m) {
        return m.guys.stream().mapToInt(g -> g.has).sum();
    }

    static int second(Moment m) {
        int bits = 0;
        for (int p = 0; p < m.guys.size(); p++) {
            bits += m.guys.get(p).life == 2 ? 1 << p : 0;
        }
        return bits;
    }

    int perform(int tray) {
        if (tray < 0 || tray > 3) {
            return no(2);
        }
        if (trays[tray] == null) {
            return no(6);
        }
        Moment m = now.copy();
        int done = 0;
        for (long v : trays[tray]) {
            if (doDeed(now, v) != 0) {
                break;
            }
            done++;
        }
        if (done > 0) {
            remember(m);
        }
        return done;
    }

    private int x;

    private int drawn() {
        x = 1103515245 * x + 12345;
        return x >>> 16;
    }

    int season(int seed, int times) {
        if (times < 1 || times > 40) {
            return no(3);
        }
        x = seed;
        Moment m = now.copy();
        int done = 0;
        for (int i = 0; i < times; i++) {
            int kind = drawn() % 6;
            int p = drawn() % 6;
            int why = kind < 4 ? doDeed(now, p * 10 + drawn() % 4)
                    : kind == 4 ? doDeed(now, 100 + p) : doDeed(now, 1000 + p * 100 + 1 + drawn() % 9);
            done += why == 0 ? 1 : 0;
        }
        if (done > 0) {
            remember(m);
        }
        return done;
    }

    // ---- courses

    static final class Course {
        int worth = 0;
        List<Integer> doings = new ArrayList<>();
        List<Integer> years = new ArrayList<>();

        boolean beats(Course o) {
            if (worth != o.worth) {
                return worth > o.worth;
            }
            if (doings.size() != o.doings.size()) {
                return doings.size() < o.doings.size();
            }
            for (int i = 0; i < doings.size(); i++) {
                if (!doings.get(i).equals(o.doings.get(i))) {
                    return doings.get(i) < o.doings.get(i);
                }
            }
            return false;
        }

        Course behind(int doing, int gain, int year) {
            Course c = new Course();
            c.worth = worth + gain;
            c.doings.add(doing);
            c.doings.addAll(doings);
            c.years.add(year);
            c.years.addAll(years);
            return c;
        }
    }

    boolean mayDraw(Guy g) {
        return g.life == 1 && g.pledged == 0;
    }

    boolean mayLive(Guy g) {
        return g.year < place.years && !g.dead;
    }

    Course bestCourse(Guy g, Map<String, Course> known) {
        Course seen = known.get(g.key());
        if (seen != null) {
            return seen;
        }
        Course best = new Course();
        for (int t = 0; mayLive(g) && t < place.trades; t++) {
            Guy h = g.copy();
            liveYear(h, t);
            Course c = bestCourse(h, known).behind(t, h.has - g.has, g.year);
            best = c.beats(best) ? c : best;
        }
        if (mayDraw(g)) {
            Guy h = g.copy();
            drawLife(h);
            Course c = bestCourse(h, known).behind(9, 0, g.year);
            best = c.beats(best) ? c : best;
        }
        known.put(g.key(), best);
        return best;
    }

    /** All courses walked, with no memory: how many end where nothing more can be done, and what is had by so many doings. */
    long walk(Guy g, int done, int[] most, List<Integer> doings, Course[] best) {
        most[done] = Math.max(most[done], g.has);
        Course c = new Course();
        c.worth = g.has;
        c.doings = doings;
        if (best[0] == null || c.beats(best[0])) {
            c.doings = new ArrayList<>(doings);
            best[0] = c;
        }
        if (!mayLive(g) && !mayDraw(g)) {
            return 1;
        }
        long many = 0;
        for (int t = 0; mayLive(g) && t < place.trades; t++) {
            Guy h = g.copy();
            liveYear(h, t);
            doings.add(t);
            many += walk(h, done + 1, most, doings, best);
            doings.remove(doings.size() - 1);
        }
        if (mayDraw(g)) {
            Guy h = g.copy();
            drawLife(h);
            doings.add(9);
            many += walk(h, done + 1, most, doings, best);
            doings.remove(doings.size() - 1);
        }
        return many;
    }

    /** The most it has behind just so many doings, or the least int. */
    int mostBehind(Guy g, int doings, Map<String, Integer> known) {
        if (doings == 0) {
            return g.has;
        }
        String key = g.key() + "/" + g.has + "/" + doings;
        Integer seen = known.get(key);
        if (seen != null) {
            return seen;
        }
        int most = Integer.MIN_VALUE;
        for (int doing : open(g)) {
            Guy h = g.copy();
            if (doing == 9) {
                drawLife(h);
            } else {
                liveYear(h, doing);
            }
            most = Math.max(most, mostBehind(h, doings - 1, known));
        }
        known.put(key, most);
        return most;
    }

    /** Whether all courses can be walked one by one. */
    boolean small() {
        return Math.pow(place.trades, 2 * place.years) < 5000;
    }

    int best(int p) {
        return is(p) ? bestCourse(now.guys.get(p), new HashMap<>()).worth : no(2);
    }

    int course(int p, int i) {
        if (!is(p)) {
            return no(2);
        }
        if (i < 0) {
            return no(3);
        }
        List<Integer> d = bestCourse(now.guys.get(p), new HashMap<>()).doings;
        return i < d.size() ? d.get(i) : NONE;
    }

    int drawsAt(int p) {
        if (!is(p)) {
            return no(2);
        }
        Course c = bestCourse(now.guys.get(p), new HashMap<>());
        int at = c.doings.indexOf(9);
        return at < 0 ? NONE : c.years.get(at);
    }

    long courses(int p) {
        return is(p) ? walk(now.guys.get(p), 0, new int[20], new ArrayList<>(), new Course[1]) : no(2);
    }

    int soonest(int p, int n) {
        if (!is(p)) {
            return no(2);
        }
        int[] most = new int[20];
        java.util.Arrays.fill(most, Integer.MIN_VALUE);
        walk(now.guys.get(p), 0, most, new ArrayList<>(), new Course[1]);
        for (int k = 0; k < most.length; k++) {
            if (most[k] != Integer.MIN_VALUE && most[k] >= n) {
                return k;
            }
        }
        return NONE;
    }

    // ---- by chance

    static final class Part implements Comparable<Part> {
        static final Part ZERO = new Part(BigInteger.ZERO, BigInteger.ONE);
        static final Part ONE = new Part(BigInteger.ONE, BigInteger.ONE);
        final BigInteger above;
        final BigInteger below;

        Part(BigInteger a, BigInteger b) {
            BigInteger d = a.gcd(b);
            above = a.divide(d);
            below = b.divide(d);
        }

        static Part of(long a, long b) {
            return new Part(BigInteger.valueOf(a), BigInteger.valueOf(b));
        }

        Part plus(Part o) {
            return new Part(above.multiply(o.below).add(o.above.multiply(below)), below.multiply(o.below));
        }

        Part times(Part o) {
            return new Part(above.multiply(o.above), below.multiply(o.below));
        }

        @Override
        public int compareTo(Part o) {
            return above.multiply(o.below).compareTo(o.above.multiply(below));
        }

        long get(int what) {
            return (what == 0 ? above : below).longValueExact();
        }
    }

    static Guy killed(Guy g) {
        Guy h = g.copy();
        h.dead = true;
        return h;
    }

    Part meanBy(Guy g, int doing, Map<String, Part> known) {
        Guy h = g.copy();
        if (doing == 9) {
            drawLife(h);
            return meanFrom(h, known);
        }
        liveYear(h, doing);
        Part alive = Part.of(h.has - g.has, 1).plus(meanFrom(h, known));
        return alive.times(Part.of(10 - place.dies, 10)).plus(meanFrom(killed(g), known).times(Part.of(place.dies, 10)));
    }

    List<Integer> open(Guy g) {
        List<Integer> doings = new ArrayList<>();
        for (int t = 0; mayLive(g) && t < place.trades; t++) {
            doings.add(t);
        }
        if (mayDraw(g)) {
            doings.add(9);
        }
        return doings;
    }

    Part meanFrom(Guy g, Map<String, Part> known) {
        Part seen = known.get(g.key());
        if (seen != null) {
            return seen;
        }
        Part best = Part.ZERO;
        for (int doing : open(g)) {
            Part by = meanBy(g, doing, known);
            best = by.compareTo(best) > 0 ? by : best;
        }
        known.put(g.key(), best);
        return best;
    }

    long mean(int p, int what) {
        return is(p) && (what == 0 || what == 1) ? meanFrom(now.guys.get(p), new HashMap<>()).get(what) : no(2);
    }

    int choice(int p) {
        if (!is(p)) {
            return no(2);
        }
        Guy g = now.guys.get(p);
        Part best = meanFrom(g, new HashMap<>());
        if (best.compareTo(Part.ZERO) == 0) {
            return NONE;
        }
        for (int doing : open(g)) {
            if (meanBy(g, doing, new HashMap<>()).compareTo(best) == 0) {
                return doing;
            }
        }
        throw new IllegalStateException();
    }

    int drawing(int p) {
        if (!is(p)) {
            return no(2);
        }
        Guy g = now.guys.get(p);
        return mayDraw(g) && meanBy(g, 9, new HashMap<>()).compareTo(meanFrom(g, new HashMap<>())) == 0 ? 1 : 0;
    }

    Part hopeBy(Guy g, int need, int doing, Map<String, Part> known) {
        Guy h = g.copy();
        if (doing == 9) {
            drawLife(h);
            return hopeFrom(h, need, known);
        }
        liveYear(h, doing);
        Part alive = hopeFrom(h, need - (h.has - g.has), known);
        return alive.times(Part.of(10 - place.dies, 10))
                .plus(hopeFrom(killed(g), need, known).times(Part.of(place.dies, 10)));
    }

    Part hopeFrom(Guy g, int need, Map<String, Part> known) {
        String key = g.key() + ":" + need;
        Part seen = known.get(key);
        if (seen != null) {
            return seen;
        }
        Part best = need <= 0 ? Part.ONE : Part.ZERO;
        for (int doing : open(g)) {
            Part by = hopeBy(g, need, doing, known);
            best = by.compareTo(best) > 0 ? by : best;
        }
        known.put(key, best);
        return best;
    }

    long hope(int p, int n, int what) {
        if (!is(p) || what < 0 || what > 1) {
            return no(2);
        }
        return n < 0 || n > 60 ? no(3) : hopeFrom(now.guys.get(p), n, new HashMap<>()).get(what);
    }

    int hoping(int p, int n) {
        if (!is(p)) {
            return no(2);
        }
        if (n < 0 || n > 60) {
            return no(3);
        }
        return hopingFrom(now.guys.get(p), n, new HashMap<>());
    }

    int hopingFrom(Guy g, int n, Map<String, Part> known) {
        Part best = hopeFrom(g, n, known);
        if (best.compareTo(n <= 0 ? Part.ONE : Part.ZERO) == 0) {
            return NONE;
        }
        for (int doing : open(g)) {
            if (hopeBy(g, n, doing, known).compareTo(best) == 0) {
                return doing;
            }
        }
        throw new IllegalStateException();
    }

    // ---- talents

    int talents(int tray, int p, int sum) {
        if (tray < 0 || tray > 3 || !is(p)) {
            return no(2);
        }
        if (trays[tray] == null) {
            return no(6);
        }
        int n = trays[tray].length;
        if (n < 1 || n > 12 || n > place.years - now.guys.get(p).year) {
            return no(4);
        }
        for (long v : trays[tray]) {
            if (v < 0 || v >= place.trades) {
                return no(3);
            }
        }
        int bits = 0;
        for (int t = 0; t < 10; t++) {
            Guy g = now.guys.get(p).copy();
            g.talent = t;
            int was = g.has;
            for (long v : trays[tray]) {
                liveYear(g, (int) v);
            }
            bits |= g.has - was == sum ? 1 << t : 0;
        }
        return bits;
    }

    int attempt(int tray, int p, int sum) {
        int bits = talents(tray, p, sum);
        if (bits <= 0) {
            return bits == 0 ? NONE : bits;
        }
        int least = 99;
        int found = NONE;
        for (int t = 0; t < place.trades; t++) {
            Map<Integer, Integer> groups = new HashMap<>();
            for (int k = 0; k < 10; k++) {
                if ((bits >> k & 1) == 1) {
                    Guy g = now.guys.get(p).copy();
                    g.talent = k;
                    groups.merge(worthOf(g, t), 1, Integer::sum);
                }
            }
            int most = groups.values().stream().mapToInt(v -> v).max().getAsInt();
            if (most < least) {
                least = most;
                found = t;
            }
        }
        return found;
    }

    // ---- runs

    int all() {
        return (1 << now.guys.size()) - 1;
    }

    int[] spread(int set, int calmed) {
        int in = set;
        int rounds = 0;
        while (true) {
            int next = in;
            for (int p = 0; p < now.guys.size(); p++) {
                if ((in >> p & 1) == 0 && (calmed >> p & 1) == 0 && Integer.bitCount(in) >= now.guys.get(p).fear) {
                    next |= 1 << p;
                }
            }
            if (next == in) {
                return new int[] {in, rounds};
            }
            in = next;
            rounds++;
        }
    }

    int run(int set) {
        return set < 0 || set > all() ? no(3) : spread(set, 0)[0];
    }

    int rounds(int set) {
        return set < 0 || set > all() ? no(3) : spread(set, 0)[1];
    }

    int spark(int n) {
        if (n < 1 || n > 6) {
            return no(3);
        }
        for (int k = 0; k <= 6; k++) {
            for (int set = 0; set <= all(); set++) {
                if (Integer.bitCount(set) == k && Integer.bitCount(spread(set, 0)[0]) >= n) {
                    return set;
                }
            }
        }
        return NONE;
    }

    int calm(int set, int n) {
        if (set < 0 || set > all() || n < 0 || n > 6) {
            return no(3);
        }
        for (int k = 0; k <= 6; k++) {
            for (int c = 0; c <= all(); c++) {
                if (Integer.bitCount(c) == k && (c & set) == 0 && Integer.bitCount(spread(set, c)[0]) <= n) {
                    return c;
                }
            }
        }
        return NONE;
    }

    List<Integer> restList() {
        List<Integer> found = new ArrayList<>();
        for (int set = 0; set <= all(); set++) {
            boolean fine = true;
            for (int p = 0; p < now.guys.size(); p++) {
                int others = Integer.bitCount(set & ~(1 << p));
                boolean sees = others >= now.guys.get(p).fear;
                fine &= sees == ((set >> p & 1) == 1);
            }
            if (fine) {
                found.add(set);
            }
        }
        return found;
    }

    int rests() {
        return restList().size();
    }

    int rest(int k) {
        if (k < 0) {
            return no(3);
        }
        return k < restList().size() ? restList().get(k) : NONE;
    }

    // ---- trays, images

    int numbers(int tray, int sort, int n) {
        if (tray < 0 || tray > 3 || sort < 0 || sort > 3) {
            return no(2);
        }
        if (n < 0 || n > 40) {
            return no(3);
        }
        trays[tray] = new long[n];
        sorts[tray] = sort;
        return 0;
    }

    long write(int tray, int i, long v) {
        if (tray < 0 || tray > 3) {
            return no(2);
        }
        if (trays[tray] == null) {
            return no(6);
        }
        if (i < 0 || i >= trays[tray].length) {
            return no(7);
        }
        int off = 64 - (8 << sorts[tray]);
        trays[tray][i] = v << off >> off;
        return trays[tray][i];
    }

    int lists(int tray, int p) {
        if (tray < 0 || tray > 3 || !is(p)) {
            return no(2);
        }
        if (trays[tray] == null) {
            return no(6);
        }
        List<Integer> d = bestCourse(now.guys.get(p), new HashMap<>()).doings;
        int n = Math.min(d.size(), trays[tray].length);
        for (int i = 0; i < n; i++) {
            trays[tray][i] = d.get(i) == 9 ? 100 + p : p * 10 + d.get(i);
        }
        return n;
    }

    int image(int i) {
        if (i < 0 || i > 1) {
            return no(2);
        }
        imagePlace[i] = place;
        imageMoment[i] = now.copy();
        return 0;
    }

    int restore(int i) {
        if (i < 0 || i > 1) {
            return no(2);
        }
        if (imagePlace[i] == null) {
            return no(5);
        }
        place = imagePlace[i];
        now = imageMoment[i].copy();
        past.clear();
        return 0;
    }

    int count(int what) {
        int pledged = 0;
        for (int p = 0; p < now.guys.size(); p++) {
            pledged |= now.guys.get(p).pledged > 0 ? 1 << p : 0;
        }
        return what < 0 || what > 9 ? NONE : new int[] {place.years, place.trades, now.guys.size(), now.cash, have(now),
            second(now), pledged, past.size(), tape.length(), place.lines}[what];
    }

    /** The text, cut into tokens first. */
    static final class Parser {
        final String text;
        final List<String> tokens = new ArrayList<>();
        final List<Integer> places = new ArrayList<>();
        int at = 0;
        boolean ofWorth;

        Parser(String text) {
            this.text = text;
            java.util.regex.Matcher m = java.util.regex.Pattern
                    .compile("[\\n ]+|([a-z]+|[0-9]+|[;:+\\-*()\\[\\]=<>]|[\\s\\S])").matcher(text);
            while (m.find()) {
                if (m.group(1) != null) {
                    tokens.add(m.group(1));
                    places.add(m.start());
                }
            }
            tokens.add("");
            places.add(text.length());
        }

        String now() {
            String t = tokens.get(at);
            if (!t.isEmpty() && !t.matches("[a-z]+|[0-9]{1,3}|[;:+\\-*()\\[\\]=<>]")) {
                throw new Wrong(1, places.get(at));
            }
            return t;
        }

        Wrong wrong(int kind) {
            return new Wrong(kind, places.get(at));
        }

        void take(String due) {
            if (!now().equals(due)) {
                throw wrong(2);
            }
            at++;
        }

        int number(int least, int most) {
            if (!now().matches("[0-9]+")) {
                throw wrong(2);
            }
            int n = Integer.parseInt(now());
            if (n < least || n > most) {
                throw wrong(3);
            }
            at++;
            return n;
        }

        Place read() {
            Place p = new Place();
            take("town");
            take("years");
            p.years = number(1, 6);
            take("trades");
            p.trades = number(1, 4);
            take(";");
            p.lines = 1;
            while (!now().isEmpty()) {
                line(p);
                take(";");
                p.lines++;
            }
            return p;
        }

        void line(Place p) {
            switch (now()) {
                case "person":
                    if (p.guys.size() == 6) {
                        throw wrong(4);
                    }
                    at++;
                    Guy g = new Guy();
                    while (now().equals("talent") || now().equals("fear")) {
                        String flag = now();
                        at++;
                        int n = number(0, 9);
                        if (flag.equals("fear")) {
                            g.fear = n;
                        } else {
                            g.talent = n;
                        }
                    }
                    p.guys.add(g);
                    break;
                case "cash":
                    at++;
                    p.cash = number(0, 999);
                    break;
                case "dies":
                    at++;
                    p.dies = number(0, 10);
                    break;
                case "worth":
                    at++;
                    take(":");
                    ofWorth = true;
                    p.worth = sum(0);
                    break;
                case "grows":
                    at++;
                    take(":");
                    ofWorth = false;
                    p.grows = sum(0);
                    break;
                default:
                    throw wrong(2);
            }
        }

        static int kept(long v) {
            return (int) Math.max(-1000000, Math.min(1000000, v));
        }

        Law sum(int depth) {
            Law left = term(depth);
            while (now().equals("+") || now().equals("-")) {
                int sign = now().equals("+") ? 1 : -1;
                at++;
                Law a = left;
                Law b = term(depth);
                left = (g, t) -> kept(a.tell(g, t) + (long) sign * b.tell(g, t));
            }
            return left;
        }

        Law term(int depth) {
            Law left = atom(depth);
            while (now().equals("*")) {
                at++;
                Law a = left;
                Law b = atom(depth);
                left = (g, t) -> kept((long) a.tell(g, t) * b.tell(g, t));
            }
            return left;
        }

        void open(int depth) {
            if (depth == 6) {
                throw wrong(4);
            }
            at++;
        }

        Law atom(int depth) {
            String t = now();
            if (t.matches("[0-9]+")) {
                int n = number(0, 999);
                return (g, trade) -> n;
            }
            if (t.equals("(")) {
                open(depth);
                Law inner = sum(depth + 1);
                take(")");
                return inner;
            }
            if (t.equals("if")) {
                open(depth);
                Truth c = truth(depth + 1);
                take("then");
                Law a = sum(depth + 1);
                take("else");
                Law b = sum(depth + 1);
                take("end");
                return (g, trade) -> c.holds(g, trade) ? a.tell(g, trade) : b.tell(g, trade);
            }
            if (t.equals("talent")) {
                at++;
                return (g, trade) -> g.talent;
            }
            if (t.equals("year")) {
                at++;
                return (g, trade) -> g.year;
            }
            if (!ofWorth) {
                throw wrong(2);
            }
            at++;
            switch (t) {
                case "trade":
                    return (g, trade) -> trade;
                case "last":
                    return (g, trade) -> g.last;
                case "streak":
                    return (g, trade) -> g.streak;
                case "life":
                    return (g, trade) -> g.life;
                case "old":
                    return (g, trade) -> g.old;
                default:
                    at--;
                    throw wrong(2);
            }
        }

        Truth truth(int depth) {
            Truth left = both(depth);
            while (now().equals("or")) {
                at++;
                Truth a = left;
                Truth b = both(depth);
                left = (g, t) -> a.holds(g, t) || b.holds(g, t);
            }
            return left;
        }

        Truth both(int depth) {
            Truth left = unit(depth);
            while (now().equals("and")) {
                at++;
                Truth a = left;
                Truth b = unit(depth);
                left = (g, t) -> a.holds(g, t) && b.holds(g, t);
            }
            return left;
        }

        Truth unit(int depth) {
            if (now().equals("not")) {
                open(depth);
                Truth a = unit(depth + 1);
                return (g, t) -> !a.holds(g, t);
            }
            if (now().equals("[")) {
                open(depth);
                Truth a = truth(depth + 1);
                take("]");
                return a;
            }
            Law a = sum(depth);
            String sign = now();
            if (!sign.matches("[=<>]")) {
                throw wrong(2);
            }
            at++;
            Law b = sum(depth);
            switch (sign) {
                case "=":
                    return (g, t) -> a.tell(g, t) == b.tell(g, t);
                case "<":
                    return (g, t) -> a.tell(g, t) < b.tell(g, t);
                default:
                    return (g, t) -> a.tell(g, t) > b.tell(g, t);
            }
        }
    }
}
