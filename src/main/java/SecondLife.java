import java.util.Arrays;

/** A town of people with a second life that a bank keeps for them. */
public final class SecondLife {
    public static final int NONE = -1;

    private static final int REFUSED = -99000000;
    private static final int NO_SUCH = 2;
    private static final int BAD_NUMBER = 3;
    private static final int TOO_MANY = 4;
    private static final int NOT_NOW = 5;
    private static final int MISSING = 6;
    private static final int NO_PLACE = 7;
    private static final int WHY_NOT = 10;
    private static final int FAULTY = 30;

    private static final int MOST_PEOPLE = 6;
    private static final int MOST_YEARS = 6;
    private static final int MOST_TRADES = 4;
    private static final int MOST_HOPED = 60;
    private static final int TALENTS = 10;
    private static final int DRAWS = 9;
    private static final int NO_TRADE = 9;
    private static final int LEAST_WORTH = -9;
    private static final int MOST_WORTH = 9;
    private static final int MOST_BYTES = 900;
    private static final int FED_BYTES = 20;

    private final byte[] tape = new byte[MOST_BYTES];
    private int taped = 0;
    private final Reader reader = new Reader();
    private Town town = new Town();
    private final People now = new People();
    private final People trial = new People();
    private final Past past = new Past();
    private final Town[] imageTowns = new Town[2];
    private final People[] imagePeople = new People[2];
    private final Tray[] trays = new Tray[4];
    private final Reckoner reckoner = new Reckoner();
    private final Deeds deeds = new Deeds(reckoner);
    private final Ways ways = new Ways(reckoner);
    private final Courses plans = new Courses(ways);
    private final Chances chances = new Chances(ways, plans);
    private final int[] alike = new int[MOST_WORTH - LEAST_WORTH + 1];

    public SecondLife() {
        for (int i = 0; i < imagePeople.length; i++) {
            imagePeople[i] = new People();
        }
        for (int i = 0; i < trays.length; i++) {
            trays[i] = new Tray();
        }
    }

    // ---- the town

    public int feed(int a, int b, int c, int d, int e) {
        if (taped + FED_BYTES > MOST_BYTES) {
            return refused(NOT_NOW);
        }
        tapeWord(a);
        tapeWord(b);
        tapeWord(c);
        tapeWord(d);
        tapeWord(e);
        return taped;
    }

    public int town(int n) {
        if (n < 0 || n > taped) {
            return refused(BAD_NUMBER);
        }
        taped = 0;
        Town told = reader.read(tape, n);
        if (told == null) {
            return refused(FAULTY + reader.fault);
        }
        town = told;
        now.settle(told);
        past.forget();
        return told.lines;
    }

    public int fault(int what) {
        if (what == 0) {
            return reader.fault;
        }
        return what == 1 ? reader.place : NONE;
    }

    public int person(int p, int what) {
        if (!now.has(p) || what < 0 || what >= People.PARTS) {
            return refused(NO_SUCH);
        }
        return now.part(p, what);
    }

    public int worth(int p, int trade) {
        if (!now.has(p) || !town.hasTrade(trade)) {
            return refused(NO_SUCH);
        }
        if (now.part(p, People.YEAR) >= town.years) {
            return refused(NOT_NOW);
        }
        reckoner.about(now, p);
        return reckoner.worthOf(town, trade);
    }

    public int grown(int p) {
        if (!now.has(p)) {
            return refused(NO_SUCH);
        }
        if (now.part(p, People.LIFE) != 1) {
            return refused(NOT_NOW);
        }
        reckoner.about(now, p);
        return reckoner.grownOf(town);
    }

    // ---- deeds

    public int live(int p, int trade) {
        trial.copy(now);
        int why = deeds.lives(town, now, p, trade);
        if (why != 0) {
            return refused(WHY_NOT + why);
        }
        past.keep(trial);
        return now.part(p, People.HAS) - trial.part(p, People.HAS);
    }

    public int draw(int p) {
        trial.copy(now);
        int why = deeds.draws(town, now, p);
        if (why != 0) {
            return refused(WHY_NOT + why);
        }
        past.keep(trial);
        return now.part(p, People.YEAR);
    }

    public int pledge(int p, int n) {
        trial.copy(now);
        int why = deeds.pledges(now, p, n);
        if (why != 0) {
            return refused(WHY_NOT + why);
        }
        past.keep(trial);
        return now.cash;
    }

    public int redeem(int p) {
        trial.copy(now);
        int why = deeds.redeems(now, p);
        if (why != 0) {
            return refused(WHY_NOT + why);
        }
        past.keep(trial);
        return now.cash;
    }

    public int talent(int p, int n) {
        if (!now.has(p) || n < 0 || n >= TALENTS) {
            return refused(WHY_NOT + Deeds.NO_SUCH_ONE);
        }
        int was = now.part(p, People.TALENT);
        past.keep(now);
        now.put(p, People.TALENT, n);
        return was;
    }

    public int undo(int n) {
        if (!past.bringBack(n, now)) {
            return refused(BAD_NUMBER);
        }
        return past.size;
    }

    public int judge(int tray, int what) {
        Tray told = trayAt(tray);
        if (told == null || what < 0 || what > 3) {
            return refused(NO_SUCH);
        }
        if (!told.there) {
            return refused(MISSING);
        }
        trial.copy(now);
        int done = deeds.doAll(town, trial, told);
        if (what == 0) {
            return done < told.size ? done : NONE;
        }
        if (what == 1) {
            return deeds.why;
        }
        return what == 2 ? trial.wealth() : trial.drawn();
    }

    public int perform(int tray) {
        Tray told = trayAt(tray);
        if (told == null) {
            return refused(NO_SUCH);
        }
        if (!told.there) {
            return refused(MISSING);
        }
        trial.copy(now);
        int done = deeds.doAll(town, now, told);
        if (done > 0) {
            past.keep(trial);
        }
        return done;
    }

    public int season(int seed, int times) {
        if (times < 1 || times > 40) {
            return refused(BAD_NUMBER);
        }
        trial.copy(now);
        int done = deeds.doSeason(town, now, seed, times);
        if (done > 0) {
            past.keep(trial);
        }
        return done;
    }

    // ---- courses

    public int best(int p) {
        if (!now.has(p)) {
            return refused(NO_SUCH);
        }
        ways.about(town, now, p);
        return plans.mostFrom(ways.start);
    }

    public int course(int p, int i) {
        if (!now.has(p)) {
            return refused(NO_SUCH);
        }
        if (i < 0) {
            return refused(BAD_NUMBER);
        }
        ways.about(town, now, p);
        return plans.doingAt(i);
    }

    public int drawsAt(int p) {
        if (!now.has(p)) {
            return refused(NO_SUCH);
        }
        ways.about(town, now, p);
        return plans.drawingYear();
    }

    public long courses(int p) {
        if (!now.has(p)) {
            return refused(NO_SUCH);
        }
        ways.about(town, now, p);
        return plans.howMany();
    }

    public int soonest(int p, int n) {
        if (!now.has(p)) {
            return refused(NO_SUCH);
        }
        ways.about(town, now, p);
        return plans.fewestFor((long) n - now.part(p, People.HAS));
    }

    // ---- by chance

    public long mean(int p, int what) {
        if (!now.has(p) || what < 0 || what > 1) {
            return refused(NO_SUCH);
        }
        ways.about(town, now, p);
        return chances.fraction(chances.meanFrom(ways.start), what);
    }

    public int choice(int p) {
        if (!now.has(p)) {
            return refused(NO_SUCH);
        }
        ways.about(town, now, p);
        return chances.meanDoing();
    }

    public int drawing(int p) {
        if (!now.has(p)) {
            return refused(NO_SUCH);
        }
        ways.about(town, now, p);
        return chances.drawingIsBest() ? 1 : 0;
    }

    public long hope(int p, int n, int what) {
        if (!now.has(p) || what < 0 || what > 1) {
            return refused(NO_SUCH);
        }
        if (n < 0 || n > MOST_HOPED) {
            return refused(BAD_NUMBER);
        }
        ways.about(town, now, p);
        return chances.fraction(chances.hopeNow(n), what);
    }

    public int hoping(int p, int n) {
        if (!now.has(p)) {
            return refused(NO_SUCH);
        }
        if (n < 0 || n > MOST_HOPED) {
            return refused(BAD_NUMBER);
        }
        ways.about(town, now, p);
        return chances.hopeDoing(n);
    }

    // ---- talents

    public int talents(int tray, int p, int sum) {
        int wrong = livedFault(tray, p);
        return wrong != 0 ? refused(wrong) : fittingTalents(trayAt(tray), p, sum);
    }

    public int attempt(int tray, int p, int sum) {
        int wrong = livedFault(tray, p);
        if (wrong != 0) {
            return refused(wrong);
        }
        int fitting = fittingTalents(trayAt(tray), p, sum);
        int tried = NONE;
        int least = TALENTS + 1;
        for (int trade = 0; fitting != 0 && trade < town.trades; trade++) {
            int most = mostAlike(p, trade, fitting);
            if (most < least) {
                least = most;
                tried = trade;
            }
        }
        return tried;
    }

    // ---- runs

    public int run(int set) {
        return now.isSet(set) ? now.runOf(set, 0) : refused(BAD_NUMBER);
    }

    public int rounds(int set) {
        return now.isSet(set) ? now.roundsOf(set) : refused(BAD_NUMBER);
    }

    public int spark(int n) {
        if (n < 1 || n > MOST_PEOPLE) {
            return refused(BAD_NUMBER);
        }
        int found = NONE;
        int fewest = MOST_PEOPLE + 1;
        for (int set = 0; set <= now.everybody(); set++) {
            int begin = Integer.bitCount(set);
            if (begin < fewest && Integer.bitCount(now.runOf(set, 0)) >= n) {
                fewest = begin;
                found = set;
            }
        }
        return found;
    }

    public int calm(int set, int n) {
        if (!now.isSet(set) || n < 0 || n > MOST_PEOPLE) {
            return refused(BAD_NUMBER);
        }
        int found = NONE;
        int fewest = MOST_PEOPLE + 1;
        for (int calmed = 0; calmed <= now.everybody(); calmed++) {
            int many = Integer.bitCount(calmed);
            if ((calmed & set) == 0 && many < fewest && Integer.bitCount(now.runOf(set, calmed)) <= n) {
                fewest = many;
                found = calmed;
            }
        }
        return found;
    }

    public int rests() {
        int found = 0;
        for (int set = 0; set <= now.everybody(); set++) {
            if (now.atRest(set)) {
                found++;
            }
        }
        return found;
    }

    public int rest(int k) {
        if (k < 0) {
            return refused(BAD_NUMBER);
        }
        int found = 0;
        for (int set = 0; set <= now.everybody(); set++) {
            if (now.atRest(set)) {
                if (found == k) {
                    return set;
                }
                found++;
            }
        }
        return NONE;
    }

    // ---- trays, images

    public int numbers(int tray, int sort, int n) {
        Tray told = trayAt(tray);
        if (told == null || sort < 0 || sort > 3) {
            return refused(NO_SUCH);
        }
        if (n < 0 || n > Tray.PLACES) {
            return refused(BAD_NUMBER);
        }
        told.make(sort, n);
        return 0;
    }

    public long write(int tray, int i, long v) {
        Tray told = trayAt(tray);
        if (told == null) {
            return refused(NO_SUCH);
        }
        if (!told.there) {
            return refused(MISSING);
        }
        if (i < 0 || i >= told.size) {
            return refused(NO_PLACE);
        }
        told.put(i, v);
        return told.number(i);
    }

    public int lists(int tray, int p) {
        Tray told = trayAt(tray);
        if (told == null || !now.has(p)) {
            return refused(NO_SUCH);
        }
        if (!told.there) {
            return refused(MISSING);
        }
        ways.about(town, now, p);
        return plans.listInto(told, p);
    }

    public int image(int i) {
        if (i < 0 || i >= imageTowns.length || i >= imagePeople.length) {
            return refused(NO_SUCH);
        }
        People people = imagePeople[i];
        if (people == null) {
            return refused(NO_SUCH);
        }
        imageTowns[i] = town;
        people.copy(now);
        return 0;
    }

    public int restore(int i) {
        if (i < 0 || i >= imageTowns.length || i >= imagePeople.length) {
            return refused(NO_SUCH);
        }
        Town kept = imageTowns[i];
        People people = imagePeople[i];
        if (kept == null || people == null) {
            return refused(NOT_NOW);
        }
        town = kept;
        now.copy(people);
        past.forget();
        return 0;
    }

    public int count(int what) {
        switch (what) {
            case 0:
                return town.years;
            case 1:
                return town.trades;
            case 2:
                return now.size;
            case 3:
                return now.cash;
            case 4:
                return now.wealth();
            case 5:
                return now.drawn();
            case 6:
                return now.pledged();
            case 7:
                return past.size;
            case 8:
                return taped;
            case 9:
                return town.lines;
            default:
                return NONE;
        }
    }

    // ---- what several calls share

    private static int refused(int code) {
        return REFUSED - code;
    }

    private void tapeWord(int word) {
        for (int shift = 24; shift >= 0; shift -= 8) {
            if (taped < tape.length) {
                tape[taped] = (byte) (word >>> shift);
                taped++;
            }
        }
    }

    private Tray trayAt(int tray) {
        return tray >= 0 && tray < trays.length ? trays[tray] : null;
    }

    private int livedFault(int tray, int p) {
        Tray told = trayAt(tray);
        if (told == null || !now.has(p)) {
            return NO_SUCH;
        }
        if (!told.there) {
            return MISSING;
        }
        if (told.size < 1 || told.size > 12 || told.size > town.years - now.part(p, People.YEAR)) {
            return TOO_MANY;
        }
        for (int i = 0; i < told.size; i++) {
            if (!town.hasTrade(told.number(i))) {
                return BAD_NUMBER;
            }
        }
        return 0;
    }

    private int fittingTalents(Tray lived, int p, int sum) {
        int fitting = 0;
        for (int talent = 0; lived != null && talent < TALENTS; talent++) {
            trial.copy(now);
            trial.put(p, People.TALENT, talent);
            for (int i = 0; i < lived.size; i++) {
                deeds.lives(town, trial, p, lived.number(i));
            }
            if (trial.part(p, People.HAS) - now.part(p, People.HAS) == sum) {
                fitting |= 1 << talent;
            }
        }
        return fitting;
    }

    private int mostAlike(int p, int trade, int fitting) {
        Arrays.fill(alike, 0);
        trial.copy(now);
        int most = 0;
        for (int talent = 0; talent < TALENTS; talent++) {
            if ((fitting >> talent & 1) == 0) {
                continue;
            }
            trial.put(p, People.TALENT, talent);
            reckoner.about(trial, p);
            int group = reckoner.worthOf(town, trade) - LEAST_WORTH;
            if (group >= 0 && group < alike.length) {
                alike[group]++;
                most = Math.max(most, alike[group]);
            }
        }
        return most;
    }

    private static int within(int value, int least, int most) {
        return value < least ? least : value > most ? most : value;
    }

    /** What a text tells; nothing changes in it once it has been read, so images share it. */
    private static final class Town {
        private static final int[] ALWAYS_ONE = {1};
        private static final int[] ALWAYS_ZERO = {0};

        private int years = 1;
        private int trades = 1;
        private int size = 0;
        private int cash = 0;
        private int dies = 0;
        private int lines = 0;
        private final int[] talents = new int[MOST_PEOPLE];
        private final int[] fears = new int[MOST_PEOPLE];
        private int[] worthLaw = ALWAYS_ONE;
        private int[] growsLaw = ALWAYS_ZERO;

        private boolean hasTrade(long trade) {
            return trade >= 0 && trade < trades;
        }

        private int talentOf(int p) {
            return p >= 0 && p < talents.length ? talents[p] : 0;
        }

        private int fearOf(int p) {
            return p >= 0 && p < fears.length ? fears[p] : 0;
        }

        private void addPerson(int talent, int fear) {
            if (size < talents.length && size < fears.length) {
                talents[size] = talent;
                fears[size] = fear;
                size++;
            }
        }
    }

    /** All that deeds change: the people and the cash. */
    private static final class People {
        private static final int YEAR = 0;
        private static final int LIFE = 1;
        private static final int HAS = 2;
        private static final int LAST = 3;
        private static final int STREAK = 4;
        private static final int OLD = 5;
        private static final int TALENT = 6;
        private static final int FEAR = 7;
        private static final int PLEDGED = 8;
        private static final int PARTS = 9;

        private final int[] parts = new int[MOST_PEOPLE * PARTS];
        private int size = 0;
        private int cash = 0;

        private void settle(Town town) {
            Arrays.fill(parts, 0);
            size = town.size;
            cash = town.cash;
            for (int p = 0; p < size; p++) {
                put(p, LIFE, 1);
                put(p, LAST, NO_TRADE);
                put(p, TALENT, town.talentOf(p));
                put(p, FEAR, town.fearOf(p));
            }
        }

        private void copy(People other) {
            System.arraycopy(other.parts, 0, parts, 0, parts.length);
            size = other.size;
            cash = other.cash;
        }

        private boolean has(int p) {
            return p >= 0 && p < size;
        }

        private int part(int p, int what) {
            int at = p * PARTS + what;
            return at >= 0 && at < parts.length ? parts[at] : 0;
        }

        private void put(int p, int what, int value) {
            int at = p * PARTS + what;
            if (at >= 0 && at < parts.length) {
                parts[at] = value;
            }
        }

        private int wealth() {
            int all = 0;
            for (int p = 0; p < size; p++) {
                all += part(p, HAS);
            }
            return all;
        }

        private int drawn() {
            int bits = 0;
            for (int p = 0; p < size; p++) {
                bits |= part(p, LIFE) == 2 ? 1 << p : 0;
            }
            return bits;
        }

        private int pledged() {
            int bits = 0;
            for (int p = 0; p < size; p++) {
                bits |= part(p, PLEDGED) > 0 ? 1 << p : 0;
            }
            return bits;
        }

        private int everybody() {
            return (1 << size) - 1;
        }

        private boolean isSet(int set) {
            return (set & ~everybody()) == 0;
        }

        /** Who joins in the next round; the calmed never do. */
        private int joining(int in, int calmed) {
            int seen = Integer.bitCount(in);
            int bits = 0;
            for (int p = 0; p < size; p++) {
                bits |= part(p, FEAR) <= seen ? 1 << p : 0;
            }
            return bits & ~in & ~calmed;
        }

        private int runOf(int set, int calmed) {
            int in = set;
            int joined = joining(in, calmed);
            for (int round = 0; round < size && joined != 0; round++) {
                in |= joined;
                joined = joining(in, calmed);
            }
            return in;
        }

        private int roundsOf(int set) {
            int in = set;
            int joined = joining(in, 0);
            int rounds = 0;
            for (; rounds < size && joined != 0; rounds++) {
                in |= joined;
                joined = joining(in, 0);
            }
            return rounds;
        }

        private boolean atRest(int set) {
            int many = Integer.bitCount(set);
            for (int p = 0; p < size; p++) {
                boolean in = (set >> p & 1) == 1;
                boolean afraid = part(p, FEAR) <= (in ? many - 1 : many);
                if (in != afraid) {
                    return false;
                }
            }
            return true;
        }
    }

    /** The people as they were ahead of the latest calls that did some. */
    private static final class Past {
        private static final int MOST = 10;

        private final People[] kept = new People[MOST];
        private int next = 0;
        private int size = 0;

        private Past() {
            for (int i = 0; i < kept.length; i++) {
                kept[i] = new People();
            }
        }

        private void keep(People people) {
            if (next < 0 || next >= kept.length) {
                return;
            }
            People place = kept[next];
            if (place != null) {
                place.copy(people);
                next = (next + 1) % MOST;
                size = Math.min(size + 1, MOST);
            }
        }

        private boolean bringBack(int n, People people) {
            if (n < 1 || n > size) {
                return false;
            }
            int at = Math.floorMod(next - n, MOST);
            People place = at < kept.length ? kept[at] : null;
            if (place == null) {
                return false;
            }
            people.copy(place);
            next = at;
            size -= n;
            return true;
        }

        private void forget() {
            size = 0;
        }
    }

    /** A row of numbers of 8, 16, 32 or 64 bits, or none yet. */
    private static final class Tray {
        private static final int PLACES = 40;

        private final long[] row = new long[PLACES];
        private boolean there = false;
        private int sort = 0;
        private int size = 0;

        private void make(int newSort, int newSize) {
            Arrays.fill(row, 0L);
            there = true;
            sort = newSort;
            size = newSize;
        }

        private long number(int i) {
            return i >= 0 && i < size && i < row.length ? row[i] : 0L;
        }

        private void put(int i, long v) {
            if (i >= 0 && i < size && i < row.length) {
                row[i] = cut(v);
            }
        }

        private long cut(long v) {
            if (sort == 0) {
                return (byte) v;
            }
            if (sort == 1) {
                return (short) v;
            }
            return sort == 2 ? (int) v : v;
        }
    }

    /** Reads a town's text, one token ahead; laws become rows of signs, each behind what it works on. */
    private static final class Reader {
        private static final int WORD = 0;
        private static final int NUMBER = 1;
        private static final int SIGN = 2;
        private static final int END = 3;
        private static final int NO_TOKEN = 4;
        private static final String SIGNS = ";:+-*()[]=<>";
        private static final int MOST_DIGITS = 3;
        private static final int MOST_WITHIN = 6;

        private static final int BEGINS_NOTHING = 1;
        private static final int CANNOT_STAND = 2;
        private static final int OUT_OF_BOUNDS = 3;
        private static final int TOO_MUCH = 4;

        private int fault = 0;
        private int place = NONE;
        private byte[] text = new byte[0];
        private int length = 0;
        private int begin = 0;
        private int stop = 0;
        private int kind = END;
        private int number = 0;
        private Town told = new Town();
        private boolean lawOfWorth = false;
        private final int[] law = new int[MOST_BYTES];
        private int lawLength = 0;

        private Town read(byte[] bytes, int n) {
            text = bytes;
            length = n;
            stop = 0;
            fault = 0;
            place = NONE;
            told = new Town();
            next();
            boolean fine = readHead();
            for (int i = 0; i < n && fine && kind != END; i++) {
                fine = readLine();
            }
            return fine ? told : null;
        }

        private boolean readHead() {
            if (!take("town") || !take("years")) {
                return false;
            }
            told.years = takeNumber(1, MOST_YEARS);
            if (fault != 0 || !take("trades")) {
                return false;
            }
            told.trades = takeNumber(1, MOST_TRADES);
            return fault == 0 && endLine();
        }

        private boolean readLine() {
            if (is("person")) {
                return readPerson() && endLine();
            }
            if (is("cash")) {
                next();
                told.cash = takeNumber(0, 999);
                return fault == 0 && endLine();
            }
            if (is("dies")) {
                next();
                told.dies = takeNumber(0, 10);
                return fault == 0 && endLine();
            }
            if (is("worth") || is("grows")) {
                return readLaw(is("worth")) && endLine();
            }
            return wrong(CANNOT_STAND);
        }

        private boolean endLine() {
            told.lines++;
            return take(";");
        }

        private boolean readPerson() {
            if (told.size >= MOST_PEOPLE) {
                return wrong(TOO_MUCH);
            }
            next();
            int talent = 0;
            int fear = 9;
            for (int i = 0; i < length && (is("talent") || is("fear")); i++) {
                boolean ofTalent = is("talent");
                next();
                int n = takeNumber(0, 9);
                if (fault != 0) {
                    return false;
                }
                talent = ofTalent ? n : talent;
                fear = ofTalent ? fear : n;
            }
            told.addPerson(talent, fear);
            return true;
        }

        private boolean readLaw(boolean ofWorth) {
            next();
            lawOfWorth = ofWorth;
            lawLength = 0;
            if (!take(":") || !readSum(0)) {
                return false;
            }
            int[] read = Arrays.copyOf(law, lawLength);
            if (ofWorth) {
                told.worthLaw = read;
            } else {
                told.growsLaw = read;
            }
            return true;
        }

        private boolean readSum(int depth) {
            boolean fine = readTerm(depth);
            for (int i = 0; i < length && fine && (is("+") || is("-")); i++) {
                int sign = is("+") ? Reckoner.PLUS : Reckoner.MINUS;
                next();
                fine = readTerm(depth);
                emit(sign);
            }
            return fine;
        }

        private boolean readTerm(int depth) {
            boolean fine = readAtom(depth);
            for (int i = 0; i < length && fine && is("*"); i++) {
                next();
                fine = readAtom(depth);
                emit(Reckoner.TIMES);
            }
            return fine;
        }

        private boolean readAtom(int depth) {
            if (kind == NUMBER) {
                emit(number);
                next();
                return true;
            }
            if (is("(")) {
                return deeper(depth) && readSum(depth + 1) && take(")");
            }
            if (is("if")) {
                boolean fine = deeper(depth) && readTruth(depth + 1) && take("then")
                        && readSum(depth + 1) && take("else") && readSum(depth + 1) && take("end");
                emit(Reckoner.IF);
                return fine;
            }
            int fact = factTold();
            if (fact == NONE) {
                return wrong(CANNOT_STAND);
            }
            emit(Reckoner.FACT - fact);
            next();
            return true;
        }

        private int factTold() {
            if (is("talent")) {
                return Reckoner.TALENT;
            }
            if (is("year")) {
                return Reckoner.YEAR;
            }
            if (!lawOfWorth) {
                return NONE;
            }
            if (is("trade")) {
                return Reckoner.TRADE;
            }
            if (is("last")) {
                return Reckoner.LAST;
            }
            if (is("streak")) {
                return Reckoner.STREAK;
            }
            if (is("life")) {
                return Reckoner.LIFE;
            }
            return is("old") ? Reckoner.OLD : NONE;
        }

        private boolean readTruth(int depth) {
            boolean fine = readBoth(depth);
            for (int i = 0; i < length && fine && is("or"); i++) {
                next();
                fine = readBoth(depth);
                emit(Reckoner.OR);
            }
            return fine;
        }

        private boolean readBoth(int depth) {
            boolean fine = readUnit(depth);
            for (int i = 0; i < length && fine && is("and"); i++) {
                next();
                fine = readUnit(depth);
                emit(Reckoner.AND);
            }
            return fine;
        }

        private boolean readUnit(int depth) {
            if (is("not")) {
                boolean fine = deeper(depth) && readUnit(depth + 1);
                emit(Reckoner.NOT);
                return fine;
            }
            if (is("[")) {
                return deeper(depth) && readTruth(depth + 1) && take("]");
            }
            if (!readSum(depth)) {
                return false;
            }
            int sign = is("=") ? Reckoner.SAME : is("<") ? Reckoner.LESS : Reckoner.MORE;
            if (sign == Reckoner.MORE && !is(">")) {
                return wrong(CANNOT_STAND);
            }
            next();
            boolean fine = readSum(depth);
            emit(sign);
            return fine;
        }

        /** Goes past a not, [, ( or if, unless it is a seventh. */
        private boolean deeper(int depth) {
            if (depth >= MOST_WITHIN) {
                return wrong(TOO_MUCH);
            }
            next();
            return true;
        }

        private void emit(int sign) {
            if (lawLength < law.length) {
                law[lawLength] = sign;
                lawLength++;
            }
        }

        private boolean take(String due) {
            if (!is(due)) {
                return wrong(CANNOT_STAND);
            }
            next();
            return true;
        }

        private int takeNumber(int least, int most) {
            if (kind != NUMBER) {
                wrong(CANNOT_STAND);
                return 0;
            }
            int n = number;
            if (n < least || n > most) {
                wrong(OUT_OF_BOUNDS);
                return 0;
            }
            next();
            return n;
        }

        /** Tells the fault of the token at hand; what begins no token is that, wherever it stands. */
        private boolean wrong(int of) {
            if (fault == 0) {
                fault = kind == NO_TOKEN ? BEGINS_NOTHING : of;
                place = begin;
            }
            return false;
        }

        private boolean is(String due) {
            if ((kind != WORD && kind != SIGN) || stop - begin != due.length()) {
                return false;
            }
            for (int i = 0; i < due.length(); i++) {
                if (byteAt(begin + i) != due.charAt(i)) {
                    return false;
                }
            }
            return true;
        }

        private void next() {
            begin = stop;
            while (begin < length && isBlank(byteAt(begin))) {
                begin++;
            }
            if (begin >= length) {
                stop = begin;
                kind = END;
                return;
            }
            stop = begin + 1;
            int first = byteAt(begin);
            if (isLetter(first)) {
                kind = WORD;
                while (stop < length && isLetter(byteAt(stop))) {
                    stop++;
                }
            } else if (isDigit(first)) {
                number = first - '0';
                while (stop < length && isDigit(byteAt(stop))) {
                    if (stop - begin < MOST_DIGITS) {
                        number = number * 10 + byteAt(stop) - '0';
                    }
                    stop++;
                }
                kind = stop - begin > MOST_DIGITS ? NO_TOKEN : NUMBER;
            } else {
                kind = SIGNS.indexOf((char) first) >= 0 ? SIGN : NO_TOKEN;
            }
        }

        private int byteAt(int at) {
            return at >= 0 && at < text.length ? text[at] & 255 : 0;
        }

        private static boolean isBlank(int b) {
            return b == 10 || b == 32;
        }

        private static boolean isLetter(int b) {
            return b >= 'a' && b <= 'z';
        }

        private static boolean isDigit(int b) {
            return b >= '0' && b <= '9';
        }
    }

    /** Reckons what the laws tell of one person. */
    private static final class Reckoner {
        private static final int TALENT = 0;
        private static final int YEAR = 1;
        private static final int TRADE = 2;
        private static final int LAST = 3;
        private static final int STREAK = 4;
        private static final int LIFE = 5;
        private static final int OLD = 6;
        private static final int FACTS = 7;

        // in a law's row 0 and more are numbers, FACT and less are facts, all between are these
        private static final int PLUS = -1;
        private static final int MINUS = -2;
        private static final int TIMES = -3;
        private static final int SAME = -4;
        private static final int LESS = -5;
        private static final int MORE = -6;
        private static final int AND = -7;
        private static final int OR = -8;
        private static final int NOT = -9;
        private static final int IF = -10;
        private static final int FACT = -11;

        private static final int FARTHEST = 1000000;
        // six within one another hold five numbers each at most
        private static final int HEIGHT = 64;

        private final int[] facts = new int[FACTS];
        private final int[] heap = new int[HEIGHT];

        /** Turns to a person as it stands now. */
        private void about(People people, int p) {
            facts[TALENT] = people.part(p, People.TALENT);
            facts[YEAR] = people.part(p, People.YEAR);
            facts[LAST] = people.part(p, People.LAST);
            facts[STREAK] = people.part(p, People.STREAK);
            facts[LIFE] = people.part(p, People.LIFE);
            facts[OLD] = people.part(p, People.OLD);
        }

        private int worthOf(Town town, int trade) {
            facts[TRADE] = trade;
            return within(tell(town.worthLaw), LEAST_WORTH, MOST_WORTH);
        }

        private int grownOf(Town town) {
            return within(tell(town.growsLaw), 0, town.years);
        }

        /** The sum that a law tells; each sign takes what it works on from the top of the heap. */
        private int tell(int[] law) {
            int top = 0;
            for (int i = 0; i < law.length; i++) {
                int sign = law[i];
                if (sign >= 0 || sign <= FACT) {
                    if (top < heap.length) {
                        heap[top] = sign >= 0 ? sign : factAt(FACT - sign);
                        top++;
                    }
                } else if (sign == NOT) {
                    if (top >= 1) {
                        heap[top - 1] = 1 - heap[top - 1];
                    }
                } else if (sign == IF) {
                    if (top >= 3) {
                        top -= 2;
                        heap[top - 1] = heap[top - 1] != 0 ? heap[top] : heap[top + 1];
                    }
                } else if (top >= 2) {
                    top--;
                    heap[top - 1] = joined(sign, heap[top - 1], heap[top]);
                }
            }
            return heap[0];
        }

        private static int joined(int sign, int left, int right) {
            switch (sign) {
                case SAME:
                    return left == right ? 1 : 0;
                case LESS:
                    return left < right ? 1 : 0;
                case MORE:
                    return left > right ? 1 : 0;
                case AND:
                    return left & right;
                case OR:
                    return left | right;
                default:
                    long sum = sign == PLUS ? left + right : sign == MINUS ? left - right : (long) left * right;
                    return sum > FARTHEST ? FARTHEST : sum < -FARTHEST ? -FARTHEST : (int) sum;
            }
        }

        private int factAt(int fact) {
            return fact >= 0 && fact < facts.length ? facts[fact] : 0;
        }
    }

    /** Does deeds on people; each answers 0, or why it can't be. */
    private static final class Deeds {
        private static final int NO_SUCH_ONE = 1;
        private static final int WRONG_LIFE = 2;
        private static final int WRONG_PLEDGE = 3;
        private static final int NO_CASH = 4;

        private final Reckoner reckoner;
        private int why = 0;
        private int drawn = 0;

        private Deeds(Reckoner reckoner) {
            this.reckoner = reckoner;
        }

        private int lives(Town town, People people, int p, long trade) {
            if (!people.has(p) || !town.hasTrade(trade)) {
                return NO_SUCH_ONE;
            }
            int year = people.part(p, People.YEAR);
            if (year >= town.years) {
                return WRONG_LIFE;
            }
            int lived = (int) trade;
            reckoner.about(people, p);
            int worth = reckoner.worthOf(town, lived);
            boolean again = people.part(p, People.LAST) == lived;
            people.put(p, People.HAS, people.part(p, People.HAS) + worth);
            people.put(p, People.STREAK, again ? people.part(p, People.STREAK) + 1 : 1);
            people.put(p, People.LAST, lived);
            people.put(p, People.YEAR, year + 1);
            return 0;
        }

        private int draws(Town town, People people, int p) {
            if (!people.has(p)) {
                return NO_SUCH_ONE;
            }
            if (people.part(p, People.LIFE) != 1) {
                return WRONG_LIFE;
            }
            if (people.part(p, People.PLEDGED) > 0) {
                return WRONG_PLEDGE;
            }
            reckoner.about(people, p);
            int grown = reckoner.grownOf(town);
            people.put(p, People.OLD, people.part(p, People.YEAR));
            people.put(p, People.YEAR, grown);
            people.put(p, People.LIFE, 2);
            people.put(p, People.LAST, NO_TRADE);
            people.put(p, People.STREAK, 0);
            return 0;
        }

        private int pledges(People people, int p, int n) {
            if (!people.has(p) || n < 1 || n > 99) {
                return NO_SUCH_ONE;
            }
            if (people.part(p, People.LIFE) != 1) {
                return WRONG_LIFE;
            }
            if (people.part(p, People.PLEDGED) > 0) {
                return WRONG_PLEDGE;
            }
            if (n > people.cash) {
                return NO_CASH;
            }
            people.put(p, People.PLEDGED, n);
            people.put(p, People.HAS, people.part(p, People.HAS) + n);
            people.cash -= n;
            return 0;
        }

        private int redeems(People people, int p) {
            if (!people.has(p)) {
                return NO_SUCH_ONE;
            }
            int n = people.part(p, People.PLEDGED);
            if (n == 0) {
                return WRONG_PLEDGE;
            }
            people.put(p, People.PLEDGED, 0);
            people.put(p, People.HAS, people.part(p, People.HAS) - n);
            people.cash += n;
            return 0;
        }

        private int doTold(Town town, People people, long v) {
            if (v >= 0 && v <= 99) {
                return lives(town, people, (int) (v / 10), v % 10);
            }
            if (v >= 100 && v <= 109) {
                return draws(town, people, (int) (v - 100));
            }
            if (v >= 110 && v <= 119) {
                return redeems(people, (int) (v - 110));
            }
            if (v >= 1000 && v <= 1999) {
                return pledges(people, (int) ((v - 1000) / 100), (int) (v % 100));
            }
            return NO_SUCH_ONE;
        }

        /** How many were done till one couldn't be; why then tells of that one, or is 0. */
        private int doAll(Town town, People people, Tray told) {
            why = 0;
            for (int i = 0; i < told.size; i++) {
                why = doTold(town, people, told.number(i));
                if (why != 0) {
                    return i;
                }
            }
            return told.size;
        }

        private int doSeason(Town town, People people, int seed, int times) {
            drawn = seed;
            int done = 0;
            for (int i = 0; i < times; i++) {
                done += doDrawn(town, people) == 0 ? 1 : 0;
            }
            return done;
        }

        private int doDrawn(Town town, People people) {
            int kind = nextDrawn() % 6;
            int p = nextDrawn() % 6;
            if (kind <= 3) {
                return lives(town, people, p, nextDrawn() % 4);
            }
            if (kind == 4) {
                return draws(town, people, p);
            }
            return pledges(people, p, 1 + nextDrawn() % 9);
        }

        private int nextDrawn() {
            drawn = 1103515245 * drawn + 12345;
            return drawn >>> 16;
        }
    }

    /** Keeps what was reckoned; each cell has a stamp, so a new stamp forgets all at once. */
    private static final class Memo {
        private static final int STAMP_AT = 48;
        private static final long VALUE = (1L << STAMP_AT) - 1;
        private static final int STAMPS = 65536;

        private final long[] cells;

        private Memo(int size) {
            cells = new long[Math.max(0, size)];
        }

        private long find(int at, int stamp) {
            if (at < 0 || at >= cells.length) {
                return NONE;
            }
            long cell = cells[at];
            return cell >>> STAMP_AT == stamp % STAMPS ? cell & VALUE : NONE;
        }

        private void keep(int at, int stamp, long value) {
            if (at >= 0 && at < cells.length) {
                cells[at] = (long) (stamp % STAMPS) << STAMP_AT | value & VALUE;
            }
        }
    }

    /**
     * Where a person can stand from now on and what leads on from there. A stand is a number made of the life
     * (0: LIFE 1, else 1 more than the YEAR in which LIFE 1 was ended), the YEAR, and the habit (0: none, else
     * told by last and streak); the laws see nothing else but the talent.
     */
    private static final class Ways {
        private static final int YEARS = MOST_YEARS + 1;
        private static final int HABITS = 1 + MOST_TRADES * MOST_YEARS;
        private static final int LIFE_STANDS = YEARS * HABITS;
        private static final int LIVES = 1 + YEARS;
        private static final int STANDS = LIVES * LIFE_STANDS;

        private final Reckoner reckoner;
        private final Memo[] worths = new Memo[TALENTS];
        private final int[] grownIn = new int[YEARS];
        private Town town = new Town();
        private int townStamp = 1;
        private int talent = 0;
        private boolean mayDraw = true;
        private int stamp = 0;
        private int start = 0;

        private Ways(Reckoner reckoner) {
            this.reckoner = reckoner;
        }

        /** Turns to a person; the stamp stays as long as all that was reckoned still holds. */
        private void about(Town newTown, People people, int p) {
            int newTalent = people.part(p, People.TALENT);
            boolean free = people.part(p, People.PLEDGED) == 0;
            start = standOf(people, p);
            if (stamp > 0 && newTown == town && newTalent == talent && free == mayDraw) {
                return;
            }
            townStamp += newTown == town ? 0 : 1;
            stamp++;
            town = newTown;
            talent = newTalent;
            mayDraw = free;
            reckoner.facts[Reckoner.TALENT] = talent;
            for (int year = 0; year < YEARS; year++) {
                reckoner.facts[Reckoner.YEAR] = year;
                grownIn[year] = reckoner.grownOf(town);
            }
        }

        private static int standOf(People people, int p) {
            int life = people.part(p, People.LIFE) == 2 ? 1 + people.part(p, People.OLD) : 0;
            int last = people.part(p, People.LAST);
            int habit = last == NO_TRADE ? 0 : last * MOST_YEARS + people.part(p, People.STREAK);
            return (life * YEARS + people.part(p, People.YEAR)) * HABITS + habit;
        }

        private static int lifeOf(int stand) {
            return stand / LIFE_STANDS;
        }

        private static int yearOf(int stand) {
            return stand / HABITS % YEARS;
        }

        private static int lastOf(int stand) {
            int habit = stand % HABITS;
            return habit == 0 ? NO_TRADE : (habit - 1) / MOST_YEARS;
        }

        private static int streakOf(int stand) {
            int habit = stand % HABITS;
            return habit == 0 ? 0 : (habit - 1) % MOST_YEARS + 1;
        }

        /** How many trades one can live in next. */
        private int openTrades(int stand) {
            return yearOf(stand) < town.years ? town.trades : 0;
        }

        private int afterYear(int stand, int trade) {
            int streak = lastOf(stand) == trade ? streakOf(stand) + 1 : 1;
            int habit = trade * MOST_YEARS + Math.min(streak, MOST_YEARS);
            return (stand / HABITS + 1) * HABITS + habit;
        }

        /** Where LIFE 2 would begin, or NONE. */
        private int afterDrawing(int stand) {
            if (lifeOf(stand) != 0 || !mayDraw) {
                return NONE;
            }
            int year = yearOf(stand);
            return ((1 + year) * YEARS + grownAt(year)) * HABITS;
        }

        private int grownAt(int year) {
            return year >= 0 && year < grownIn.length ? grownIn[year] : 0;
        }

        private int worthOf(int stand, int trade) {
            if (talent < 0 || talent >= worths.length) {
                return 0;
            }
            Memo memo = worths[talent];
            if (memo == null) {
                memo = new Memo(STANDS * MOST_TRADES);
                worths[talent] = memo;
            }
            int at = stand * MOST_TRADES + trade;
            long known = memo.find(at, townStamp);
            if (known == NONE) {
                turnTo(stand);
                known = reckoner.worthOf(town, trade) - LEAST_WORTH;
                memo.keep(at, townStamp, known);
            }
            return (int) known + LEAST_WORTH;
        }

        private void turnTo(int stand) {
            int life = lifeOf(stand);
            int[] facts = reckoner.facts;
            facts[Reckoner.TALENT] = talent;
            facts[Reckoner.YEAR] = yearOf(stand);
            facts[Reckoner.LAST] = lastOf(stand);
            facts[Reckoner.STREAK] = streakOf(stand);
            facts[Reckoner.LIFE] = life == 0 ? 1 : 2;
            facts[Reckoner.OLD] = life == 0 ? 0 : life - 1;
        }
    }

    /** Courses on which nobody dies. */
    private static final class Courses {
        // a year's worth outweighs every number of doings there can be
        private static final int WEIGHT = 16;
        private static final int MOST_DOINGS = 2 * MOST_YEARS + 1;
        private static final int UNREACHED = -1000000;

        private final Ways ways;
        private final Memo bests = new Memo(Ways.STANDS);
        private final int[] reached = new int[Ways.STANDS];
        private final int[] doings = new int[Ways.STANDS];

        private Courses(Ways ways) {
            this.ways = ways;
        }

        /** The most that years from a stand on are worth. */
        private int mostFrom(int stand) {
            return (scoreIn(bestFrom(stand)) + WEIGHT - 1) / WEIGHT;
        }

        /** The same of a stand that bestFrom has come by; of others nothing is known, so all may be had there. */
        private int knownMost(int stand) {
            long known = bests.find(stand, ways.stamp);
            return known == NONE ? MOST_DOINGS * MOST_WORTH : (scoreIn(known) + WEIGHT - 1) / WEIGHT;
        }

        /** The worth weighed, less the doings: of courses worth the same the one of fewer doings has more. */
        private static int scoreIn(long best) {
            return (int) (best / WEIGHT);
        }

        private static int doingIn(long best) {
            return (int) (best % WEIGHT) - 1;
        }

        /** The best course's score and, behind it, 1 more than its first doing; each call within ends a year or LIFE 1. */
        private long bestFrom(int stand) {
            long known = bests.find(stand, ways.stamp);
            if (known != NONE) {
                return known;
            }
            int score = 0;
            int doing = NONE;
            int open = ways.openTrades(stand);
            for (int trade = 0; trade < open; trade++) {
                int by = scoreIn(bestFrom(ways.afterYear(stand, trade))) + ways.worthOf(stand, trade) * WEIGHT - 1;
                if (by > score) {
                    score = by;
                    doing = trade;
                }
            }
            int drawn = ways.afterDrawing(stand);
            int byDrawing = drawn == NONE ? NONE : scoreIn(bestFrom(drawn)) - 1;
            if (byDrawing > score) {
                score = byDrawing;
                doing = DRAWS;
            }
            long best = (long) score * WEIGHT + doing + 1;
            bests.keep(stand, ways.stamp, best);
            return best;
        }

        private int after(int stand, int doing) {
            return doing == DRAWS ? ways.afterDrawing(stand) : ways.afterYear(stand, doing);
        }

        private int doingAt(int i) {
            int stand = ways.start;
            for (int done = 0; done < MOST_DOINGS; done++) {
                int doing = doingIn(bestFrom(stand));
                if (doing == NONE || done == i) {
                    return doing;
                }
                stand = after(stand, doing);
            }
            return NONE;
        }

        private int drawingYear() {
            int stand = ways.start;
            for (int done = 0; done < MOST_DOINGS; done++) {
                int doing = doingIn(bestFrom(stand));
                if (doing == NONE) {
                    return NONE;
                }
                if (doing == DRAWS) {
                    return Ways.yearOf(stand);
                }
                stand = after(stand, doing);
            }
            return NONE;
        }

        private int listInto(Tray tray, int p) {
            int stand = ways.start;
            int listed = 0;
            for (int i = 0; i < MOST_DOINGS && i < tray.size; i++) {
                int doing = doingIn(bestFrom(stand));
                if (doing == NONE) {
                    break;
                }
                tray.put(i, doing == DRAWS ? 100 + p : p * 10 + doing);
                listed++;
                stand = after(stand, doing);
            }
            return listed;
        }

        private long howMany() {
            int from = Ways.yearOf(ways.start);
            int years = ways.town.years;
            if (Ways.lifeOf(ways.start) != 0 || !ways.mayDraw) {
                return choicesIn(years - from);
            }
            long many = 0;
            for (int year = years; year >= from; year--) {
                many = many * ways.town.trades + choicesIn(years - ways.grownAt(year));
            }
            return many;
        }

        private long choicesIn(int years) {
            long many = 1;
            for (int i = 0; i < years; i++) {
                many *= ways.town.trades;
            }
            return many;
        }

        /**
         * The fewest doings that are worth so much. How many doings lead to a stand is the same by all ways, so
         * the most that can be had there is enough to know; stands come behind those that lead to them.
         */
        private int fewestFor(long worth) {
            Arrays.fill(reached, UNREACHED);
            reach(ways.start, 0, 0);
            int fewest = MOST_DOINGS + 1;
            for (int stand = ways.start; stand >= 0 && stand < reached.length; stand++) {
                int had = reached[stand];
                if (had == UNREACHED || stand >= doings.length) {
                    continue;
                }
                int done = doings[stand];
                if (had >= worth) {
                    fewest = Math.min(fewest, done);
                }
                int open = ways.openTrades(stand);
                for (int trade = 0; trade < open; trade++) {
                    reach(ways.afterYear(stand, trade), had + ways.worthOf(stand, trade), done + 1);
                }
                reach(ways.afterDrawing(stand), had, done + 1);
            }
            return fewest > MOST_DOINGS ? NONE : fewest;
        }

        private void reach(int stand, int had, int done) {
            if (stand >= 0 && stand < reached.length && stand < doings.length) {
                reached[stand] = Math.max(reached[stand], had);
                doings[stand] = done;
            }
        }
    }

    /**
     * Courses on which one may die each year. Every number is told in tenths of tenths, as many as years can
     * still be lived, so that all of them are whole.
     */
    private static final class Chances {
        private static final long[] TENS = {1L, 10L, 100L, 1000L, 10000L, 100000L, 1000000L, 10000000L,
            100000000L, 1000000000L, 10000000000L, 100000000000L, 1000000000000L};
        // each of a division's rests is at most half of the one before the last
        private static final int MOST_DIVISIONS = 130;

        private final Ways ways;
        private final Courses plans;
        private final Memo means = new Memo(Ways.STANDS);
        private final int[] hopesAt = new int[Ways.STANDS];
        private Memo hopes = null;

        private Chances(Ways ways, Courses plans) {
            this.ways = ways;
            this.plans = plans;
        }

        /** Where hopes are kept: made with the first one, as many objects never need any. */
        private Memo keptHopes() {
            if (hopes == null) {
                hopes = new Memo(layOutHopes());
            }
            return hopes;
        }

        private int layOutHopes() {
            int cells = 0;
            for (int stand = 0; stand < hopesAt.length; stand++) {
                hopesAt[stand] = cells;
                // nobody lived in one trade for longer than there were years
                if (Ways.streakOf(stand) <= Ways.yearOf(stand)) {
                    int lives = Ways.lifeOf(stand) == 0 ? 2 : 1;
                    cells += (lives * MOST_YEARS - Ways.yearOf(stand)) * MOST_WORTH;
                }
            }
            return cells;
        }

        private int tenthsAt(int stand) {
            int lives = Ways.lifeOf(stand) == 0 ? 2 : 1;
            return lives * ways.town.years - Ways.yearOf(stand);
        }

        private static long tens(int many) {
            return many >= 0 && many < TENS.length ? TENS[many] : 0L;
        }

        private long fraction(long above, int what) {
            long below = tens(tenthsAt(ways.start));
            long divisor = commonDivisor(above, below);
            if (divisor == 0) {
                return 0L;
            }
            return (what == 0 ? above : below) / divisor;
        }

        private static long commonDivisor(long a, long b) {
            long greater = a;
            long less = b;
            for (int i = 0; i < MOST_DIVISIONS && less != 0; i++) {
                long rest = greater % less;
                greater = less;
                less = rest;
            }
            return greater;
        }

        private long meanFrom(int stand) {
            long known = means.find(stand, ways.stamp);
            if (known != NONE) {
                return known;
            }
            long best = meanByDrawing(stand, tenthsAt(stand));
            int open = ways.openTrades(stand);
            for (int trade = 0; trade < open; trade++) {
                best = Math.max(best, meanByYear(stand, trade));
            }
            means.keep(stand, ways.stamp, best);
            return best;
        }

        private long meanByYear(int stand, int trade) {
            int tenths = tenthsAt(stand) - 1;
            int dies = ways.town.dies;
            long alive = ways.worthOf(stand, trade) * tens(tenths) + meanFrom(ways.afterYear(stand, trade));
            return (10 - dies) * alive + dies * meanByDrawing(stand, tenths);
        }

        /** What drawing is worth on the mean, told in so many tenths; 0 if it can't be. */
        private long meanByDrawing(int stand, int tenths) {
            int drawn = ways.afterDrawing(stand);
            return drawn == NONE ? 0L : meanFrom(drawn) * tens(tenths - tenthsAt(drawn));
        }

        private int meanDoing() {
            int stand = ways.start;
            long best = meanFrom(stand);
            if (best == 0) {
                return NONE;
            }
            int open = ways.openTrades(stand);
            for (int trade = 0; trade < open; trade++) {
                if (meanByYear(stand, trade) == best) {
                    return trade;
                }
            }
            return DRAWS;
        }

        private boolean drawingIsBest() {
            int stand = ways.start;
            return ways.afterDrawing(stand) != NONE
                    && meanByDrawing(stand, tenthsAt(stand)) == meanFrom(stand);
        }

        private long hopeNow(int need) {
            plans.bestFrom(ways.start);
            return hopeFrom(ways.start, need);
        }

        private long hopeFrom(int stand, int need) {
            if (need <= 0) {
                return tens(tenthsAt(stand));
            }
            if (need > plans.knownMost(stand) || stand < 0 || stand >= hopesAt.length) {
                return 0L;
            }
            Memo kept = keptHopes();
            int at = hopesAt[stand] + need - 1;
            long known = kept.find(at, ways.stamp);
            if (known != NONE) {
                return known;
            }
            long best = hopeByDrawing(stand, need, tenthsAt(stand));
            int open = ways.openTrades(stand);
            for (int trade = 0; trade < open; trade++) {
                best = Math.max(best, hopeByYear(stand, need, trade));
            }
            kept.keep(at, ways.stamp, best);
            return best;
        }

        private long hopeByYear(int stand, int need, int trade) {
            int dies = ways.town.dies;
            long alive = hopeFrom(ways.afterYear(stand, trade), need - ways.worthOf(stand, trade));
            return (10 - dies) * alive + dies * hopeByDrawing(stand, need, tenthsAt(stand) - 1);
        }

        private long hopeByDrawing(int stand, int need, int tenths) {
            int drawn = ways.afterDrawing(stand);
            return drawn == NONE ? 0L : hopeFrom(drawn, need) * tens(tenths - tenthsAt(drawn));
        }

        private int hopeDoing(int need) {
            int stand = ways.start;
            long best = hopeNow(need);
            if (need <= 0 || best == 0) {
                return NONE;
            }
            int open = ways.openTrades(stand);
            for (int trade = 0; trade < open; trade++) {
                if (hopeByYear(stand, need, trade) == best) {
                    return trade;
                }
            }
            return DRAWS;
        }
    }
}
