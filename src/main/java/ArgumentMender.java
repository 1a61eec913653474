import java.util.Arrays;

/** An argument told as a cloth of claims, threads and quarrels; see README.md. */
public final class ArgumentMender {
    public static final int NONE = -1;

    private static final int NO_SUCH = -2;
    private static final int FAR_OFF = -1000;
    private static final int NO_SUCH_LOSS = -100000;
    private static final int BELOW_NONE = -3;
    private static final int TOO_MANY_QUARRELS = -3;
    private static final int FAULTY = -4;
    private static final int NOT_NOW = -5;
    private static final int NOTHING = -6;
    private static final int BEYOND = -7;
    private static final int OTHER_WIDTH = -8;

    private static final int HEM = -1;
    private static final int MOST_BYTES = 800;
    private static final int MOST_YEARS = 12;
    private static final int MOST_CLAIMS = 8;
    private static final int MOST_THREADS = 16;
    private static final int MOST_QUARRELS = 10;
    private static final int MOST_ACTS = 30;
    private static final int MOST_NUMBERS = 60;
    private static final int MOST_HOLDS = 60;
    private static final int MOST_TOLD_PULL = 90;
    private static final int MOST_PULL = 200;
    private static final int MOST_STRENGTH = 99;
    private static final int MOST_SEED = 2000000000;
    private static final int LAWS = 4;
    private static final int SLOTS = 4;
    private static final int IMAGES = 3;
    private static final int SHARERS = 8;
    private static final int CHANCES = 8;
    private static final int TEAR_COSTS = 20;
    private static final int[] FACTORIALS = {1, 1, 2, 6, 24, 120, 720, 5040, 40320};

    private final Reader reader = new Reader();
    private final Cloth cloth = new Cloth();
    private final Years now = new Years();
    private final Web web = new Web();
    private final Trials trials = new Trials();
    private final Sight sight = new Sight();
    private final Slot[] slots = new Slot[SLOTS];
    private final Cloth[] images = new Cloth[IMAGES];
    private final boolean[] kept = new boolean[IMAGES];

    public ArgumentMender() {
        for (int i = 0; i < SLOTS; i++) {
            slots[i] = new Slot();
        }
        for (int i = 0; i < IMAGES; i++) {
            images[i] = new Cloth();
        }
    }

    // ---- the tape and the cloth read from it

    public int feed(int a, int b, int c, int d, int e) {
        Tape tape = reader.tape;
        if (tape.length + 20 > MOST_BYTES) {
            return NONE;
        }
        tape.append(a);
        tape.append(b);
        tape.append(c);
        tape.append(d);
        tape.append(e);
        return tape.length;
    }

    public int end(int n) {
        if (n < 0 || n > reader.tape.length) {
            return NONE;
        }
        reader.tape.length = n;
        return n;
    }

    public int cloth() {
        boolean good = reader.readAll();
        reader.tape.length = 0;
        if (!good) {
            return FAULTY;
        }
        cloth.takeOver(reader.read);
        refresh();
        return cloth.lines;
    }

    public int fault(int what) {
        if (what == 0) {
            return reader.fault;
        }
        return what == 1 ? reader.place : NONE;
    }

    /** Whatever changes the cloth or its acts ends here, so that no answer is told from an older one. */
    private void refresh() {
        now.asTold(cloth);
        now.live(cloth);
        trials.forget();
    }

    // ---- what was told

    public int thread(int thread, int what) {
        if (!cloth.hasThread(thread)) {
            return NO_SUCH;
        }
        switch (what) {
            case 0:
                return cloth.from[thread];
            case 1:
                return cloth.to[thread] == HEM ? NONE : cloth.to[thread];
            case 2:
                return cloth.holds[thread];
            default:
                return NO_SUCH;
        }
    }

    public int quarrel(int quarrel, int what) {
        if (!cloth.hasQuarrel(quarrel)) {
            return NO_SUCH;
        }
        switch (what) {
            case 0:
                return cloth.target[quarrel];
            case 1:
                return cloth.pull[quarrel];
            case 2:
                return cloth.when[quarrel];
            default:
                return NO_SUCH;
        }
    }

    public int threads(int claim) {
        if (!cloth.hasClaim(claim)) {
            return NO_SUCH;
        }
        int bits = 0;
        for (int t = 0; t < cloth.threads; t++) {
            if (cloth.from[t] == claim) {
                bits |= 1 << t;
            }
        }
        return bits;
    }

    // ---- year by year

    public int strength(int thread, int year) {
        if (!cloth.hasThread(thread) || !cloth.hasYear(year)) {
            return NO_SUCH;
        }
        return now.rows[year][thread];
    }

    public int torn(int year) {
        if (!cloth.hasYear(year)) {
            return NO_SUCH;
        }
        int bits = 0;
        for (int t = 0; t < cloth.threads; t++) {
            if (now.rows[year][t] == 0) {
                bits |= 1 << t;
            }
        }
        return bits;
    }

    public int tears(int thread) {
        if (!cloth.hasThread(thread)) {
            return NO_SUCH;
        }
        for (int y = 0; y <= cloth.years; y++) {
            if (now.rows[y][thread] == 0) {
                return y;
            }
        }
        return NONE;
    }

    public int holes(int year) {
        if (!cloth.hasYear(year)) {
            return NO_SUCH;
        }
        int bits = 0;
        for (int c = 0; c < cloth.claims; c++) {
            if (web.wholeOf(cloth, now.rows[year], c) == 0) {
                bits |= 1 << c;
            }
        }
        return bits;
    }

    public int hole(int claim) {
        if (!cloth.hasClaim(claim)) {
            return NO_SUCH;
        }
        for (int y = 0; y <= cloth.years; y++) {
            if (web.wholeOf(cloth, now.rows[y], claim) == 0) {
                return y;
            }
        }
        return NONE;
    }

    public int hung(int year) {
        return cloth.hasYear(year) ? web.hanging(cloth, now.rows[year]) : NO_SUCH;
    }

    public int falls(int claim) {
        return cloth.hasClaim(claim) ? firstWithout(1 << claim) : NO_SUCH;
    }

    /** The first year in which not all of some claims hang. */
    private int firstWithout(int claims) {
        for (int y = 0; y <= cloth.years; y++) {
            if ((web.hanging(cloth, now.rows[y]) & claims) != claims) {
                return y;
            }
        }
        return NONE;
    }

    public int sum(int year) {
        return cloth.hasYear(year) ? together(year) : NO_SUCH;
    }

    private int together(int year) {
        int all = 0;
        for (int t = 0; t < cloth.threads; t++) {
            all += now.rows[year][t];
        }
        return all;
    }

    public int strongest(int year) {
        if (!cloth.hasYear(year)) {
            return NO_SUCH;
        }
        int[] row = now.rows[year];
        int best = NONE;
        for (int t = 0; t < cloth.threads; t++) {
            if (best < 0 || row[t] > row[best]) {
                best = t;
            }
        }
        return best;
    }

    public int weakest(int year) {
        if (!cloth.hasYear(year)) {
            return NO_SUCH;
        }
        int[] row = now.rows[year];
        int best = NONE;
        for (int t = 0; t < cloth.threads; t++) {
            if (row[t] > 0 && (best < 0 || row[t] < row[best])) {
                best = t;
            }
        }
        return best;
    }

    public int loses(int year) {
        if (!cloth.hasYearAhead(year)) {
            return NO_SUCH_LOSS;
        }
        return together(year) - together(year + 1);
    }

    public int bare(int year) {
        if (!cloth.hasYear(year)) {
            return NO_SUCH;
        }
        int bits = 0;
        for (int c = 0; c < cloth.claims; c++) {
            if (web.wholeOf(cloth, now.rows[year], c) == 1) {
                bits |= 1 << c;
            }
        }
        return bits;
    }

    public int frail() {
        return cloth.isThere() ? firstWithout(cloth.allClaims()) : NO_SUCH;
    }

    public int stuff(int claim, int year) {
        if (!cloth.hasClaim(claim) || !cloth.hasYear(year)) {
            return NO_SUCH;
        }
        int all = 0;
        for (int t = 0; t < cloth.threads; t++) {
            if (cloth.from[t] == claim) {
                all += now.rows[year][t];
            }
        }
        return all;
    }

    public int steps(int claim, int year) {
        if (!cloth.hasClaim(claim) || !cloth.hasYear(year)) {
            return NO_SUCH;
        }
        return web.shortest(cloth, now.rows[year], claim);
    }

    // ---- quarrel by quarrel

    public int has(int quarrel, int thread) {
        if (!cloth.hasQuarrel(quarrel) || !cloth.hasThread(thread)) {
            return NO_SUCH;
        }
        return now.times[quarrel] == 0 ? NONE : now.shares[quarrel][thread];
    }

    public int pulls(int quarrel) {
        return cloth.hasQuarrel(quarrel) ? now.times[quarrel] : NO_SUCH;
    }

    public int rips(int quarrel) {
        return cloth.hasQuarrel(quarrel) ? now.ripped[quarrel] : NO_SUCH;
    }

    public int through(int quarrel) {
        if (!cloth.hasQuarrel(quarrel)) {
            return NO_SUCH;
        }
        return now.times[quarrel] == 0 ? NONE : now.lost[quarrel];
    }

    public int hem(int quarrel) {
        if (!cloth.hasQuarrel(quarrel)) {
            return NO_SUCH;
        }
        return now.times[quarrel] == 0 ? NONE : now.intoHem[quarrel];
    }

    public int loud() {
        if (!cloth.isThere()) {
            return NO_SUCH;
        }
        int bits = 0;
        for (int q = 0; q < cloth.quarrels; q++) {
            if (now.lost[q] > 0) {
                bits |= 1 << q;
            }
        }
        return bits;
    }

    public int worst() {
        if (!cloth.isThere()) {
            return NO_SUCH;
        }
        int best = NONE;
        int most = 0;
        for (int q = 0; q < cloth.quarrels; q++) {
            int tornIn = Integer.bitCount(now.ripped[q]);
            if (tornIn > most) {
                most = tornIn;
                best = q;
            }
        }
        return best;
    }

    public int bears(int thread) {
        return cloth.hasThread(thread) ? now.borne[thread] : NO_SUCH;
    }

    public int worn(int thread) {
        return cloth.hasThread(thread) ? now.wear[thread] : NO_SUCH;
    }

    public int idle() {
        if (!cloth.isThere()) {
            return NO_SUCH;
        }
        int bits = 0;
        for (int t = 0; t < cloth.threads; t++) {
            if (now.borne[t] == 0) {
                bits |= 1 << t;
            }
        }
        return bits;
    }

    // ---- a quarrel of which nothing stays

    private boolean canTry(int claim, int n, int year) {
        return cloth.hasClaim(claim) && within(n, 1, MOST_PULL) && cloth.hasYear(year);
    }

    public int tries(int claim, int n, int year) {
        if (!canTry(claim, n, year)) {
            return NO_SUCH;
        }
        return Integer.bitCount(trials.tryPull(cloth, now.rows[year], claim, n).ripped);
    }

    public int would(int claim, int n, int year, int thread) {
        if (!canTry(claim, n, year) || !cloth.hasThread(thread)) {
            return NO_SUCH;
        }
        return trials.tryPull(cloth, now.rows[year], claim, n).share[thread];
    }

    public int lets(int claim, int n, int year) {
        if (!canTry(claim, n, year)) {
            return NO_SUCH;
        }
        return trials.tryPull(cloth, now.rows[year], claim, n).lost;
    }

    public int gate(int claim, int year) {
        if (!cloth.hasClaim(claim) || !cloth.hasYear(year)) {
            return NO_SUCH;
        }
        return trials.leastHarm(cloth, now.rows[year], claim, MOST_PULL);
    }

    public int soft(int year) {
        if (!cloth.hasYear(year)) {
            return NO_SUCH;
        }
        int best = NONE;
        int least = MOST_PULL + 1;
        for (int c = 0; c < cloth.claims; c++) {
            // only a lesser pull counts, so no greater one need be tried
            int found = trials.leastHarm(cloth, now.rows[year], c, least - 1);
            if (found != NONE) {
                least = found;
                best = c;
            }
        }
        return best;
    }

    public int bursts(int claim, int year) {
        if (!cloth.hasClaim(claim) || !cloth.hasYear(year)) {
            return NO_SUCH;
        }
        for (int n = 1; n <= MOST_PULL; n++) {
            if (trials.tryPull(cloth, now.rows[year], claim, n).lost > 0) {
                return n;
            }
        }
        return NONE;
    }

    // ---- the least word

    public int word(int thread, int claim) {
        if (!cloth.hasThread(thread) || !cloth.hasClaim(claim)) {
            return NO_SUCH;
        }
        return leastWord(thread, 1 << claim);
    }

    /** The least word to a thread by which all of some claims hang in the last year. */
    private int leastWord(int thread, int claims) {
        for (int more = 0; more <= MOST_HOLDS; more++) {
            if ((trials.hungByWord(cloth, thread, more) & claims) == claims) {
                return more;
            }
        }
        return NONE;
    }

    public int darn(int claim) {
        if (!cloth.hasClaim(claim)) {
            return NO_SUCH;
        }
        // all threads by one word, then by the next: the first found is the least, and the first of several
        for (int more = 0; more <= MOST_HOLDS; more++) {
            for (int t = 0; t < cloth.threads; t++) {
                if (((trials.hungByWord(cloth, t, more) >> claim) & 1) == 1) {
                    return t;
                }
            }
        }
        return NONE;
    }

    public int mend(int thread) {
        return cloth.hasThread(thread) ? leastWord(thread, cloth.allClaims()) : NO_SUCH;
    }

    // ---- threads cut, quarrels and threads left out

    public int cut(int claim, int year) {
        if (!cloth.hasClaim(claim) || !cloth.hasYear(year)) {
            return NO_SUCH;
        }
        return web.fewest(cloth, now.rows[year], claim);
    }

    public int keys(int claim, int year) {
        if (!cloth.hasClaim(claim) || !cloth.hasYear(year)) {
            return NO_SUCH;
        }
        return trials.alone(cloth, now.rows[year], claim);
    }

    private int hangingAtLast() {
        return Integer.bitCount(web.hanging(cloth, now.rows[cloth.years]));
    }

    public int blame() {
        if (!cloth.isThere()) {
            return NO_SUCH;
        }
        int best = NONE;
        int most = hangingAtLast();
        for (int q = 0; q < cloth.quarrels; q++) {
            int hang = Integer.bitCount(trials.hungByEvening(cloth, cloth.allQuarrels() & ~(1 << q)));
            if (hang > most) {
                most = hang;
                best = q;
            }
        }
        return best;
    }

    public int dear() {
        if (!cloth.isThere()) {
            return NO_SUCH;
        }
        int best = NONE;
        int fewest = hangingAtLast();
        for (int t = 0; t < cloth.threads; t++) {
            int hang = trials.hungWithout(cloth, 1 << t);
            if (hang < fewest) {
                fewest = hang;
                best = t;
            }
        }
        return best;
    }

    public int worse() {
        if (!cloth.isThere()) {
            return NO_SUCH;
        }
        int best = NONE;
        int most = hangingAtLast();
        for (int t = 0; t < cloth.threads; t++) {
            int hang = trials.hungWithout(cloth, 1 << t);
            if (hang > most) {
                most = hang;
                best = t;
            }
        }
        return best;
    }

    // ---- what was seen

    /** 0 when a slot's row can be read as seen of a thread, and what fits it is counted; otherwise the answer due. */
    private int look(int slot, int thread) {
        if (!hasSlot(slot) || !cloth.hasThread(thread)) {
            return NO_SUCH;
        }
        if (!slots[slot].isThere()) {
            return NOTHING;
        }
        if (!sight.isSeen(cloth, slots[slot])) {
            return NO_SUCH;
        }
        sight.countFits(cloth, slots[slot], thread);
        return 0;
    }

    public int fits(int slot, int thread) {
        int bad = look(slot, thread);
        return bad != 0 ? bad : sight.fitting;
    }

    public int least(int slot, int thread) {
        int bad = look(slot, thread);
        return bad != 0 ? bad : sight.first;
    }

    public int greatest(int slot, int thread) {
        int bad = look(slot, thread);
        return bad != 0 ? bad : sight.last;
    }

    public int ask(int slot, int thread) {
        int bad = look(slot, thread);
        if (bad != 0) {
            return bad;
        }
        // in year 0 a strength is just the one told: no year leaves fewer, and none comes ahead of it
        return sight.fitting > 1 ? 0 : NONE;
    }

    public int leaves(int slot, int thread) {
        int bad = look(slot, thread);
        return bad != 0 ? bad : Math.min(sight.fitting, 1);
    }

    public int laws(int slot) {
        if (!hasSlot(slot) || !cloth.isThere()) {
            return NO_SUCH;
        }
        if (!slots[slot].isThere()) {
            return NOTHING;
        }
        if (!sight.isSeen(cloth, slots[slot])) {
            return NO_SUCH;
        }
        int bits = 0;
        for (int l = 0; l < LAWS; l++) {
            if (sight.agreesByLaw(cloth, slots[slot], l)) {
                bits |= 1 << l;
            }
        }
        return bits;
    }

    public int by(int law) {
        if (!cloth.isThere() || !within(law, 0, LAWS - 1)) {
            return NO_SUCH;
        }
        return trials.hungByLaw(cloth, law);
    }

    public int law() {
        if (!cloth.isThere()) {
            return NO_SUCH;
        }
        int best = 0;
        int most = NONE;
        for (int l = 0; l < LAWS; l++) {
            int hang = Integer.bitCount(trials.hungByLaw(cloth, l));
            if (hang > most) {
                most = hang;
                best = l;
            }
        }
        return best;
    }

    // ---- sets of threads, and two quarrels

    public int worth(int set) {
        if (!cloth.isThere() || set < 0 || set > cloth.allThreads()) {
            return NO_SUCH;
        }
        return trials.hungWithout(cloth, cloth.allThreads() & ~set);
    }

    public int share(int thread, int what) {
        int sharers = Math.min(cloth.threads, SHARERS);
        if (!within(thread, 0, sharers - 1) || !within(what, 0, 1)) {
            return FAR_OFF;
        }
        int above = 0;
        for (int set = 0; set < 1 << sharers; set++) {
            if (((set >> thread) & 1) == 0) {
                int before = Integer.bitCount(set);
                int orders = FACTORIALS[before] * FACTORIALS[sharers - 1 - before];
                above += orders * (trials.worthOfFirst(cloth, set | 1 << thread) - trials.worthOfFirst(cloth, set));
            }
        }
        return (int) inLowest(above, FACTORIALS[sharers], what);
    }

    private boolean areTwo(int quarrel, int other) {
        return cloth.hasQuarrel(quarrel) && cloth.hasQuarrel(other) && quarrel != other;
    }

    public int rests(int quarrel, int other) {
        if (!areTwo(quarrel, other)) {
            return NO_SUCH;
        }
        int bits = 0;
        for (int pair = 0; pair < 4; pair++) {
            int x = pair & 1;
            int y = pair >> 1;
            boolean firstStays = trials.gain(cloth, quarrel, other, x, y)
                    >= trials.gain(cloth, quarrel, other, 1 - x, y);
            boolean otherStays = trials.gain(cloth, other, quarrel, y, x)
                    >= trials.gain(cloth, other, quarrel, 1 - y, x);
            if (firstStays && otherStays) {
                bits |= 1 << pair;
            }
        }
        return bits;
    }

    public int gets(int quarrel, int other, int x, int y) {
        if (!areTwo(quarrel, other) || !within(x, 0, 1) || !within(y, 0, 1)) {
            return FAR_OFF;
        }
        return trials.gain(cloth, quarrel, other, x, y);
    }

    // ---- chance

    public long chance(int claim, int what) {
        if (!cloth.hasClaim(claim) || !within(what, 0, 1)) {
            return NO_SUCH;
        }
        return expected(1 << claim, what);
    }

    public long mean(int what) {
        if (!cloth.isThere() || !within(what, 0, 1)) {
            return NO_SUCH;
        }
        return expected(cloth.allClaims(), what);
    }

    /** The mean of how many of some claims hang in the last year, when quarrels told come by chance. */
    private long expected(int claims, int what) {
        if (cloth.quarrels > CHANCES) {
            return TOO_MANY_QUARRELS;
        }
        long above = 0;
        for (int come = 0; come <= cloth.allQuarrels(); come++) {
            int coming = Integer.bitCount(come);
            long likely = power(cloth.odds, coming) * power(10 - cloth.odds, cloth.quarrels - coming);
            if (likely > 0) {
                above += likely * Integer.bitCount(trials.hungByEvening(cloth, come) & claims);
            }
        }
        return inLowest(above, power(10, cloth.quarrels), what);
    }

    private static long power(long base, int times) {
        long all = 1;
        for (int i = 0; i < times && i < CHANCES; i++) {
            all *= base;
        }
        return all;
    }

    private static long inLowest(long above, long below, int what) {
        long a = Math.abs(above);
        long b = below;
        for (int i = 0; i < 100 && b != 0; i++) {
            long rest = a % b;
            a = b;
            b = rest;
        }
        if (a == 0) {
            return 0;
        }
        return what == 0 ? above / a : below / a;
    }

    // ---- acts

    public int sews(int thread, int n, int year) {
        if (!cloth.hasThread(thread) || !within(n, 1, MOST_HOLDS) || !cloth.hasYearAhead(year)) {
            return NO_SUCH;
        }
        return act(Acts.WORD, thread, n, year);
    }

    public int quarrels(int claim, int n, int year) {
        if (!cloth.hasClaim(claim) || !within(n, 1, MOST_TOLD_PULL) || !cloth.hasYearAhead(year)) {
            return NO_SUCH;
        }
        return act(Acts.QUARREL, claim, n, year);
    }

    private int act(int kind, int at, int n, int year) {
        if (!cloth.acts.append(kind, at, n, year)) {
            return NOT_NOW;
        }
        refresh();
        return web.hanging(cloth, now.rows[cloth.years]);
    }

    public int undo() {
        if (!cloth.isThere()) {
            return NO_SUCH;
        }
        if (cloth.acts.size == 0) {
            return NOT_NOW;
        }
        cloth.acts.size--;
        refresh();
        return cloth.acts.size;
    }

    public int anew() {
        if (!cloth.isThere()) {
            return NO_SUCH;
        }
        int were = cloth.acts.size;
        cloth.acts.size = 0;
        refresh();
        return were;
    }

    // ---- evenings drawn

    public int drawn(int seed, int what) {
        if (!cloth.isThere() || !within(seed, 0, MOST_SEED) || !within(what, 0, 1)) {
            return NO_SUCH;
        }
        int come = drawEvening(seed);
        return what == 0 ? come : trials.hungByEvening(cloth, come);
    }

    private int drawEvening(int seed) {
        long x = seed;
        int come = 0;
        for (int q = 0; q < cloth.quarrels; q++) {
            x = (1103515245L * x + 12345L) % 2147483648L;
            if (x / 65536 % 10 < cloth.odds) {
                come |= 1 << q;
            }
        }
        return come;
    }

    public int luck(int seed, int n, int claim) {
        if (!cloth.hasClaim(claim) || !within(seed, 0, MOST_SEED) || !within(n, 1, 20)) {
            return NO_SUCH;
        }
        int often = 0;
        for (int i = 0; i < n; i++) {
            often += (trials.hungByEvening(cloth, drawEvening(seed + i)) >> claim) & 1;
        }
        return often;
    }

    public int rate(int thread, int n) {
        if (!cloth.hasThread(thread) || !within(n, 1, MOST_HOLDS)) {
            return NO_SUCH;
        }
        if (cloth.acts.size > 0) {
            return NOT_NOW;
        }
        int was = cloth.holds[thread];
        cloth.holds[thread] = n;
        refresh();
        return was;
    }

    // ---- counts, images, slots

    public int count(int what) {
        switch (what) {
            case 0:
                return cloth.years;
            case 1:
                return cloth.law;
            case 2:
                return cloth.odds;
            case 3:
                return cloth.claims;
            case 4:
                return cloth.threads;
            case 5:
                return cloth.quarrels;
            case 6:
                return cloth.acts.size;
            case 7:
                return cloth.lines;
            case 8:
                return reader.tape.length;
            case 9:
                return rowsThere();
            default:
                return NONE;
        }
    }

    private int rowsThere() {
        int there = 0;
        for (int i = 0; i < SLOTS; i++) {
            if (slots[i].isThere()) {
                there++;
            }
        }
        return there;
    }

    public int image(int k) {
        if (!within(k, 0, IMAGES - 1)) {
            return NO_SUCH;
        }
        images[k].takeOver(cloth);
        kept[k] = true;
        return 0;
    }

    public int back(int k) {
        if (!within(k, 0, IMAGES - 1)) {
            return NO_SUCH;
        }
        if (!kept[k]) {
            return NOTHING;
        }
        cloth.takeOver(images[k]);
        refresh();
        return 0;
    }

    private static boolean hasSlot(int slot) {
        return within(slot, 0, SLOTS - 1);
    }

    private static boolean within(int n, int low, int high) {
        return n >= low && n <= high;
    }

    public int row(int slot, int width, int n) {
        if (!hasSlot(slot) || !within(width, 0, 3) || n > MOST_NUMBERS) {
            return NO_SUCH;
        }
        if (n < 0) {
            return BELOW_NONE;
        }
        slots[slot].renew(width, n);
        return 0;
    }

    public int write(int slot, int i, long v) {
        if (!hasSlot(slot)) {
            return NO_SUCH;
        }
        Slot into = slots[slot];
        if (!into.isThere()) {
            return NOTHING;
        }
        if (i < 0 || i >= into.length) {
            return BEYOND;
        }
        into.numbers[i] = into.narrowed(v);
        return 0;
    }

    public int paste(int slot, int i, int to, int k, int n) {
        if (!hasSlot(slot) || !hasSlot(to)) {
            return NO_SUCH;
        }
        Slot source = slots[slot];
        Slot into = slots[to];
        if (!source.isThere() || !into.isThere()) {
            return NOTHING;
        }
        if (source.width != into.width) {
            return OTHER_WIDTH;
        }
        if (!source.covers(i, n) || !into.covers(k, n)) {
            return BEYOND;
        }
        System.arraycopy(source.numbers, i, into.numbers, k, n);
        return 0;
    }

    /** The bytes fed, and the token at which they are read. */
    static final class Tape {
        static final int STOP = 0;
        static final int WORD = 1;
        static final int NUMBER = 2;
        static final int SIGN = 3;
        static final int NO_TOKEN = 4;
        private static final int TOO_GREAT = 1000000;

        final byte[] bytes = new byte[MOST_BYTES];
        int length;
        int at;
        int start;
        int kind;
        int value;

        void append(int number) {
            for (int shift = 24; shift >= 0 && length < MOST_BYTES; shift -= 8) {
                bytes[length] = (byte) (number >> shift);
                length++;
            }
        }

        void next() {
            while (at < length && (bytes[at] == 32 || bytes[at] == 10)) {
                at++;
            }
            start = at;
            value = 0;
            if (at >= length) {
                kind = STOP;
            } else if (isLetter()) {
                kind = WORD;
                while (at < length && isLetter()) {
                    at++;
                }
            } else if (isDigit()) {
                kind = NUMBER;
                while (at < length && isDigit()) {
                    value = Math.min(TOO_GREAT, value * 10 + bytes[at] - '0');
                    at++;
                }
            } else {
                kind = bytes[at] == ';' ? SIGN : NO_TOKEN;
                at++;
            }
        }

        private boolean isLetter() {
            return bytes[at] >= 'a' && bytes[at] <= 'z';
        }

        private boolean isDigit() {
            return bytes[at] >= '0' && bytes[at] <= '9';
        }

        boolean isAt(String wanted) {
            if (kind != WORD || at - start != wanted.length()) {
                return false;
            }
            for (int i = 0; i < wanted.length(); i++) {
                if (bytes[start + i] != wanted.charAt(i)) {
                    return false;
                }
            }
            return true;
        }
    }

    /** Reads a tape as a cloth; stops at the first fault, which is the first by its place. */
    static final class Reader {
        final Tape tape = new Tape();
        final Cloth read = new Cloth();
        int fault;
        int place = NONE;
        private int taken;

        boolean readAll() {
            read.clear();
            fault = 0;
            place = NONE;
            tape.at = 0;
            tape.next();
            for (int i = 0; i < MOST_BYTES && tape.kind != Tape.STOP; i++) {
                if (!readLine() || !takeSign()) {
                    return false;
                }
                read.lines++;
            }
            read.sortThreads();
            return true;
        }

        private boolean readLine() {
            boolean ahead = read.lines == 0;
            if (tape.isAt("cloth") && ahead) {
                return readHead();
            }
            if (tape.isAt("claim") && !ahead) {
                return readClaim();
            }
            if (tape.isAt("thread") && !ahead) {
                return readThread();
            }
            if (tape.isAt("quarrel") && !ahead) {
                return readQuarrel();
            }
            return fail(1);
        }

        private boolean readHead() {
            tape.next();
            if (!takeWord("years") || !takeNumber(1, MOST_YEARS)) {
                return false;
            }
            read.years = taken;
            if (!takeWord("law") || !takeNumber(0, LAWS - 1)) {
                return false;
            }
            read.law = taken;
            if (!takeWord("odds") || !takeNumber(0, 10)) {
                return false;
            }
            read.odds = taken;
            return true;
        }

        private boolean readClaim() {
            if (read.claims >= MOST_CLAIMS) {
                return fail(3);
            }
            tape.next();
            read.claims++;
            return true;
        }

        private boolean readThread() {
            int t = read.threads;
            if (t >= MOST_THREADS) {
                return fail(3);
            }
            tape.next();
            if (!takeNumber(0, read.claims - 1)) {
                return false;
            }
            read.from[t] = taken;
            if (!takeWord("to")) {
                return false;
            }
            if (tape.isAt("hem")) {
                tape.next();
                taken = HEM;
            } else if (!takeNumber(0, read.from[t] - 1)) {
                return false;
            }
            read.to[t] = taken;
            if (!takeWord("holds") || !takeNumber(1, MOST_HOLDS)) {
                return false;
            }
            read.holds[t] = taken;
            read.threads++;
            return true;
        }

        private boolean readQuarrel() {
            int q = read.quarrels;
            if (q >= MOST_QUARRELS) {
                return fail(3);
            }
            tape.next();
            if (!takeNumber(0, read.claims - 1)) {
                return false;
            }
            read.target[q] = taken;
            if (!takeWord("by") || !takeNumber(1, MOST_TOLD_PULL)) {
                return false;
            }
            read.pull[q] = taken;
            if (!takeWord("at") || !takeNumber(0, MOST_YEARS - 1)) {
                return false;
            }
            read.when[q] = taken;
            read.quarrels++;
            return true;
        }

        private boolean takeWord(String wanted) {
            if (!tape.isAt(wanted)) {
                return fail(1);
            }
            tape.next();
            return true;
        }

        private boolean takeNumber(int low, int high) {
            if (tape.kind != Tape.NUMBER) {
                return fail(1);
            }
            if (tape.value < low || tape.value > high) {
                return fail(2);
            }
            taken = tape.value;
            tape.next();
            return true;
        }

        private boolean takeSign() {
            if (tape.kind != Tape.SIGN) {
                return fail(1);
            }
            tape.next();
            return true;
        }

        private boolean fail(int what) {
            fault = what;
            place = tape.start;
            return false;
        }
    }

    /** Words let in and quarrels more, in the order in which they were done. */
    static final class Acts {
        static final int WORD = 0;
        static final int QUARREL = 1;

        int size;
        final int[] kind = new int[MOST_ACTS];
        final int[] at = new int[MOST_ACTS];
        final int[] amount = new int[MOST_ACTS];
        final int[] when = new int[MOST_ACTS];

        boolean append(int what, int where, int n, int year) {
            if (size >= MOST_ACTS) {
                return false;
            }
            kind[size] = what;
            at[size] = where;
            amount[size] = n;
            when[size] = year;
            size++;
            return true;
        }

        void copyFrom(Acts other) {
            size = other.size;
            System.arraycopy(other.kind, 0, kind, 0, MOST_ACTS);
            System.arraycopy(other.at, 0, at, 0, MOST_ACTS);
            System.arraycopy(other.amount, 0, amount, 0, MOST_ACTS);
            System.arraycopy(other.when, 0, when, 0, MOST_ACTS);
        }
    }

    /** What was told, and the acts since; no lines: there is no cloth. */
    static final class Cloth {
        int lines;
        int years;
        int law;
        int odds;
        int claims;
        int threads;
        int quarrels;
        final int[] from = new int[MOST_THREADS];
        final int[] to = new int[MOST_THREADS];
        final int[] holds = new int[MOST_THREADS];
        final int[] target = new int[MOST_QUARRELS];
        final int[] pull = new int[MOST_QUARRELS];
        final int[] when = new int[MOST_QUARRELS];
        /** Threads by their claims: those of claim c stand in sorted from begins[c] to begins[c + 1]. */
        final int[] sorted = new int[MOST_THREADS];
        final int[] begins = new int[MOST_CLAIMS + 1];
        final Acts acts = new Acts();

        void clear() {
            lines = 0;
            years = 0;
            law = 0;
            odds = 0;
            claims = 0;
            threads = 0;
            quarrels = 0;
            acts.size = 0;
        }

        void sortThreads() {
            int placed = 0;
            for (int c = 0; c < MOST_CLAIMS; c++) {
                begins[c] = placed;
                for (int t = 0; t < threads; t++) {
                    if (from[t] == c) {
                        sorted[placed] = t;
                        placed++;
                    }
                }
            }
            begins[MOST_CLAIMS] = placed;
        }

        void takeOver(Cloth other) {
            lines = other.lines;
            years = other.years;
            law = other.law;
            odds = other.odds;
            claims = other.claims;
            threads = other.threads;
            quarrels = other.quarrels;
            System.arraycopy(other.from, 0, from, 0, MOST_THREADS);
            System.arraycopy(other.to, 0, to, 0, MOST_THREADS);
            System.arraycopy(other.holds, 0, holds, 0, MOST_THREADS);
            System.arraycopy(other.target, 0, target, 0, MOST_QUARRELS);
            System.arraycopy(other.pull, 0, pull, 0, MOST_QUARRELS);
            System.arraycopy(other.when, 0, when, 0, MOST_QUARRELS);
            System.arraycopy(other.sorted, 0, sorted, 0, MOST_THREADS);
            System.arraycopy(other.begins, 0, begins, 0, MOST_CLAIMS + 1);
            acts.copyFrom(other.acts);
        }

        boolean isThere() {
            return lines > 0;
        }

        boolean hasClaim(int claim) {
            return claim >= 0 && claim < claims;
        }

        boolean hasThread(int thread) {
            return thread >= 0 && thread < threads;
        }

        boolean hasQuarrel(int quarrel) {
            return quarrel >= 0 && quarrel < quarrels;
        }

        boolean hasYear(int year) {
            return isThere() && year >= 0 && year <= years;
        }

        boolean hasYearAhead(int year) {
            return isThere() && year >= 0 && year < years;
        }

        int allClaims() {
            return (1 << claims) - 1;
        }

        int allThreads() {
            return (1 << threads) - 1;
        }

        int allQuarrels() {
            return (1 << quarrels) - 1;
        }
    }

    /** One quarrel: its pulls, and what the last of them gave each thread. */
    static final class Tug {
        final int[] share = new int[MOST_THREADS];
        int times;
        int ripped;
        int lost;
        int intoHem;
        private final int[] load = new int[MOST_CLAIMS];
        private int whole;
        private int together;
        private int strong;
        private int second;

        void drag(Cloth cloth, int law, int[] strength, int claim, int n) {
            times = 0;
            ripped = 0;
            boolean again = true;
            // each pull but the last tears a thread, so there are at most as many and one
            for (int i = 0; again && i <= MOST_THREADS; i++) {
                begin(claim, n);
                for (int c = claim; c >= 0; c--) {
                    if (load[c] > 0) {
                        divide(cloth, law, strength, c);
                    }
                }
                times++;
                again = tear(cloth, strength);
            }
            for (int t = 0; t < cloth.threads; t++) {
                // never to 0: a share that did not tear is no more than the strength
                strength[t] -= share[t] / 5;
            }
        }

        private void begin(int claim, int n) {
            Arrays.fill(share, 0);
            Arrays.fill(load, 0);
            load[claim] = n;
            lost = 0;
            intoHem = 0;
        }

        private void divide(Cloth cloth, int law, int[] strength, int claim) {
            survey(cloth, strength, claim);
            if (whole == 0 || together == 0) {
                lost += load[claim];
                return;
            }
            switch (law) {
                case 0:
                    evenly(cloth, strength, claim);
                    break;
                case 1:
                    share[strong] = load[claim];
                    break;
                case 2:
                    byStrength(cloth, strength, claim);
                    break;
                default:
                    share[strong] = load[claim];
                    if (second >= 0) {
                        share[second] = load[claim] / 2;
                        share[strong] -= share[second];
                    }
                    break;
            }
            passOn(cloth, claim);
        }

        private void survey(Cloth cloth, int[] strength, int claim) {
            whole = 0;
            together = 0;
            strong = NONE;
            second = NONE;
            for (int i = cloth.begins[claim]; i < cloth.begins[claim + 1]; i++) {
                int t = cloth.sorted[i];
                if (strength[t] > 0) {
                    whole++;
                    together += strength[t];
                    if (strong < 0 || strength[t] > strength[strong]) {
                        second = strong;
                        strong = t;
                    } else if (second < 0 || strength[t] > strength[second]) {
                        second = t;
                    }
                }
            }
        }

        private void evenly(Cloth cloth, int[] strength, int claim) {
            int each = load[claim] / whole;
            int left = load[claim] % whole;
            for (int i = cloth.begins[claim]; i < cloth.begins[claim + 1]; i++) {
                int t = cloth.sorted[i];
                if (strength[t] > 0) {
                    share[t] = left > 0 ? each + 1 : each;
                    left--;
                }
            }
        }

        private void byStrength(Cloth cloth, int[] strength, int claim) {
            int left = load[claim];
            for (int i = cloth.begins[claim]; i < cloth.begins[claim + 1]; i++) {
                int t = cloth.sorted[i];
                share[t] = strength[t] * load[claim] / together;
                left -= share[t];
            }
            share[strong] += left;
        }

        private void passOn(Cloth cloth, int claim) {
            for (int i = cloth.begins[claim]; i < cloth.begins[claim + 1]; i++) {
                int t = cloth.sorted[i];
                if (cloth.to[t] == HEM) {
                    intoHem += share[t];
                } else {
                    load[cloth.to[t]] += share[t];
                }
            }
        }

        private boolean tear(Cloth cloth, int[] strength) {
            boolean any = false;
            for (int t = 0; t < cloth.threads; t++) {
                if (share[t] > strength[t]) {
                    strength[t] = 0;
                    ripped |= 1 << t;
                    any = true;
                }
            }
            return any;
        }
    }

    /** The years as they go: as told, or with something otherwise that is set ahead of live. */
    static final class Years {
        int law;
        /** Threads torn from year 0 on, quarrels told that are held back: bits. */
        int gone;
        int held;
        final int[][] rows = new int[MOST_YEARS + 1][MOST_THREADS];
        final int[][] shares = new int[MOST_QUARRELS][MOST_THREADS];
        final int[] times = new int[MOST_QUARRELS];
        final int[] ripped = new int[MOST_QUARRELS];
        final int[] lost = new int[MOST_QUARRELS];
        final int[] intoHem = new int[MOST_QUARRELS];
        final int[] borne = new int[MOST_THREADS];
        final int[] wear = new int[MOST_THREADS];
        private final Tug tug = new Tug();

        void asTold(Cloth cloth) {
            law = cloth.law;
            gone = 0;
            held = 0;
            System.arraycopy(cloth.holds, 0, rows[0], 0, MOST_THREADS);
        }

        void live(Cloth cloth) {
            begin(cloth);
            Acts acts = cloth.acts;
            for (int y = 0; y < cloth.years && y < MOST_YEARS; y++) {
                int[] next = rows[y + 1];
                System.arraycopy(rows[y], 0, next, 0, MOST_THREADS);
                letIn(acts, y, next);
                for (int q = 0; q < cloth.quarrels; q++) {
                    if (cloth.when[q] == y && ((held >> q) & 1) == 0) {
                        tug.drag(cloth, law, next, cloth.target[q], cloth.pull[q]);
                        addUp(cloth);
                        note(q);
                    }
                }
                for (int i = 0; i < acts.size; i++) {
                    if (acts.kind[i] == Acts.QUARREL && acts.when[i] == y) {
                        tug.drag(cloth, law, next, acts.at[i], acts.amount[i]);
                        addUp(cloth);
                    }
                }
            }
        }

        private void begin(Cloth cloth) {
            for (int t = 0; t < cloth.threads; t++) {
                if (((gone >> t) & 1) == 1) {
                    rows[0][t] = 0;
                }
            }
            Arrays.fill(times, 0);
            Arrays.fill(ripped, 0);
            Arrays.fill(lost, 0);
            Arrays.fill(intoHem, 0);
            Arrays.fill(borne, 0);
            Arrays.fill(wear, 0);
        }

        private void letIn(Acts acts, int year, int[] strength) {
            for (int i = 0; i < acts.size; i++) {
                if (acts.kind[i] == Acts.WORD && acts.when[i] == year) {
                    int t = acts.at[i];
                    if (((gone >> t) & 1) == 0) {
                        strength[t] = Math.min(MOST_STRENGTH, strength[t] + acts.amount[i]);
                    }
                }
            }
        }

        private void note(int quarrel) {
            System.arraycopy(tug.share, 0, shares[quarrel], 0, MOST_THREADS);
            times[quarrel] = tug.times;
            ripped[quarrel] = tug.ripped;
            lost[quarrel] = tug.lost;
            intoHem[quarrel] = tug.intoHem;
        }

        private void addUp(Cloth cloth) {
            for (int t = 0; t < cloth.threads; t++) {
                borne[t] += tug.share[t];
                wear[t] += tug.share[t] / 5;
            }
        }
    }

    /** How claims hang by threads of given strengths. */
    static final class Web {
        private static final int HEM_KNOT = MOST_CLAIMS;

        private final int[] far = new int[MOST_CLAIMS];
        private final int[] reachedBy = new int[MOST_CLAIMS + 1];

        int wholeOf(Cloth cloth, int[] strength, int claim) {
            int whole = 0;
            for (int i = cloth.begins[claim]; i < cloth.begins[claim + 1]; i++) {
                if (strength[cloth.sorted[i]] > 0) {
                    whole++;
                }
            }
            return whole;
        }

        int hanging(Cloth cloth, int[] strength) {
            int bits = 0;
            // threads lead to lesser claims alone, so going up each claim finds those below it settled
            for (int c = 0; c < cloth.claims; c++) {
                for (int i = cloth.begins[c]; i < cloth.begins[c + 1]; i++) {
                    int t = cloth.sorted[i];
                    if (strength[t] > 0 && (cloth.to[t] == HEM || ((bits >> cloth.to[t]) & 1) == 1)) {
                        bits |= 1 << c;
                    }
                }
            }
            return bits;
        }

        int shortest(Cloth cloth, int[] strength, int claim) {
            for (int c = 0; c <= claim; c++) {
                far[c] = NONE;
                for (int i = cloth.begins[c]; i < cloth.begins[c + 1]; i++) {
                    int t = cloth.sorted[i];
                    int rest = cloth.to[t] == HEM ? 0 : far[cloth.to[t]];
                    if (strength[t] > 0 && rest >= 0 && (far[c] < 0 || rest + 1 < far[c])) {
                        far[c] = rest + 1;
                    }
                }
            }
            return far[claim];
        }

        /** As many ways to the hem as share no thread: just as many must be cut. */
        int fewest(Cloth cloth, int[] strength, int claim) {
            int used = 0;
            int ways = 0;
            for (int i = 0; i < MOST_THREADS && reaches(cloth, strength, claim, used); i++) {
                used = turned(cloth, claim, used);
                ways++;
            }
            return ways;
        }

        /** Whether the hem is reached over threads not used, or back over used ones; notes by which. */
        private boolean reaches(Cloth cloth, int[] strength, int claim, int used) {
            Arrays.fill(reachedBy, NONE);
            int reached = 1 << claim;
            for (int pass = 0; pass <= MOST_CLAIMS; pass++) {
                for (int t = 0; t < cloth.threads; t++) {
                    if (strength[t] > 0) {
                        boolean back = ((used >> t) & 1) == 1;
                        int start = back ? knot(cloth, t) : cloth.from[t];
                        int stop = back ? cloth.from[t] : knot(cloth, t);
                        if (((reached >> start) & 1) == 1 && ((reached >> stop) & 1) == 0) {
                            reached |= 1 << stop;
                            reachedBy[stop] = t;
                        }
                    }
                }
            }
            return ((reached >> HEM_KNOT) & 1) == 1;
        }

        private int turned(Cloth cloth, int claim, int used) {
            int now = used;
            int at = HEM_KNOT;
            for (int i = 0; i <= MOST_CLAIMS && at != claim; i++) {
                int t = reachedBy[at];
                if (t < 0) {
                    return now;
                }
                boolean back = ((used >> t) & 1) == 1;
                at = back ? knot(cloth, t) : cloth.from[t];
                now ^= 1 << t;
            }
            return now;
        }

        private static int knot(Cloth cloth, int thread) {
            return cloth.to[thread] == HEM ? HEM_KNOT : cloth.to[thread];
        }
    }

    /** The cloth with something otherwise. Dear answers are kept until the cloth changes. */
    static final class Trials {
        private final Web web = new Web();
        private final Years years = new Years();
        private final Tug tug = new Tug();
        private final int[] row = new int[MOST_THREADS];
        private final int[] byWord = new int[MOST_THREADS * (MOST_HOLDS + 1)];
        private final int[] byEvening = new int[1 << MOST_QUARRELS];
        private final int[] bySet = new int[1 << SHARERS];

        void forget() {
            Arrays.fill(byWord, NONE);
            Arrays.fill(byEvening, NONE);
            Arrays.fill(bySet, NONE);
        }

        int hungByWord(Cloth cloth, int thread, int more) {
            int i = thread * (MOST_HOLDS + 1) + more;
            if (byWord[i] == NONE) {
                years.asTold(cloth);
                years.rows[0][thread] += more;
                years.live(cloth);
                byWord[i] = web.hanging(cloth, years.rows[cloth.years]);
            }
            return byWord[i];
        }

        /** By the quarrels told that come, as bits. */
        int hungByEvening(Cloth cloth, int come) {
            if (byEvening[come] == NONE) {
                years.asTold(cloth);
                years.held = ~come;
                years.live(cloth);
                byEvening[come] = web.hanging(cloth, years.rows[cloth.years]);
            }
            return byEvening[come];
        }

        int hungByLaw(Cloth cloth, int law) {
            years.asTold(cloth);
            years.law = law;
            years.live(cloth);
            return web.hanging(cloth, years.rows[cloth.years]);
        }

        /** How many hang without some threads. */
        int hungWithout(Cloth cloth, int gone) {
            years.asTold(cloth);
            years.gone = gone;
            years.live(cloth);
            return Integer.bitCount(web.hanging(cloth, years.rows[cloth.years]));
        }

        /** What a set of the first eight threads is worth; the rest are there always. */
        int worthOfFirst(Cloth cloth, int set) {
            if (bySet[set] == NONE) {
                bySet[set] = hungWithout(cloth, ((1 << SHARERS) - 1) & ~set);
            }
            return bySet[set];
        }

        int gain(Cloth cloth, int quarrel, int other, int x, int y) {
            years.asTold(cloth);
            years.held = x << quarrel | y << other;
            years.live(cloth);
            if (years.times[quarrel] == 0) {
                return 0;
            }
            int won = years.lost[quarrel] > 0 ? 0 : cloth.pull[quarrel];
            return won - TEAR_COSTS * Integer.bitCount(years.ripped[quarrel]);
        }

        Tug tryPull(Cloth cloth, int[] strength, int claim, int n) {
            System.arraycopy(strength, 0, row, 0, MOST_THREADS);
            tug.drag(cloth, cloth.law, row, claim, n);
            return tug;
        }

        /** The least pull, up to a most one, that tears a thread or goes through. */
        int leastHarm(Cloth cloth, int[] strength, int claim, int most) {
            for (int n = 1; n <= most; n++) {
                tryPull(cloth, strength, claim, n);
                if (tug.ripped != 0 || tug.lost > 0) {
                    return n;
                }
            }
            return NONE;
        }

        /** Threads each of which alone must hold, so that a claim that hangs does. */
        int alone(Cloth cloth, int[] strength, int claim) {
            int bits = 0;
            if (((web.hanging(cloth, strength) >> claim) & 1) == 0) {
                return bits;
            }
            System.arraycopy(strength, 0, row, 0, MOST_THREADS);
            for (int t = 0; t < cloth.threads; t++) {
                row[t] = 0;
                if (((web.hanging(cloth, row) >> claim) & 1) == 0) {
                    bits |= 1 << t;
                }
                row[t] = strength[t];
            }
            return bits;
        }
    }

    /** What a slot's row tells to have been seen: a thread, a year, a strength each. */
    static final class Sight {
        private final Years years = new Years();
        int fitting;
        int first;
        int last;

        boolean isSeen(Cloth cloth, Slot slot) {
            if (slot.length % 3 != 0) {
                return false;
            }
            for (int i = 0; i + 2 < slot.length; i += 3) {
                if (!isUpTo(slot.numbers[i], cloth.threads - 1)
                        || !isUpTo(slot.numbers[i + 1], cloth.years)
                        || !isUpTo(slot.numbers[i + 2], MOST_STRENGTH)) {
                    return false;
                }
            }
            return true;
        }

        private static boolean isUpTo(long n, long high) {
            return n >= 0 && n <= high;
        }

        void countFits(Cloth cloth, Slot slot, int thread) {
            fitting = 0;
            first = NONE;
            last = NONE;
            for (int holds = 1; holds <= MOST_HOLDS; holds++) {
                years.asTold(cloth);
                years.rows[0][thread] = holds;
                years.live(cloth);
                if (agrees(slot)) {
                    fitting++;
                    first = first == NONE ? holds : first;
                    last = holds;
                }
            }
        }

        boolean agreesByLaw(Cloth cloth, Slot slot, int law) {
            years.asTold(cloth);
            years.law = law;
            years.live(cloth);
            return agrees(slot);
        }

        private boolean agrees(Slot slot) {
            for (int i = 0; i + 2 < slot.length; i += 3) {
                int thread = (int) slot.numbers[i];
                int year = (int) slot.numbers[i + 1];
                if (years.rows[year][thread] != slot.numbers[i + 2]) {
                    return false;
                }
            }
            return true;
        }
    }

    /** A row of numbers of one width, or nothing. */
    static final class Slot {
        int width = NONE;
        int length;
        final long[] numbers = new long[MOST_NUMBERS];

        boolean isThere() {
            return width != NONE;
        }

        void renew(int newWidth, int n) {
            width = newWidth;
            length = n;
            Arrays.fill(numbers, 0);
        }

        long narrowed(long v) {
            switch (width) {
                case 0:
                    return (byte) v;
                case 1:
                    return (short) v;
                case 2:
                    return (int) v;
                default:
                    return v;
            }
        }

        boolean covers(int i, int n) {
            return i >= 0 && n >= 0 && n <= length - i;
        }
    }
}
