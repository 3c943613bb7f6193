/**
 * The makers' books over the mines whose engines they watch: strokes, coal, readings, bargains,
 * what is owed and what it would be wise to do. The document is ../shared/DOC.md.
 */
public final class SavedThird {

    public static final int BAD = -1, STATE = -2, FULL = -3, NONE = -4;

    private static final int MAX_MINES = 6;
    private static final int MAX_ENGINES = 12;
    private static final int MAX_READINGS = 60;
    private static final int MAX_SHEETS = 4;
    private static final int MAX_CELLS = 48;
    private static final int MAX_LINES = 16;
    private static final int MONTHS = 60;
    private static final int YEAR = 12;
    private static final int PARTS = 8;
    private static final int PARTNERS = 8;
    private static final int TAPE_BYTES = 200;
    private static final int BOX_ROUND = 10000;
    private static final int OLD_COAL_MOST = 100000;
    private static final int FIXED_MOST = 9999;
    private static final int ASK_FROM = 10;

    private static final int NEW = 1, PIRATE = 2;

    private static final int BAD_PAY = -1000000;
    private static final long BAD_BRINGS = -10000000000L, STATE_BRINGS = -10000000002L;

    private static final int FAULT_NULL = 1, FAULT_INDEX = 2, FAULT_CAST = 3, FAULT_SIZE = 4;

    private final Mine[] mines = new Mine[MAX_MINES];
    private final Engine[] engines = new Engine[MAX_ENGINES];
    private final Reading[] readings = new Reading[MAX_READINGS];
    private final Sheet[] sheets = new Sheet[MAX_SHEETS];
    private final int[] yearRead = new int[YEAR];
    private final Tape tape = new Tape();
    private final Scribe scribe = new Scribe(tape);
    private final Rider rider = new Rider();
    private final Choice choice = new Choice();
    private Bargains bargains = new Bargains();
    private Bargains draft = new Bargains();
    private int now;
    private int mineCount;
    private int engineCount;
    private int readingCount;
    private int tornFault;

    public SavedThird() {
        now = 0;
    }

    // ---- mines, engines

    public int mine(int x, int y, int depth, int coin) {
        if (!within(x, 0, 99) || !within(y, 0, 99) || !isDepth(depth) || !isCoin(coin)) {
            return BAD;
        }
        if (mineCount < 0 || mineCount >= MAX_MINES) {
            return FULL;
        }
        mines[mineCount] = new Mine(x, y, depth, coin);
        mineCount++;
        return mineCount - 1;
    }

    public int water(int m, int month, int v) {
        Mine mine = mineOf(m);
        if (mine == null || !within(month, 0, YEAR - 1) || !isWater(v)) {
            return BAD;
        }
        int was = mine.water[month];
        mine.water[month] = v;
        return was;
    }

    public int change(int m, int which, int v) {
        Mine mine = mineOf(m);
        if (mine == null) {
            return BAD;
        }
        if (which == 0 && isDepth(v)) {
            int was = mine.depth;
            mine.depth = v;
            return was;
        }
        if (which == 1 && isCoin(v)) {
            int was = mine.coin;
            mine.coin = v;
            return was;
        }
        return BAD;
    }

    public int engine(int m, int kind, int load, int duty, int most, int parts) {
        Mine mine = mineOf(m);
        if (mine == null || !within(kind, 0, PIRATE) || !isLoad(load) || !isFourFigures(duty)
                || !isFourFigures(most) || !within(parts, 0, 255)) {
            return BAD;
        }
        if (engineCount < 0 || engineCount >= MAX_ENGINES) {
            return FULL;
        }
        Engine engine = new Engine(kind, load, duty, most, parts);
        engine.comeTo(m, engineCount, now);
        mine.latest = engine;
        engines[engineCount] = engine;
        engineCount++;
        return engineCount - 1;
    }

    public int of(int e, int what) {
        Engine engine = engineOf(e);
        if (engine == null) {
            return BAD;
        }
        switch (what) {
            case 0: return engine.mine;
            case 1: return engine.kind;
            case 2: return engine.load;
            case 3: return engine.duty;
            case 4: return engine.most;
            case 5: return engine.parts;
            case 6: return engine.age;
            case 7: return engine.box;
            case 8: return bit(engine.stuck);
            case 9: return bit(isWorking(engine));
            case 10: return bit(engine.stopped);
            case 11: return engine.strokes;
            case 12: return engine.coal;
            default: return BAD;
        }
    }

    public int stick(int e, boolean is) {
        Engine engine = engineOf(e);
        if (engine == null) {
            return BAD;
        }
        boolean was = engine.stuck;
        engine.stuck = is;
        return bit(was);
    }

    public int mend(int e) {
        Engine engine = engineOf(e);
        if (engine == null) {
            return BAD;
        }
        int was = engine.age;
        engine.age = 0;
        return was;
    }

    public int month() {
        if (now >= MONTHS) {
            return FULL;
        }
        int wet = 0;
        for (int m = 0; m < MAX_MINES; m++) {
            Mine mine = mineOf(m);
            if (mine != null && mine.goThrough(now)) {
                wet++;
            }
        }
        now++;
        return wet;
    }

    public int was(int m, int month, int what) {
        Mine mine = mineOf(m);
        if (mine == null || !within(month, 0, now - 1) || !within(what, 0, Mine.FACTS - 1)) {
            return BAD;
        }
        return mine.noted(month, what);
    }

    public int at(int m, int what) {
        Mine mine = mineOf(m);
        if (mine == null) {
            return BAD;
        }
        Engine works = mine.working();
        switch (what) {
            case 0: return mine.depth;
            case 1: return mine.coin;
            case 2: return works == null ? NONE : works.number;
            case 3: return works == null ? NONE : works.needFor(mine.waterIn(now), mine.depth);
            case 4: return mine.wetMonths;
            case 5: return mine.unread(now);
            default: return BAD;
        }
    }

    public int trial(int m, int s, int l, int c) {
        Mine mine = mineOf(m);
        if (mine == null || !isFourFigures(s) || !isLoad(l) || !isFourFigures(c)) {
            return BAD;
        }
        mine.trial = new Trial(s, l, c, mine.depth);
        return mine.trial.oldCoal(1000, l);
    }

    // ---- bargains

    public int feed(long v) {
        return tape.append(v) ? tape.length : FULL;
    }

    public int end(int n) {
        if (!within(n, 0, tape.length)) {
            return BAD;
        }
        int had = tape.length;
        tape.length = n;
        return had;
    }

    public int text() {
        boolean told = scribe.copy(draft);
        tape.length = 0;
        if (!told) {
            return -10 - scribe.place;
        }
        // The old lines' rows are kept for the next text, so that a text makes no new ones.
        Bargains old = bargains;
        bargains = draft;
        draft = old;
        return bargains.count;
    }

    public int fault() {
        return scribe.fault;
    }

    public int rule(int m, int month, int what) {
        if (!within(m, 0, MAX_MINES - 1) || !within(month, 0, MONTHS)) {
            return BAD;
        }
        if (within(what, ASK_FROM, ASK_FROM + PARTS - 1)) {
            return bargains.untilOf(what - ASK_FROM, month);
        }
        switch (what) {
            case 0: return bargains.shareOf(m, month);
            case 1: return bargains.fixedOf(m, month);
            case 2: return bargains.stopOf(m, month);
            case 3: return bargains.againOf(m, month);
            case 4: return bit(bargains.isWide(month));
            default: return BAD;
        }
    }

    // ---- readings, sums

    public int read(int m) {
        Mine mine = mineOf(m);
        if (mine == null) {
            return BAD;
        }
        Engine works = mine.working();
        if (works == null) {
            return STATE;
        }
        if (readingCount < 0 || readingCount >= MAX_READINGS) {
            return FULL;
        }
        readings[readingCount] = new Reading(mine, works, now);
        works.noteReading(now);
        readingCount++;
        return readingCount - 1;
    }

    public int reading(int k, int what) {
        Reading reading = readingOf(k);
        if (reading == null) {
            return BAD;
        }
        switch (what) {
            case 0: return reading.engine.number;
            case 1: return reading.month;
            case 2: return reading.shown;
            case 3: return reading.months;
            case 4: return reading.least;
            case 5: return reading.most;
            case 6: return reading.coal;
            case 7: return reading.owedFor(reading.least, bargains);
            case 8: return reading.owedFor(reading.most, bargains);
            case 9: return bit(reading.isAgain(bargains));
            default: return BAD;
        }
    }

    public int pay(int m, int coins) {
        Mine mine = mineOf(m);
        if (mine == null || !within(coins, 0, 99999)) {
            return BAD_PAY;
        }
        mine.paid += coins;
        return arrears(m, mine);
    }

    public int owed(int m, int what) {
        Mine mine = mineOf(m);
        if (mine == null) {
            return BAD;
        }
        switch (what) {
            case 0: return owedSum(m, MONTHS, false);
            case 1: return owedSum(m, MONTHS, true);
            case 2: return mine.paid;
            case 3: return Math.max(0, arrears(m, mine));
            case 4: return late(m, mine);
            case 5: return readingsOf(m);
            default: return BAD;
        }
    }

    public int known(int m, int month) {
        if (mineOf(m) == null || !within(month, 0, MONTHS)) {
            return BAD;
        }
        return owedSum(m, month, false);
    }

    public int stop(int m) {
        Mine mine = mineOf(m);
        if (mine == null) {
            return BAD;
        }
        Engine works = mine.working();
        if (works == null || works.kind != NEW || late(m, mine) < bargains.stopOf(m, now)) {
            return STATE;
        }
        works.stopped = true;
        return works.number;
    }

    public int go(int e) {
        Engine engine = engineOf(e);
        if (engine == null) {
            return BAD;
        }
        Mine mine = mineOf(engine.mine);
        if (mine == null || !engine.stopped || mine.latest != engine
                || arrears(engine.mine, mine) > 0) {
            return STATE;
        }
        engine.stopped = false;
        return 1;
    }

    // ---- parts, shares

    public int theirs(int e, int month, int what) {
        Engine engine = engineOf(e);
        if (engine == null || !within(month, 0, MONTHS) || !within(what, 0, 1)) {
            return BAD;
        }
        int claimed = bargains.claimedIn(month);
        if (what == 0) {
            return engine.parts & claimed;
        }
        return bit(engine.isCaught(claimed, bargains.isWide(month)));
    }

    public int shares(int m, int partner, int v) {
        Mine mine = mineOf(m);
        if (mine == null || !isPartner(partner) || !within(v, 0, 99)) {
            return BAD;
        }
        int was = mine.shares[partner];
        mine.shares[partner] = v;
        return was;
    }

    public int deal(int m, int sum, int partner) {
        Mine mine = mineOf(m);
        if (mine == null || !within(sum, 0, 999999) || !isPartner(partner)) {
            return BAD;
        }
        int all = mine.allShares();
        if (all == 0) {
            return NONE;
        }
        return mine.dealtTo(partner, sum, all);
    }

    // ---- choices

    public long brings(int m, int way, int n, int ore, int built) {
        Mine mine = mineOf(m);
        if (mine == null || !within(way, 0, 2) || !isChoice(n, ore, built)) {
            return BAD_BRINGS;
        }
        if (!choice.open(mine, bargains, now, n, ore)) {
            return STATE_BRINGS;
        }
        if (way == 1 && mine.trial == null) {
            return STATE_BRINGS;
        }
        return choice.gain(way, built);
    }

    public int best(int m, int n, int ore, int built) {
        Mine mine = mineOf(m);
        if (mine == null || !isChoice(n, ore, built)) {
            return BAD;
        }
        if (!choice.open(mine, bargains, now, n, ore)) {
            return STATE;
        }
        int bestWay = 0;
        long most = choice.gain(0, built);
        for (int way = 1; way <= 2; way++) {
            boolean canBe = way != 1 || mine.trial != null;
            long gain = choice.gain(way, built);
            if (canBe && gain > most) {
                most = gain;
                bestWay = way;
            }
        }
        return bestWay;
    }

    public int fair(int m, int n, int ore, int built, int what) {
        Mine mine = mineOf(m);
        if (mine == null || !isChoice(n, ore, built) || !within(what, 0, 1)) {
            return BAD;
        }
        if (!choice.open(mine, bargains, now, n, ore) || mine.trial == null) {
            return STATE;
        }
        long least = dividedUp(choice.due(), n);
        long spare = choice.unpaidGain() - choice.gain(1, built);
        long greatest = Math.min(FIXED_MOST, dividedDown(spare, n));
        if (least > greatest) {
            return NONE;
        }
        return (int) (what == 0 ? least : greatest);
    }

    // ---- rounds

    public int round(int m, int what) {
        if (mineOf(m) == null) {
            return BAD;
        }
        boolean asksMine = within(what, ASK_FROM, ASK_FROM + MAX_MINES - 1);
        if (!asksMine && !within(what, 0, 1)) {
            return BAD;
        }
        rider.learn(mines, mineCount, now);
        rider.seek(m);
        if (what == 0) {
            return rider.leastWaiting;
        }
        if (what == 1) {
            return rider.leastDays;
        }
        return rider.leastAt(what - ASK_FROM);
    }

    public int waits(int mines) {
        if (mines < 0 || mineCount == 0) {
            return BAD;
        }
        rider.learn(this.mines, mineCount, now);
        return rider.take(mines) ? rider.waiting() : BAD;
    }

    // ---- sheets

    public int sheet(int k, int lane, int n) {
        if (!isSheet(k) || !isLane(lane) || n > MAX_CELLS) {
            return BAD;
        }
        if (n < 0) {
            return -10 - FAULT_SIZE;
        }
        sheets[k] = new Sheet(lane, n);
        return 1;
    }

    public int lay(int k, int i, int v) {
        if (!isSheet(k)) {
            return BAD;
        }
        Sheet sheet = sheets[k];
        if (sheet == null) {
            return -10 - FAULT_NULL;
        }
        if (!sheet.has(i)) {
            return -10 - FAULT_INDEX;
        }
        sheet.put(i, v);
        return 1;
    }

    public int book(int m, int k, int lane, int f) {
        Mine mine = mineOf(m);
        if (mine == null || !isSheet(k) || !isLane(lane)) {
            return BAD;
        }
        Sheet sheet = sheets[k];
        if (sheet == null) {
            tornFault = FAULT_NULL;
            return 0;
        }
        if (sheet.lane != lane) {
            tornFault = FAULT_CAST;
            return 0;
        }
        return bookFrom(sheet, f, mine);
    }

    public int torn() {
        return tornFault;
    }

    public int count(int what) {
        switch (what) {
            case 0: return now;
            case 1: return mineCount;
            case 2: return engineCount;
            case 3: return enginesWorking();
            case 4: return enginesStopped();
            case 5: return readingCount;
            case 6: return bargains.count;
            case 7: return coalOfAll();
            case 8: return tape.length;
            case 9: return sheets[0] == null ? NONE : sheets[0].cells.length;
            default: return BAD;
        }
    }

    // ---- what may stand in a call

    private static boolean within(int v, int least, int most) {
        return v >= least && v <= most;
    }

    private static boolean isDepth(int v) {
        return within(v, 1, 300);
    }

    private static boolean isCoin(int v) {
        return within(v, 1, 99);
    }

    private static boolean isLoad(int v) {
        return within(v, 1, 99);
    }

    /** DUTY, MOST, and a TRIAL's strokes and coal have the same bounds. */
    private static boolean isFourFigures(int v) {
        return within(v, 1, 9999);
    }

    private static boolean isWater(int v) {
        return within(v, 0, 999);
    }

    private static boolean isPartner(int v) {
        return within(v, 0, PARTNERS - 1);
    }

    private static boolean isSheet(int k) {
        return within(k, 0, MAX_SHEETS - 1);
    }

    private static boolean isLane(int lane) {
        return within(lane, 0, 2);
    }

    private static boolean isChoice(int n, int ore, int built) {
        return within(n, 1, 24) && within(ore, 0, 9999) && within(built, 0, 99999);
    }

    private static int bit(boolean is) {
        return is ? 1 : 0;
    }

    /** The machine's own division goes towards 0, so sums below 0 need floorDiv. */
    private static long dividedDown(long sum, long by) {
        return by <= 0 ? 0 : Math.floorDiv(sum, by);
    }

    private static long dividedUp(long sum, long by) {
        return by <= 0 ? 0 : -Math.floorDiv(-sum, by);
    }

    private Mine mineOf(int m) {
        return within(m, 0, mineCount - 1) && m < MAX_MINES ? mines[m] : null;
    }

    private Engine engineOf(int e) {
        return within(e, 0, engineCount - 1) && e < MAX_ENGINES ? engines[e] : null;
    }

    private Reading readingOf(int k) {
        return within(k, 0, readingCount - 1) && k < MAX_READINGS ? readings[k] : null;
    }

    private boolean isWorking(Engine engine) {
        Mine mine = mineOf(engine.mine);
        return mine != null && mine.working() == engine;
    }

    // ---- sums over the books

    private int enginesWorking() {
        int all = 0;
        for (int e = 0; e < MAX_ENGINES; e++) {
            Engine engine = engineOf(e);
            if (engine != null && isWorking(engine)) {
                all++;
            }
        }
        return all;
    }

    private int enginesStopped() {
        int all = 0;
        for (int e = 0; e < MAX_ENGINES; e++) {
            Engine engine = engineOf(e);
            if (engine != null && engine.stopped) {
                all++;
            }
        }
        return all;
    }

    private int coalOfAll() {
        int all = 0;
        for (int e = 0; e < MAX_ENGINES; e++) {
            Engine engine = engineOf(e);
            if (engine != null) {
                all += engine.coal;
            }
        }
        return all;
    }

    private int readingsOf(int m) {
        int all = 0;
        for (int k = 0; k < MAX_READINGS; k++) {
            Reading reading = readingOf(k);
            if (reading != null && reading.engine.mine == m) {
                all++;
            }
        }
        return all;
    }

    private int owedSum(int m, int upToMonth, boolean atMost) {
        int sum = 0;
        for (int k = 0; k < MAX_READINGS; k++) {
            Reading reading = readingOf(k);
            if (reading != null && reading.engine.mine == m && reading.month <= upToMonth) {
                sum += reading.owedFor(atMost ? reading.most : reading.least, bargains);
            }
        }
        return sum;
    }

    private int arrears(int m, Mine mine) {
        return owedSum(m, MONTHS, false) - mine.paid;
    }

    private int late(int m, Mine mine) {
        int sum = 0;
        for (int k = 0; k < MAX_READINGS; k++) {
            Reading reading = readingOf(k);
            if (reading != null && reading.engine.mine == m) {
                sum += reading.owedFor(reading.least, bargains);
                if (sum > mine.paid) {
                    return now - reading.month;
                }
            }
        }
        return 0;
    }

    /** How many months of WATER the SHEET gave; a cell that is no WATER leaves every month as it was. */
    private int bookFrom(Sheet sheet, int f, Mine mine) {
        int months = 0;
        for (int i = 0; i < YEAR && sheet.has(f + i); i++) {
            int v = sheet.cell(f + i);
            if (!isWater(v)) {
                return -20 - i;
            }
            yearRead[i] = v;
            months++;
        }
        System.arraycopy(yearRead, 0, mine.water, 0, months);
        tornFault = months < YEAR ? FAULT_INDEX : 0;
        return months;
    }

    /** A mine, its water, what was in its months, and its cost book. */
    private static final class Mine {
        static final int STROKES = 0, COAL = 1, WET = 2, WORKED = 3, DEPTH = 4, COIN = 5, FACTS = 6;

        final int x;
        final int y;
        final int[] water = new int[YEAR];
        final int[] shares = new int[PARTNERS];
        final int[] past = new int[FACTS * MONTHS];
        int depth;
        int coin;
        int wetMonths;
        int paid;
        Trial trial;
        Engine latest;

        Mine(int x, int y, int depth, int coin) {
            this.x = x;
            this.y = y;
            this.depth = depth;
            this.coin = coin;
            // Months ahead of the mine's coming are never written: they must not tell of ENGINE 0.
            for (int month = 0; month < MONTHS; month++) {
                past[WORKED * MONTHS + month] = NONE;
            }
        }

        Engine working() {
            return latest == null || latest.stopped ? null : latest;
        }

        int waterIn(int month) {
            return water[Math.floorMod(month, YEAR)];
        }

        int unread(int now) {
            Engine works = working();
            return works == null ? 0 : now - works.readMonth;
        }

        /** The month goes and is written down: whether the mine was wet in it. */
        boolean goThrough(int month) {
            int flow = waterIn(month);
            Engine works = working();
            boolean wet = flow > 0;
            int strokes = 0;
            int coal = 0;
            int worked = NONE;
            if (works != null) {
                int need = works.needFor(flow, depth);
                wet = need > works.most;
                strokes = Math.min(need, works.most);
                coal = works.coalFor(strokes, works.duty, works.age);
                worked = works.number;
                works.work(strokes, coal);
            }
            note(month, STROKES, strokes);
            note(month, COAL, coal);
            note(month, WET, bit(wet));
            note(month, WORKED, worked);
            note(month, DEPTH, depth);
            note(month, COIN, coin);
            wetMonths += bit(wet);
            return wet;
        }

        private void note(int month, int what, int v) {
            if (within(month, 0, MONTHS - 1) && within(what, 0, FACTS - 1)) {
                past[what * MONTHS + month] = v;
            }
        }

        int noted(int month, int what) {
            if (!within(month, 0, MONTHS - 1) || !within(what, 0, FACTS - 1)) {
                return 0;
            }
            return past[what * MONTHS + month];
        }

        int allShares() {
            int all = 0;
            for (int p = 0; p < PARTNERS; p++) {
                all += shares[p];
            }
            return all;
        }

        int dealtTo(int partner, int sum, int all) {
            long left = sum;
            int holdersAhead = 0;
            for (int p = 0; p < PARTNERS; p++) {
                left -= wholePart(p, sum, all);
                if (p < partner && shares[p] > 0) {
                    holdersAhead++;
                }
            }
            long part = wholePart(partner, sum, all);
            boolean getsOneMore = part(partner) > 0 && holdersAhead < left;
            return (int) (getsOneMore ? part + 1 : part);
        }

        private long wholePart(int partner, int sum, int all) {
            return dividedDown((long) sum * part(partner), all);
        }

        private int part(int partner) {
            return isPartner(partner) ? shares[partner] : 0;
        }
    }

    /** An engine, its box, and what the latest reading of it found. */
    private static final class Engine {
        final int kind;
        final int load;
        final int duty;
        final int most;
        final int parts;
        int mine;
        int number;
        int age;
        int box;
        boolean stuck;
        boolean stopped;
        int strokes;
        int coal;
        int readMonth;
        int readShown;
        int readCoal;

        Engine(int kind, int load, int duty, int most, int parts) {
            this.kind = kind;
            this.load = load;
            this.duty = duty;
            this.most = most;
            this.parts = parts;
        }

        /** Its coming counts as a reading that showed 0. */
        void comeTo(int itsMine, int itsNumber, int now) {
            mine = itsMine;
            number = itsNumber;
            readMonth = now;
        }

        void noteReading(int now) {
            readMonth = now;
            readShown = box;
            readCoal = coal;
        }

        int needFor(int flow, int depth) {
            return (int) dividedUp((long) flow * depth, load);
        }

        /** DUTY and AGE are told, for a CHOICE asks for those of other months and other engines. */
        int coalFor(int someStrokes, int someDuty, int someAge) {
            long worn = Math.max(1, dividedDown((long) someDuty * 100, 100L + someAge));
            return (int) dividedUp((long) someStrokes * load, worn);
        }

        void work(int someStrokes, int someCoal) {
            strokes += someStrokes;
            coal += someCoal;
            age++;
            if (!stuck) {
                box = Math.floorMod(box + someStrokes, BOX_ROUND);
            }
        }

        boolean isCaught(int claimed, boolean wide) {
            if (kind != PIRATE) {
                return false;
            }
            if (wide) {
                return (parts & claimed) != 0;
            }
            return claimed != 0 && (parts & claimed) == claimed;
        }
    }

    /** What the old engine burned. */
    private static final class Trial {
        final int strokes;
        final int load;
        final int coal;
        final int depth;

        Trial(int strokes, int load, int coal, int depth) {
            this.strokes = strokes;
            this.load = load;
            this.coal = coal;
            this.depth = depth;
        }

        int oldCoal(int someStrokes, int someLoad) {
            long burned = dividedDown((long) someStrokes * someLoad * coal, (long) strokes * load);
            return (int) Math.min(OLD_COAL_MOST, burned);
        }

        int duty() {
            return (int) Math.max(1, dividedDown((long) strokes * load, coal));
        }

        /** The how manieth part of the coal saved, in coins. */
        int shareOfSaved(int someStrokes, int someLoad, int burned, int coin, int part) {
            int saved = Math.max(0, oldCoal(someStrokes, someLoad) - burned);
            return (int) dividedDown((long) saved * coin, part);
        }
    }

    /** A reading, and all that was known when it was made. */
    private static final class Reading {
        final Engine engine;
        final Trial trial;
        final int month;
        final int shown;
        final int months;
        final int least;
        final int most;
        final int coal;
        final int coin;
        final int depth;

        Reading(Mine mine, Engine engine, int now) {
            this.engine = engine;
            this.trial = mine.trial;
            this.month = now;
            this.shown = engine.box;
            this.months = now - engine.readMonth;
            this.least = Math.floorMod(engine.box - engine.readShown, BOX_ROUND);
            int room = engine.most * this.months - this.least;
            this.most = this.least + Math.max(0, room / BOX_ROUND) * BOX_ROUND;
            this.coal = engine.coal - engine.readCoal;
            this.coin = mine.noted(now - 1, Mine.COIN);
            this.depth = mine.depth;
        }

        int owedFor(int strokes, Bargains bargains) {
            if (engine.kind != NEW || trial == null || months <= 0) {
                return 0;
            }
            int fixed = bargains.fixedOf(engine.mine, month);
            if (fixed != NONE) {
                return fixed * months;
            }
            int part = bargains.shareOf(engine.mine, month);
            if (part == NONE) {
                return 0;
            }
            return trial.shareOfSaved(strokes, engine.load, coal, coin, part);
        }

        boolean isAgain(Bargains bargains) {
            return trial != null
                    && Math.abs(depth - trial.depth) >= bargains.againOf(engine.mine, month);
        }
    }

    /** The bytes that a text is read from. */
    private static final class Tape {
        final int[] bytes = new int[TAPE_BYTES];
        int length;

        boolean append(long eight) {
            if (length < 0 || length + 8 > TAPE_BYTES) {
                return false;
            }
            for (int i = 0; i < 8; i++) {
                bytes[length + i] = (int) (eight >>> (56 - 8 * i)) & 255;
            }
            length += 8;
            return true;
        }

        /** 0, which begins no TOKEN, behind the end. */
        int byteAt(int place) {
            return place >= 0 && place < length && place < TAPE_BYTES ? bytes[place] : 0;
        }
    }

    /** The lines that a text told. */
    private static final class Bargains {
        static final int SHARE = 0, FIXED = 1, STOP = 2, AGAIN = 3, PART = 4, WIDE = 5, NARROW = 6;
        static final int RULES = 7;
        static final int STOP_ELSE = 3, AGAIN_ELSE = 99;

        // Rules of one group shut each other out: share and fixed, wide and narrow.
        private static final int[] GROUP = {0, 0, 1, 2, 3, 4, 4};

        final int[] froms = new int[MAX_LINES];
        final int[] rules = new int[MAX_LINES];
        final int[] groups = new int[MAX_LINES];
        final int[] keys = new int[MAX_LINES];
        final int[] values = new int[MAX_LINES];
        int count;

        /** key: the MINE or the PART that the line is of; 0 for wide and narrow. */
        void add(int from, int rule, int key, int value) {
            if (count < 0 || count >= MAX_LINES) {
                return;
            }
            froms[count] = from;
            rules[count] = rule;
            groups[count] = groupOf(rule);
            keys[count] = key;
            values[count] = value;
            count++;
        }

        private static int groupOf(int rule) {
            return rule >= 0 && rule < GROUP.length ? GROUP[rule] : NONE;
        }

        boolean isTold(int from, int rule, int key) {
            int group = groupOf(rule);
            for (int i = 0; i < count && i < MAX_LINES; i++) {
                if (froms[i] == from && groups[i] == group && keys[i] == key) {
                    return true;
                }
            }
            return false;
        }

        /** The line that HOLDS, NONE without one. */
        private int holding(int group, int key, int month) {
            int found = NONE;
            int latest = -1;
            for (int i = 0; i < count && i < MAX_LINES; i++) {
                boolean isOfThese = groups[i] == group && keys[i] == key;
                if (isOfThese && froms[i] <= month && froms[i] > latest) {
                    found = i;
                    latest = froms[i];
                }
            }
            return found;
        }

        /** NONE too, if the line that HOLDS is the group's other rule. */
        private int valueOf(int rule, int key, int month) {
            int line = holding(groupOf(rule), key, month);
            if (line < 0 || line >= MAX_LINES || rules[line] != rule) {
                return NONE;
            }
            return values[line];
        }

        int shareOf(int mine, int month) {
            return valueOf(SHARE, mine, month);
        }

        int fixedOf(int mine, int month) {
            return valueOf(FIXED, mine, month);
        }

        int stopOf(int mine, int month) {
            int told = valueOf(STOP, mine, month);
            return told == NONE ? STOP_ELSE : told;
        }

        int againOf(int mine, int month) {
            int told = valueOf(AGAIN, mine, month);
            return told == NONE ? AGAIN_ELSE : told;
        }

        int untilOf(int part, int month) {
            int told = valueOf(PART, part, month);
            return told == NONE ? 0 : told;
        }

        boolean isWide(int month) {
            return valueOf(WIDE, 0, month) != NONE;
        }

        /** The PARTS that are theirs in a month, as bits. */
        int claimedIn(int month) {
            int claimed = 0;
            for (int part = 0; part < PARTS; part++) {
                if (untilOf(part, month) > month) {
                    claimed |= 1 << part;
                }
            }
            return claimed;
        }
    }

    /** Reads a text from the tape, one TOKEN ahead, until its first FAULT. */
    private static final class Scribe {
        private static final int OVER = 0, NAME = 1, NUMBER = 2, SEMICOLON = 3;
        private static final int NO_TOKEN = 1, NOT_HERE = 2, OUT_OF_BOUNDS = 3, TOO_MANY = 4, TOLD = 5;
        private static final int MAX_FIGURES = 4;

        // By rule, share to part: the bounds of its last NUMBER.
        private static final int[] LEAST = {1, 0, 1, 1, 0};
        private static final int[] MOST = {9, 9999, 24, 99, 60};

        int fault;
        int place;
        private final Tape tape;
        private Bargains lines;
        private int kind;
        private int start;
        private int behind;
        private int number;

        Scribe(Tape tape) {
            this.tape = tape;
        }

        /** Whether the text has no FAULT; the lines are whole only then. */
        boolean copy(Bargains to) {
            lines = to;
            lines.count = 0;
            behind = 0;
            fault = 0;
            place = 0;
            if (!takeToken()) {
                return false;
            }
            for (int line = 0; line < MAX_LINES; line++) {
                if (kind == OVER) {
                    return true;
                }
                if (!copyLine()) {
                    return false;
                }
            }
            return kind == OVER || refuse(canBeginLine() ? TOO_MANY : NOT_HERE);
        }

        /** Without this no 17th line has begun, and the TOKEN is a wrong one like any other. */
        private boolean canBeginLine() {
            return isWord("from") || ruleHere() != NONE;
        }

        private boolean refuse(int found) {
            fault = found;
            place = start;
            return false;
        }

        private boolean copyLine() {
            int from = 0;
            if (isWord("from")) {
                if (!takeToken() || !isNumber(0, MONTHS - 1)) {
                    return false;
                }
                from = number;
                if (!takeToken()) {
                    return false;
                }
            }
            int rule = ruleHere();
            if (rule == NONE) {
                return refuse(NOT_HERE);
            }
            if (!copyRule(from, rule)) {
                return false;
            }
            return kind == SEMICOLON ? takeToken() : refuse(NOT_HERE);
        }

        private boolean copyRule(int from, int rule) {
            if (rule == Bargains.WIDE || rule == Bargains.NARROW) {
                if (lines.isTold(from, rule, 0)) {
                    return refuse(TOLD);
                }
                lines.add(from, rule, 0, 0);
                return takeToken();
            }
            if (!takeToken() || !isKey(rule)) {
                return false;
            }
            int key = number;
            if (lines.isTold(from, rule, key)) {
                return refuse(TOLD);
            }
            if (!takeToken() || !isNumber(leastOf(rule), mostOf(rule))) {
                return false;
            }
            lines.add(from, rule, key, number);
            return takeToken();
        }

        /** A MINE's number, or the LETTER of a PART, which is left as a number. */
        private boolean isKey(int rule) {
            if (rule != Bargains.PART) {
                return isNumber(0, MAX_MINES - 1);
            }
            int part = tape.byteAt(start) - 'a';
            if (kind != NAME || behind - start != 1 || !within(part, 0, PARTS - 1)) {
                return refuse(NOT_HERE);
            }
            number = part;
            return true;
        }

        private boolean isNumber(int least, int most) {
            if (kind != NUMBER) {
                return refuse(NOT_HERE);
            }
            return within(number, least, most) || refuse(OUT_OF_BOUNDS);
        }

        private static int leastOf(int rule) {
            return within(rule, 0, LEAST.length - 1) ? LEAST[rule] : 0;
        }

        private static int mostOf(int rule) {
            return within(rule, 0, MOST.length - 1) ? MOST[rule] : 0;
        }

        private int ruleHere() {
            for (int rule = 0; rule < Bargains.RULES; rule++) {
                if (isWord(wordOf(rule))) {
                    return rule;
                }
            }
            return NONE;
        }

        private static String wordOf(int rule) {
            switch (rule) {
                case Bargains.SHARE: return "share";
                case Bargains.FIXED: return "fixed";
                case Bargains.STOP: return "stop";
                case Bargains.AGAIN: return "again";
                case Bargains.PART: return "part";
                case Bargains.WIDE: return "wide";
                default: return "narrow";
            }
        }

        private boolean isWord(String word) {
            if (kind != NAME || behind - start != word.length()) {
                return false;
            }
            for (int i = 0; i < word.length(); i++) {
                if (tape.byteAt(start + i) != word.charAt(i)) {
                    return false;
                }
            }
            return true;
        }

        private boolean takeToken() {
            start = behind;
            while (start < tape.length && tape.byteAt(start) == ' ') {
                start++;
            }
            behind = start;
            if (start >= tape.length) {
                kind = OVER;
                return true;
            }
            int first = tape.byteAt(start);
            if (first == ';') {
                kind = SEMICOLON;
                behind++;
                return true;
            }
            if (isLetter(first)) {
                takeName();
                return true;
            }
            return isFigure(first) ? takeNumber() : refuse(NO_TOKEN);
        }

        private void takeName() {
            kind = NAME;
            while (behind < tape.length && isLetter(tape.byteAt(behind))) {
                behind++;
            }
        }

        private boolean takeNumber() {
            kind = NUMBER;
            number = 0;
            while (behind < tape.length && isFigure(tape.byteAt(behind))) {
                if (behind - start >= MAX_FIGURES) {
                    return refuse(NO_TOKEN);
                }
                number = number * 10 + tape.byteAt(behind) - '0';
                behind++;
            }
            return true;
        }

        private static boolean isLetter(int sign) {
            return sign >= 'a' && sign <= 'z';
        }

        private static boolean isFigure(int sign) {
            return sign >= '0' && sign <= '9';
        }
    }

    /** Months that might come: they are gone through, and nothing in the books is changed. */
    private static final class Choice {
        private Mine mine;
        private Engine works;
        private Bargains bargains;
        private int now;
        private int months;
        private int ore;

        /** Whether an ENGINE works there: without one there is nothing to choose. */
        boolean open(Mine itsMine, Bargains itsBargains, int itsNow, int itsMonths, int itsOre) {
            mine = itsMine;
            works = itsMine.working();
            bargains = itsBargains;
            now = itsNow;
            months = itsMonths;
            ore = itsOre;
            return works != null;
        }

        long gain(int way, int built) {
            if (works == null) {
                return 0;
            }
            if (way == 0) {
                return unpaidGain() - due();
            }
            if (way == 1) {
                return mine.trial == null ? 0 : dryGain(mine.trial.duty(), 0, months) - built;
            }
            int lasts = works.kind == NEW ? bargains.stopOf(works.mine, now) : months;
            return dryGain(works.duty, works.age, lasts);
        }

        /** The working ENGINE goes on all the time, ahead of what is paid for it. */
        long unpaidGain() {
            return works == null ? 0 : dryGain(works.duty, works.age, months);
        }

        /** Ore less coal, by an ENGINE like the working one but for DUTY and AGE; it lasts so many months. */
        private long dryGain(int duty, int age, int lasts) {
            long sum = 0;
            for (int i = 0; i < months; i++) {
                int flow = mine.waterIn(now + i);
                boolean wet = flow > 0;
                if (i < lasts) {
                    int need = works.needFor(flow, mine.depth);
                    int strokes = Math.min(need, works.most);
                    wet = need > works.most;
                    sum -= (long) works.coalFor(strokes, duty, age + i) * mine.coin;
                }
                sum += wet ? 0 : ore;
            }
            return sum;
        }

        /** What the makers have over all the months by what HOLDS now. */
        long due() {
            if (works == null || works.kind != NEW || mine.trial == null) {
                return 0;
            }
            int fixed = bargains.fixedOf(works.mine, now);
            if (fixed != NONE) {
                return (long) fixed * months;
            }
            int part = bargains.shareOf(works.mine, now);
            return part == NONE ? 0 : sharesDue(part);
        }

        private long sharesDue(int part) {
            long sum = 0;
            for (int i = 0; i < months; i++) {
                int strokes = Math.min(works.needFor(mine.waterIn(now + i), mine.depth), works.most);
                int coal = works.coalFor(strokes, works.duty, works.age + i);
                sum += mine.trial.shareOfSaved(strokes, works.load, coal, mine.coin, part);
            }
            return sum;
        }
    }

    /** The agent on a horse. */
    private static final class Rider {
        // 5 MINES behind the first one can stand in so many orders.
        private static final int MAX_ORDERS = 120;

        int leastWaiting;
        int leastDays;
        private final int[] least = new int[MAX_MINES];
        private final int[] order = new int[MAX_MINES];
        private final int[] unread = new int[MAX_MINES];
        private final int[] days = new int[MAX_MINES * MAX_MINES];
        private int count;

        void learn(Mine[] mines, int mineCount, int now) {
            count = Math.max(0, Math.min(mineCount, Math.min(mines.length, MAX_MINES)));
            for (int a = 0; a < count; a++) {
                unread[a] = mines[a] == null ? 0 : mines[a].unread(now);
                for (int b = 0; b < count; b++) {
                    days[a * MAX_MINES + b] = ride(mines[a], mines[b]);
                }
            }
        }

        private static int ride(Mine a, Mine b) {
            if (a == null || b == null) {
                return 0;
            }
            return (int) dividedUp(Math.abs(a.x - b.x) + Math.abs(a.y - b.y), 10);
        }

        /** Tries all ROUNDS by their MINES one by one, so that the first of the least ones is kept. */
        void seek(int first) {
            startFrom(first);
            keep();
            boolean more = stepOn();
            for (int tried = 1; more && tried < MAX_ORDERS; tried++) {
                if (waiting() < leastWaiting) {
                    keep();
                }
                more = stepOn();
            }
        }

        private void startFrom(int first) {
            order[0] = first;
            int place = 1;
            for (int mine = 0; mine < count && place < MAX_MINES; mine++) {
                if (mine != first) {
                    order[place] = mine;
                    place++;
                }
            }
        }

        private void keep() {
            leastWaiting = waiting();
            leastDays = 0;
            for (int place = 1; place < count; place++) {
                leastDays += daysTo(place);
            }
            System.arraycopy(order, 0, least, 0, MAX_MINES);
        }

        /** The next order of all MINES behind the first one: whether there is one. */
        private boolean stepOn() {
            int turn = count - 2;
            while (turn >= 1 && order[turn] > order[turn + 1]) {
                turn--;
            }
            if (turn < 1) {
                return false;
            }
            int other = count - 1;
            while (other > turn && order[other] < order[turn]) {
                other--;
            }
            swap(turn, other);
            int low = turn + 1;
            for (int high = count - 1; low < high; high--) {
                swap(low, high);
                low++;
            }
            return true;
        }

        private void swap(int a, int b) {
            if (within(a, 0, MAX_MINES - 1) && within(b, 0, MAX_MINES - 1)) {
                int kept = order[a];
                order[a] = order[b];
                order[b] = kept;
            }
        }

        /** From the MINE ahead in the order. */
        private int daysTo(int place) {
            if (!within(place, 1, MAX_MINES - 1)) {
                return 0;
            }
            int from = order[place - 1];
            int to = order[place];
            boolean known = within(from, 0, MAX_MINES - 1) && within(to, 0, MAX_MINES - 1);
            return known ? days[from * MAX_MINES + to] : 0;
        }

        int waiting() {
            int day = 0;
            int sum = 0;
            for (int place = 1; place < count && place < MAX_MINES; place++) {
                int mine = order[place];
                day += daysTo(place);
                sum += within(mine, 0, MAX_MINES - 1) ? unread[mine] * day : 0;
            }
            return sum;
        }

        int leastAt(int i) {
            return i >= 0 && i < count && i < MAX_MINES ? least[i] : NONE;
        }

        /** Takes a ROUND told by figures: whether each MINE is there once. */
        boolean take(int figures) {
            int left = figures;
            int seen = 0;
            for (int place = count - 1; place >= 0; place--) {
                int mine = left % 10;
                left /= 10;
                boolean isFirst = mine >= 0 && mine < count && (seen >> mine & 1) == 0;
                if (!isFirst) {
                    return false;
                }
                seen |= 1 << mine;
                order[place] = mine;
            }
            return left == 0;
        }
    }

    /** A row of cells; its lane says how many of a number's lowest bits a cell keeps. */
    private static final class Sheet {
        final int lane;
        final int[] cells;

        Sheet(int lane, int n) {
            this.lane = lane;
            this.cells = new int[Math.max(0, Math.min(n, MAX_CELLS))];
        }

        boolean has(int i) {
            return within(i, 0, cells.length - 1);
        }

        void put(int i, int v) {
            if (has(i)) {
                cells[i] = lane == 0 ? (byte) v : lane == 1 ? (short) v : v;
            }
        }

        int cell(int i) {
            return has(i) ? cells[i] : 0;
        }
    }
}
