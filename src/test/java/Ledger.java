import java.lang.reflect.Array;
import java.nio.ByteBuffer;
import java.util.ArrayList;
import java.util.Arrays;
import java.util.Comparator;
import java.util.HashSet;
import java.util.List;
import java.util.Optional;
import java.util.Set;
import java.util.regex.Matcher;
import java.util.regex.Pattern;

/**
 * A second reading of the document, to be compared with the class: it keeps a journal and reckons each answer anew
 * from it, tries all sums and all rounds, and lets the machine itself find the faults of sheets. Where the document
 * leaves room it takes what NOTES.md says, so it can not tell whether that was meant.
 */
final class Ledger {
    private static final int BAD = -1, STATE = -2, FULL = -3, NONE = -4;
    private static final List<String> RULES = List.of("share", "fixed", "stop", "again", "part", "wide", "narrow");
    private static final Pattern TOKEN = Pattern.compile(" *([a-z]+|[0-9]+|;)");

    private record Worked(int month, int strokes, int coal, boolean shown) { }

    private record Past(int strokes, int coal, boolean wet, int engine, int depth, int coin) { }

    private record Trial(int s, int l, int c, int depth) { }

    private record Line(int from, String rule, int key, int value) { }

    private record Token(String word, int place) { }

    private static final class Mine {
        int x, y, depth, coin, came, paid;
        int[] water = new int[12];
        int[] shares = new int[8];
        List<Past> past = new ArrayList<>();
        List<Trial> trials = new ArrayList<>();
    }

    private static final class Engine {
        int mine, kind, load, duty, most, parts, came, mended;
        boolean stuck, stopped;
        List<Worked> worked = new ArrayList<>();
    }

    private record Reading(int engine, int month, int shown, int trials, int depth) { }

    private static final class Fault extends Exception {
        private static final long serialVersionUID = 1L;
        final int number, place;

        Fault(int number, int place) {
            this.number = number;
            this.place = place;
        }
    }

    private int now, fault, torn;
    private final List<Mine> mines = new ArrayList<>();
    private final List<Engine> engines = new ArrayList<>();
    private final List<Reading> readings = new ArrayList<>();
    private final StringBuilder tape = new StringBuilder();
    private final Object[] sheets = new Object[4];
    private List<Line> lines = new ArrayList<>();

    private static boolean out(int v, int least, int most) {
        return v < least || v > most;
    }

    private static long up(long a, long b) {
        return a / b + (a % b == 0 ? 0 : 1);
    }

    private boolean noMine(int m) {
        return out(m, 0, mines.size() - 1);
    }

    private boolean noEngine(int e) {
        return out(e, 0, engines.size() - 1);
    }

    private static int bit(boolean is) {
        return is ? 1 : 0;
    }

    // ---- mines, engines

    int mine(int x, int y, int depth, int coin) {
        if (out(x, 0, 99) || out(y, 0, 99) || out(depth, 1, 300) || out(coin, 1, 99)) {
            return BAD;
        }
        if (mines.size() == 6) {
            return FULL;
        }
        Mine mine = new Mine();
        mine.x = x;
        mine.y = y;
        mine.depth = depth;
        mine.coin = coin;
        mine.came = now;
        mines.add(mine);
        return mines.size() - 1;
    }

    int water(int m, int month, int v) {
        if (noMine(m) || out(month, 0, 11) || out(v, 0, 999)) {
            return BAD;
        }
        int was = mines.get(m).water[month];
        mines.get(m).water[month] = v;
        return was;
    }

    int change(int m, int which, int v) {
        if (noMine(m) || out(which, 0, 1) || out(v, 1, which == 0 ? 300 : 99)) {
            return BAD;
        }
        Mine mine = mines.get(m);
        int was = which == 0 ? mine.depth : mine.coin;
        mine.depth = which == 0 ? v : mine.depth;
        mine.coin = which == 1 ? v : mine.coin;
        return was;
    }

    int engine(int m, int kind, int load, int duty, int most, int parts) {
        boolean bad = noMine(m) || out(kind, 0, 2) || out(load, 1, 99) || out(duty, 1, 9999);
        if (bad || out(most, 1, 9999) || out(parts, 0, 255)) {
            return BAD;
        }
        if (engines.size() == 12) {
            return FULL;
        }
        Engine engine = new Engine();
        engine.mine = m;
        engine.kind = kind;
        engine.load = load;
        engine.duty = duty;
        engine.most = most;
        engine.parts = parts;
        engine.came = now;
        engine.mended = now;
        engines.add(engine);
        return engines.size() - 1;
    }

    private int latest(int m) {
        int found = NONE;
        for (int e = 0; e < engines.size(); e++) {
            found = engines.get(e).mine == m ? e : found;
        }
        return found;
    }

    private int works(int m) {
        int e = latest(m);
        return e == NONE || engines.get(e).stopped ? NONE : e;
    }

    private static int age(Engine engine) {
        return (int) engine.worked.stream().filter(w -> w.month >= engine.mended).count();
    }

    private static int box(Engine engine) {
        return engine.worked.stream().filter(Worked::shown).mapToInt(Worked::strokes).sum() % 10000;
    }

    private static int coal(Engine engine, int from) {
        return engine.worked.stream().filter(w -> w.month >= from).mapToInt(Worked::coal).sum();
    }

    int of(int e, int what) {
        if (noEngine(e) || out(what, 0, 12)) {
            return BAD;
        }
        Engine engine = engines.get(e);
        int strokes = engine.worked.stream().mapToInt(Worked::strokes).sum();
        int[] told = {engine.mine, engine.kind, engine.load, engine.duty, engine.most, engine.parts, age(engine),
            box(engine), bit(engine.stuck), bit(works(engine.mine) == e), bit(engine.stopped), strokes, coal(engine, 0)};
        return told[what];
    }

    int stick(int e, boolean is) {
        if (noEngine(e)) {
            return BAD;
        }
        boolean was = engines.get(e).stuck;
        engines.get(e).stuck = is;
        return bit(was);
    }

    int mend(int e) {
        if (noEngine(e)) {
            return BAD;
        }
        int was = age(engines.get(e));
        engines.get(e).mended = now;
        return was;
    }

    private static long need(Mine mine, int month, int load) {
        return up((long) mine.water[month % 12] * mine.depth, load);
    }

    private static long burned(long strokes, int load, long duty, int age) {
        return up(strokes * load, Math.max(1, duty * 100 / (100 + age)));
    }

    int month() {
        if (now == 60) {
            return FULL;
        }
        int wetMines = 0;
        for (int m = 0; m < mines.size(); m++) {
            Mine mine = mines.get(m);
            int e = works(m);
            int strokes = 0;
            int coal = 0;
            boolean wet = mine.water[now % 12] != 0;
            if (e != NONE) {
                Engine engine = engines.get(e);
                long need = need(mine, now, engine.load);
                wet = need > engine.most;
                strokes = (int) Math.min(need, engine.most);
                coal = (int) burned(strokes, engine.load, engine.duty, age(engine));
                engine.worked.add(new Worked(now, strokes, coal, !engine.stuck));
            }
            mine.past.add(new Past(strokes, coal, wet, e, mine.depth, mine.coin));
            wetMines += bit(wet);
        }
        now++;
        return wetMines;
    }

    int was(int m, int month, int what) {
        if (noMine(m) || out(month, 0, now - 1) || out(what, 0, 5)) {
            return BAD;
        }
        Mine mine = mines.get(m);
        if (month < mine.came) {
            return what == 3 ? NONE : 0;
        }
        Past past = mine.past.get(month - mine.came);
        int[] told = {past.strokes, past.coal, bit(past.wet), past.engine, past.depth, past.coin};
        return told[what];
    }

    private int readAhead(int e) {
        int month = engines.get(e).came;
        for (Reading reading : readings) {
            month = reading.engine == e ? reading.month : month;
        }
        return month;
    }

    private int unread(int m) {
        return works(m) == NONE ? 0 : now - readAhead(works(m));
    }

    int at(int m, int what) {
        if (noMine(m) || out(what, 0, 5)) {
            return BAD;
        }
        Mine mine = mines.get(m);
        int e = works(m);
        int need = e == NONE ? NONE : (int) need(mine, now, engines.get(e).load);
        int wet = (int) mine.past.stream().filter(Past::wet).count();
        int[] told = {mine.depth, mine.coin, e, need, wet, unread(m)};
        return told[what];
    }

    private static long oldCoal(Trial trial, long strokes, int load) {
        return Math.min(100000, strokes * load * trial.c / ((long) trial.s * trial.l));
    }

    int trial(int m, int s, int l, int c) {
        if (noMine(m) || out(s, 1, 9999) || out(l, 1, 99) || out(c, 1, 9999)) {
            return BAD;
        }
        Trial trial = new Trial(s, l, c, mines.get(m).depth);
        mines.get(m).trials.add(trial);
        return (int) oldCoal(trial, 1000, l);
    }

    // ---- bargains

    int feed(long v) {
        if (tape.length() + 8 > 200) {
            return FULL;
        }
        for (byte b : ByteBuffer.allocate(8).putLong(v).array()) {
            tape.append((char) (b & 255));
        }
        return tape.length();
    }

    int end(int n) {
        if (out(n, 0, tape.length())) {
            return BAD;
        }
        int had = tape.length();
        tape.setLength(n);
        return had;
    }

    int text() {
        String text = tape.toString();
        tape.setLength(0);
        fault = 0;
        try {
            lines = linesOf(text);
            return lines.size();
        } catch (Fault found) {
            fault = found.number;
            return -10 - found.place;
        }
    }

    private static Token tokenAt(String text, int from) throws Fault {
        Matcher matcher = TOKEN.matcher(text).region(from, text.length());
        if (matcher.lookingAt()) {
            String word = matcher.group(1);
            if (Character.isDigit(word.charAt(0)) && word.length() > 4) {
                throw new Fault(1, matcher.start(1));
            }
            return new Token(word, matcher.start(1));
        }
        int place = from;
        while (place < text.length() && text.charAt(place) == ' ') {
            place++;
        }
        if (place == text.length()) {
            return new Token("", place);
        }
        throw new Fault(1, place);
    }

    private static Token behind(String text, Token token) throws Fault {
        return tokenAt(text, token.place + token.word.length());
    }

    private static int number(Token token, int least, int most) throws Fault {
        if (token.word.isEmpty() || !Character.isDigit(token.word.charAt(0))) {
            throw new Fault(2, token.place);
        }
        int v = Integer.parseInt(token.word);
        if (out(v, least, most)) {
            throw new Fault(3, token.place);
        }
        return v;
    }

    private static String family(String rule) {
        return rule.equals("fixed") ? "share" : rule.equals("narrow") ? "wide" : rule;
    }

    private static void untold(List<Line> told, int from, String rule, int key, Token token) throws Fault {
        for (Line line : told) {
            if (line.from == from && family(line.rule).equals(family(rule)) && line.key == key) {
                throw new Fault(5, token.place);
            }
        }
    }

    private static List<Line> linesOf(String text) throws Fault {
        List<Line> told = new ArrayList<>();
        Token token = tokenAt(text, 0);
        while (!token.word.isEmpty()) {
            boolean begins = token.word.equals("from") || RULES.contains(token.word);
            if (told.size() == 16 && begins) {
                throw new Fault(4, token.place);
            }
            int from = 0;
            if (token.word.equals("from")) {
                token = behind(text, token);
                from = number(token, 0, 59);
                token = behind(text, token);
            }
            String rule = token.word;
            if (!RULES.contains(rule)) {
                throw new Fault(2, token.place);
            }
            int key = -1;
            int value = -1;
            if (rule.equals("wide") || rule.equals("narrow")) {
                untold(told, from, rule, key, token);
            } else {
                token = behind(text, token);
                if (rule.equals("part")) {
                    if (!token.word.matches("[a-h]")) {
                        throw new Fault(2, token.place);
                    }
                    key = token.word.charAt(0) - 'a';
                } else {
                    key = number(token, 0, 5);
                }
                untold(told, from, rule, key, token);
                token = behind(text, token);
                value = valueOf(rule, token);
            }
            token = behind(text, token);
            if (!token.word.equals(";")) {
                throw new Fault(2, token.place);
            }
            told.add(new Line(from, rule, key, value));
            token = behind(text, token);
        }
        return told;
    }

    private static int valueOf(String rule, Token token) throws Fault {
        return switch (rule) {
            case "share" -> number(token, 1, 9);
            case "fixed" -> number(token, 0, 9999);
            case "stop" -> number(token, 1, 24);
            case "again" -> number(token, 1, 99);
            default -> number(token, 0, 60);
        };
    }

    int fault() {
        return fault;
    }

    private Optional<Line> holds(String rule, int key, int month) {
        return lines.stream()
            .filter(line -> family(line.rule).equals(family(rule)) && line.key == key && line.from <= month)
            .max(Comparator.comparingInt(Line::from))
            .filter(line -> line.rule.equals(rule));
    }

    private int told(String rule, int key, int month, int otherwise) {
        return holds(rule, key, month).map(Line::value).orElse(otherwise);
    }

    int rule(int m, int month, int what) {
        if (out(m, 0, 5) || out(month, 0, 60) || out(what, 0, 17) || !out(what, 5, 9)) {
            return BAD;
        }
        return switch (what) {
            case 0 -> told("share", m, month, NONE);
            case 1 -> told("fixed", m, month, NONE);
            case 2 -> told("stop", m, month, 3);
            case 3 -> told("again", m, month, 99);
            case 4 -> bit(holds("wide", -1, month).isPresent());
            default -> told("part", what - 10, month, 0);
        };
    }

    // ---- readings, sums

    int read(int m) {
        if (noMine(m)) {
            return BAD;
        }
        int e = works(m);
        if (e == NONE) {
            return STATE;
        }
        if (readings.size() == 60) {
            return FULL;
        }
        Mine mine = mines.get(m);
        readings.add(new Reading(e, now, box(engines.get(e)), mine.trials.size(), mine.depth));
        return readings.size() - 1;
    }

    private Optional<Reading> ahead(int k) {
        Optional<Reading> found = Optional.empty();
        for (int i = 0; i < k; i++) {
            if (readings.get(i).engine == readings.get(k).engine) {
                found = Optional.of(readings.get(i));
            }
        }
        return found;
    }

    private int begin(int k) {
        return ahead(k).map(Reading::month).orElse(engines.get(readings.get(k).engine).came);
    }

    private int strokes(int k, boolean atMost) {
        Reading reading = readings.get(k);
        int strokes = reading.shown - ahead(k).map(Reading::shown).orElse(0);
        strokes += strokes < 0 ? 10000 : 0;
        int room = engines.get(reading.engine).most * (reading.month - begin(k));
        while (atMost && strokes + 10000 <= room) {
            strokes += 10000;
        }
        return strokes;
    }

    private int coalOf(int k) {
        Reading reading = readings.get(k);
        return engines.get(reading.engine).worked.stream()
            .filter(w -> w.month >= begin(k) && w.month < reading.month).mapToInt(Worked::coal).sum();
    }

    private Trial trialOf(int k) {
        Reading reading = readings.get(k);
        List<Trial> trials = mines.get(engines.get(reading.engine).mine).trials;
        return reading.trials == 0 ? null : trials.get(reading.trials - 1);
    }

    private long owedFor(int k, boolean atMost) {
        Reading reading = readings.get(k);
        Engine engine = engines.get(reading.engine);
        int months = reading.month - begin(k);
        Trial trial = trialOf(k);
        if (engine.kind != 1 || trial == null || months == 0) {
            return 0;
        }
        int fixed = told("fixed", engine.mine, reading.month, NONE);
        int share = told("share", engine.mine, reading.month, NONE);
        if (fixed != NONE) {
            return (long) fixed * months;
        }
        if (share == NONE) {
            return 0;
        }
        long saved = oldCoal(trial, strokes(k, atMost), engine.load) - coalOf(k);
        return Math.max(0, saved) * was(engine.mine, reading.month - 1, 5) / share;
    }

    private boolean again(int k) {
        Reading reading = readings.get(k);
        int by = told("again", engines.get(reading.engine).mine, reading.month, 99);
        return trialOf(k) != null && Math.abs(reading.depth - trialOf(k).depth) >= by;
    }

    int reading(int k, int what) {
        if (out(k, 0, readings.size() - 1) || out(what, 0, 9)) {
            return BAD;
        }
        Reading reading = readings.get(k);
        long[] told = {reading.engine, reading.month, reading.shown, reading.month - begin(k), strokes(k, false),
            strokes(k, true), coalOf(k), owedFor(k, false), owedFor(k, true), bit(again(k))};
        return (int) told[what];
    }

    private List<Integer> readingsOf(int m) {
        List<Integer> found = new ArrayList<>();
        for (int k = 0; k < readings.size(); k++) {
            if (engines.get(readings.get(k).engine).mine == m) {
                found.add(k);
            }
        }
        return found;
    }

    private long owedTo(int m, int month, boolean atMost) {
        return readingsOf(m).stream().filter(k -> readings.get(k).month <= month)
            .mapToLong(k -> owedFor(k, atMost)).sum();
    }

    int pay(int m, int coins) {
        if (noMine(m) || out(coins, 0, 99999)) {
            return -1000000;
        }
        mines.get(m).paid += coins;
        return (int) owedTo(m, 60, false) - mines.get(m).paid;
    }

    private int late(int m) {
        long sum = 0;
        for (int k : readingsOf(m)) {
            sum += owedFor(k, false);
            if (sum > mines.get(m).paid) {
                return now - readings.get(k).month;
            }
        }
        return 0;
    }

    int owed(int m, int what) {
        if (noMine(m) || out(what, 0, 5)) {
            return BAD;
        }
        long least = owedTo(m, 60, false);
        int paid = mines.get(m).paid;
        long[] told = {least, owedTo(m, 60, true), paid, Math.max(0, least - paid), late(m), readingsOf(m).size()};
        return (int) told[what];
    }

    int known(int m, int month) {
        return noMine(m) || out(month, 0, 60) ? BAD : (int) owedTo(m, month, false);
    }

    int stop(int m) {
        if (noMine(m)) {
            return BAD;
        }
        int e = works(m);
        if (e == NONE || engines.get(e).kind != 1 || late(m) < told("stop", m, now, 3)) {
            return STATE;
        }
        engines.get(e).stopped = true;
        return e;
    }

    int go(int e) {
        if (noEngine(e)) {
            return BAD;
        }
        Engine engine = engines.get(e);
        long arrears = owedTo(engine.mine, 60, false) - mines.get(engine.mine).paid;
        if (!engine.stopped || latest(engine.mine) != e || arrears > 0) {
            return STATE;
        }
        engine.stopped = false;
        return 1;
    }

    // ---- parts, shares

    private Set<Integer> theirsIn(int month) {
        Set<Integer> found = new HashSet<>();
        for (int p = 0; p < 8; p++) {
            if (told("part", p, month, 0) > month) {
                found.add(p);
            }
        }
        return found;
    }

    int theirs(int e, int month, int what) {
        if (noEngine(e) || out(month, 0, 60) || out(what, 0, 1)) {
            return BAD;
        }
        Set<Integer> theirs = theirsIn(month);
        Set<Integer> among = new HashSet<>();
        for (int p : theirs) {
            if ((engines.get(e).parts >> p & 1) == 1) {
                among.add(p);
            }
        }
        if (what == 0) {
            return among.stream().mapToInt(p -> 1 << p).sum();
        }
        boolean wide = holds("wide", -1, month).isPresent();
        boolean caught = wide ? !among.isEmpty() : !theirs.isEmpty() && among.equals(theirs);
        return bit(engines.get(e).kind == 2 && caught);
    }

    int shares(int m, int partner, int v) {
        if (noMine(m) || out(partner, 0, 7) || out(v, 0, 99)) {
            return BAD;
        }
        int was = mines.get(m).shares[partner];
        mines.get(m).shares[partner] = v;
        return was;
    }

    int deal(int m, int sum, int partner) {
        if (noMine(m) || out(sum, 0, 999999) || out(partner, 0, 7)) {
            return BAD;
        }
        int[] shares = mines.get(m).shares;
        long all = Arrays.stream(shares).sum();
        if (all == 0) {
            return NONE;
        }
        long[] has = new long[8];
        long left = sum;
        for (int p = 0; p < 8; p++) {
            has[p] = sum * (long) shares[p] / all;
            left -= has[p];
        }
        for (int p = 0; left > 0; p = (p + 1) % 8) {
            if (shares[p] > 0) {
                has[p]++;
                left--;
            }
        }
        return (int) has[partner];
    }

    // ---- choices

    private static boolean noChoice(int n, int ore, int built) {
        return out(n, 1, 24) || out(ore, 0, 9999) || out(built, 0, 99999);
    }

    /** Of an ENGINE with that DUTY and AGE in month i from NOW on: ore less COAL times COIN. */
    private long dry(int m, int i, long duty, int age, int ore) {
        Mine mine = mines.get(m);
        Engine engine = engines.get(works(m));
        long need = need(mine, now + i, engine.load);
        long strokes = Math.min(need, engine.most);
        return (need > engine.most ? 0 : ore) - burned(strokes, engine.load, duty, age + i) * mine.coin;
    }

    private Trial latestTrial(int m) {
        List<Trial> trials = mines.get(m).trials;
        return trials.isEmpty() ? null : trials.get(trials.size() - 1);
    }

    private long paidIn(int m, int i) {
        Mine mine = mines.get(m);
        Engine engine = engines.get(works(m));
        Trial trial = latestTrial(m);
        int fixed = told("fixed", m, now, NONE);
        int share = told("share", m, now, NONE);
        if (engine.kind != 1 || trial == null || fixed == NONE && share == NONE) {
            return 0;
        }
        if (fixed != NONE) {
            return fixed;
        }
        long strokes = Math.min(need(mine, now + i, engine.load), engine.most);
        long coal = burned(strokes, engine.load, engine.duty, age(engine) + i);
        return Math.max(0, oldCoal(trial, strokes, engine.load) - coal) * mine.coin / share;
    }

    private long way(int m, int way, int n, int ore, int built) {
        Engine engine = engines.get(works(m));
        Mine mine = mines.get(m);
        long sum = way == 1 ? -built : 0;
        for (int i = 0; i < n; i++) {
            if (way == 1) {
                Trial trial = latestTrial(m);
                sum += dry(m, i, Math.max(1, trial.s * trial.l / trial.c), 0, ore);
            } else if (way == 2 && engine.kind == 1 && i >= told("stop", m, now, 3)) {
                sum += mine.water[(now + i) % 12] > 0 ? 0 : ore;
            } else {
                sum += dry(m, i, engine.duty, age(engine), ore) - (way == 0 ? paidIn(m, i) : 0);
            }
        }
        return sum;
    }

    long brings(int m, int way, int n, int ore, int built) {
        if (noMine(m) || out(way, 0, 2) || noChoice(n, ore, built)) {
            return -10000000000L;
        }
        if (works(m) == NONE || way == 1 && latestTrial(m) == null) {
            return -10000000002L;
        }
        return way(m, way, n, ore, built);
    }

    int best(int m, int n, int ore, int built) {
        if (noMine(m) || noChoice(n, ore, built)) {
            return BAD;
        }
        if (works(m) == NONE) {
            return STATE;
        }
        int best = 0;
        for (int way : latestTrial(m) == null ? new int[] {2} : new int[] {1, 2}) {
            best = way(m, way, n, ore, built) > way(m, best, n, ore, built) ? way : best;
        }
        return best;
    }

    int fair(int m, int n, int ore, int built, int what) {
        if (noMine(m) || noChoice(n, ore, built) || out(what, 0, 1)) {
            return BAD;
        }
        if (works(m) == NONE || latestTrial(m) == null) {
            return STATE;
        }
        long makers = 0;
        for (int i = 0; i < n; i++) {
            makers += paidIn(m, i);
        }
        long unpaid = way(m, 0, n, ore, built) + makers;
        long byOld = way(m, 1, n, ore, built);
        int found = NONE;
        for (int sum = 0; sum <= 9999; sum++) {
            long paid = (long) sum * n;
            if (unpaid - paid >= byOld && paid >= makers && (what == 1 || found == NONE)) {
                found = sum;
            }
        }
        return found;
    }

    // ---- rounds

    private int ride(int a, int b) {
        int far = Math.abs(mines.get(a).x - mines.get(b).x) + Math.abs(mines.get(a).y - mines.get(b).y);
        return (int) up(far, 10);
    }

    private int waiting(List<Integer> round) {
        int day = 0;
        int sum = 0;
        for (int i = 1; i < round.size(); i++) {
            day += ride(round.get(i - 1), round.get(i));
            sum += day * unread(round.get(i));
        }
        return sum;
    }

    private List<List<Integer>> roundsFrom(List<Integer> begun) {
        List<List<Integer>> found = new ArrayList<>();
        if (begun.size() == mines.size()) {
            found.add(begun);
        }
        for (int m = mines.size() - 1; m >= 0; m--) {
            if (!begun.contains(m)) {
                List<Integer> longer = new ArrayList<>(begun);
                longer.add(m);
                found.addAll(roundsFrom(longer));
            }
        }
        return found;
    }

    int round(int m, int what) {
        if (noMine(m) || out(what, 0, 15) || !out(what, 2, 9)) {
            return BAD;
        }
        List<Integer> least = null;
        for (List<Integer> round : roundsFrom(List.of(m))) {
            int by = least == null ? -1 : Integer.compare(waiting(round), waiting(least));
            if (by < 0 || by == 0 && round.toString().compareTo(least.toString()) < 0) {
                least = round;
            }
        }
        if (what >= 10) {
            return what - 10 < mines.size() ? least.get(what - 10) : NONE;
        }
        int days = 0;
        for (int i = 1; i < least.size(); i++) {
            days += ride(least.get(i - 1), least.get(i));
        }
        return what == 0 ? waiting(least) : days;
    }

    int waits(int told) {
        if (told < 0 || mines.isEmpty()) {
            return BAD;
        }
        String figures = String.format("%0" + mines.size() + "d", told);
        List<Integer> round = new ArrayList<>();
        for (char figure : figures.toCharArray()) {
            round.add(figure - '0');
        }
        for (int m = 0; m < mines.size(); m++) {
            if (!round.contains(m)) {
                return BAD;
            }
        }
        return round.size() == mines.size() ? waiting(round) : BAD;
    }

    // ---- sheets

    int sheet(int k, int lane, int n) {
        if (out(k, 0, 3) || out(lane, 0, 2) || n > 48) {
            return BAD;
        }
        try {
            sheets[k] = lane == 0 ? new byte[n] : lane == 1 ? new short[n] : new int[n];
            return 1;
        } catch (NegativeArraySizeException found) {
            return -14;
        }
    }

    int lay(int k, int i, int v) {
        if (out(k, 0, 3)) {
            return BAD;
        }
        try {
            if (sheets[k] instanceof byte[] bytes) {
                bytes[i] = (byte) v;
            } else if (sheets[k] instanceof short[] shorts) {
                shorts[i] = (short) v;
            } else {
                ((int[]) sheets[k])[i] = v;
            }
            return 1;
        } catch (NullPointerException found) {
            return -11;
        } catch (ArrayIndexOutOfBoundsException found) {
            return -12;
        }
    }

    private static int cell(Object sheet, int lane, int i) {
        return lane == 0 ? ((byte[]) sheet)[i] : lane == 1 ? ((short[]) sheet)[i] : ((int[]) sheet)[i];
    }

    int book(int m, int k, int lane, int f) {
        if (noMine(m) || out(k, 0, 3) || out(lane, 0, 2)) {
            return BAD;
        }
        int[] year = mines.get(m).water.clone();
        int months = 0;
        int found = 0;
        try {
            while (months < 12) {
                int v = cell(sheets[k], lane, f + months);
                if (out(v, 0, 999)) {
                    return -20 - months;
                }
                year[months] = v;
                months++;
            }
        } catch (NullPointerException e) {
            found = 1;
        } catch (ArrayIndexOutOfBoundsException e) {
            found = 2;
        } catch (ClassCastException e) {
            found = 3;
        }
        mines.get(m).water = year;
        torn = found;
        return months;
    }

    int torn() {
        return torn;
    }

    int count(int what) {
        if (out(what, 0, 9)) {
            return BAD;
        }
        int working = 0;
        int stopped = 0;
        int coal = 0;
        for (int e = 0; e < engines.size(); e++) {
            working += of(e, 9);
            stopped += of(e, 10);
            coal += of(e, 12);
        }
        int cells = sheets[0] == null ? NONE : Array.getLength(sheets[0]);
        int[] told = {now, mines.size(), engines.size(), working, stopped, readings.size(), lines.size(), coal,
            tape.length(), cells};
        return told[what];
    }
}
