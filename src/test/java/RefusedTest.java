/**
 * "the first that fits; what is refused changes nothing (but THE TAPE, as told)": every call that can be refused,
 * on books that are empty, half full and full. Two objects are built alike, one of them gets the refused call,
 * and all that both can tell must be the same.
 */
public final class RefusedTest {
    private static final int BAD = -1, STATE = -2, FULL = -3, NONE = -4;
    private static final int BAD_PAY = -1000000;
    private static final long BAD_BRINGS = -10000000000L, STATE_BRINGS = -10000000002L;
    private static final int[] FAR = {Integer.MIN_VALUE, Integer.MAX_VALUE};

    private interface Made {
        SavedThird make();
    }

    private interface Call {
        long on(SavedThird x);
    }

    private interface CallWith {
        long on(SavedThird x, int v);
    }

    /** What the books are built by in the tests below. */
    private static Made made;

    public static void main(String[] args) {
        Check.says("BAD, STATE, FULL, NONE, the first that fits; what is refused changes nothing");
        made = SavedThird::new;
        nothingIsThere();
        made = RefusedTest::halfFull;
        builtAsTold();
        boundsOfMinesAndEngines();
        boundsOfWhatIsAsked();
        boundsOfTextsAndSums();
        boundsOfReckonings();
        boundsOfSheets();
        statesOfEngines();
        noneThere();
        sheetsThatTear();
        askingChangesNothing();
        made = RefusedTest::full;
        allIsFull();
        Check.close("RefusedTest");
    }

    // ---- the books

    /**
     * Mine 0: engine 0, NEW, works and is late by 1. Mine 1: engine 1, PIRATE. Mine 2: engine 2, NEW, STOPPED, with
     * arrears. Mine 3: engine 3, NEW, STOPPED, and engine 4, OLD, that works. Mine 4: no engine. NOW is 5.
     */
    private static SavedThird halfFull() {
        SavedThird x = new SavedThird();
        for (int m = 0; m < 5; m++) {
            x.mine(10 * m, 7 * m, 100 + m, 3 + m);
            for (int month = 0; month < 8; month++) {
                x.water(m, month, 100 + 10 * m + month);
            }
        }
        x.engine(0, 1, 20, 400, 1000, 1);
        x.engine(1, 2, 20, 300, 900, 3);
        x.engine(2, 1, 20, 200, 800, 5);
        x.engine(3, 1, 20, 100, 700, 7);
        for (int m = 0; m < 4; m++) {
            if (m != 1) {
                x.trial(m, 1000, 20, 200 + m);
            }
        }
        Check.lay(x, "share 0 3;fixed 2 10;fixed 3 7;stop 2 1;stop 3 1;from 4 stop 0 2;part a 20;wide;");
        x.text();
        Check.months(x, 3);
        x.read(2);
        x.read(3);
        x.stick(1, true);
        x.month();
        x.read(0);
        x.stop(2);
        x.stop(3);
        x.engine(3, 0, 20, 50, 600, 0);
        x.pay(0, 1);
        x.pay(3, 100);
        x.month();
        x.shares(0, 2, 5);
        x.shares(0, 7, 99);
        x.sheet(0, 0, 13);
        x.sheet(1, 1, 48);
        x.sheet(2, 2, 0);
        for (int i = 0; i < 13; i++) {
            x.lay(0, i, 11 + i);
            x.lay(1, i, 500 + i);
        }
        x.lay(1, 11, 1000);
        x.feed(0x736861726520203bL);
        x.end(7);
        return x;
    }

    /** 6 mines, 12 engines, 60 readings, 60 months, 16 lines, 200 bytes. */
    private static SavedThird full() {
        SavedThird x = new SavedThird();
        for (int m = 0; m < 6; m++) {
            x.mine(m, m, 100, 5);
            x.water(m, 0, 100 + m);
            x.trial(m, 1000, 20, 100);
        }
        for (int e = 0; e < 12; e++) {
            x.engine(e / 2, 1, 20, 400, 1000, e);
        }
        Check.lay(x, sixteenLines());
        x.text();
        for (int i = 0; i < 60; i++) {
            x.month();
            x.read(i % 6);
        }
        for (int i = 0; i < 25; i++) {
            x.feed(i == 0 ? 0x776964653b202020L : 0x2020202020202020L);
        }
        return x;
    }

    /** The tests below say something only if the books are as told above. */
    private static void builtAsTold() {
        SavedThird half = halfFull();
        int[] halfCounts = {5, 5, 5, 3, 2, 3, 8, half.count(7), 7, 13};
        for (int what = 0; what < halfCounts.length; what++) {
            Check.due("half full, count " + what, half.count(what), halfCounts[what]);
        }
        Check.due("mine 0 is late", half.owed(0, 4), 1);
        Check.due("stop is 2", half.rule(0, 5, 2), 2);
        Check.holds("mine 2 has arrears", half.owed(2, 3) > 0);
        Check.due("mine 3 has none", half.owed(3, 3), 0);
        SavedThird full = full();
        int[] fullCounts = {60, 6, 12, 6, 0, 60, 16, full.count(7), 200, NONE};
        for (int what = 0; what < fullCounts.length; what++) {
            Check.due("full, count " + what, full.count(what), fullCounts[what]);
        }
    }

    private static String sixteenLines() {
        StringBuilder lines = new StringBuilder("wide;");
        for (int m = 0; m < 6; m++) {
            lines.append("share ").append(m).append(" 3;stop ").append(m).append(" 9;");
        }
        return lines.append("part a 9;part b 9;part c 9;").toString();
    }

    // ---- what is done with them

    private static void refused(String name, long due, Call call) {
        for (int part = 0; part < Look.PARTS; part++) {
            SavedThird refusing = made.make();
            Check.due(name, call.on(refusing), due);
            Check.holds(name + " changes nothing, part " + part,
                    Look.at(refusing, part).equals(Look.at(made.make(), part)));
        }
    }

    private static void asked(String name, Call call) {
        refused(name, call.on(made.make()), call);
    }

    /** The last numbers that are as told are not refused; those behind them are, and the farthest ones. */
    private static void bounds(String name, int least, int greatest, long bad, CallWith call) {
        for (int good : new int[] {least, greatest}) {
            Check.holds(name + " " + good + " is as told", call.on(made.make(), good) != bad);
        }
        for (int wrong : new int[] {least - 1, greatest + 1}) {
            refused(name + " " + wrong, bad, x -> call.on(x, wrong));
        }
        for (int far : FAR) {
            refused(name + " " + far, bad, x -> call.on(x, far));
        }
    }

    // ---- promise 1: there is no MINE, ENGINE, READING, SHEET yet

    private static void nothingIsThere() {
        refused("water", BAD, x -> x.water(0, 0, 1));
        refused("change", BAD, x -> x.change(0, 0, 1));
        refused("engine", BAD, x -> x.engine(0, 0, 1, 1, 1, 0));
        refused("of", BAD, x -> x.of(0, 0));
        refused("stick", BAD, x -> x.stick(0, true));
        refused("mend", BAD, x -> x.mend(0));
        refused("was", BAD, x -> x.was(0, 0, 0));
        refused("at", BAD, x -> x.at(0, 0));
        refused("trial", BAD, x -> x.trial(0, 1, 1, 1));
        refused("end", BAD, x -> x.end(1));
        refused("read", BAD, x -> x.read(0));
        refused("reading", BAD, x -> x.reading(0, 0));
        refused("pay", BAD_PAY, x -> x.pay(0, 0));
        refused("owed", BAD, x -> x.owed(0, 0));
        refused("known", BAD, x -> x.known(0, 0));
        refused("stop", BAD, x -> x.stop(0));
        refused("go", BAD, x -> x.go(0));
        refused("theirs", BAD, x -> x.theirs(0, 0, 0));
        refused("shares", BAD, x -> x.shares(0, 0, 0));
        refused("deal", BAD, x -> x.deal(0, 0, 0));
        refused("brings", BAD_BRINGS, x -> x.brings(0, 0, 1, 0, 0));
        refused("best", BAD, x -> x.best(0, 1, 0, 0));
        refused("fair", BAD, x -> x.fair(0, 1, 0, 0, 0));
        refused("round", BAD, x -> x.round(0, 0));
        refused("waits", BAD, x -> x.waits(0));
        refused("lay", -11, x -> x.lay(0, 0, 0));
        refused("book", BAD, x -> x.book(0, 0, 0, 0));
        refused("count of cells", NONE, x -> x.count(9));
    }

    // ---- "a number is not as told, there is no such MINE, ENGINE, READING, SHEET"

    private static void boundsOfMinesAndEngines() {
        bounds("mine x", 0, 99, BAD, (x, v) -> x.mine(v, 0, 1, 1));
        bounds("mine y", 0, 99, BAD, (x, v) -> x.mine(0, v, 1, 1));
        bounds("mine depth", 1, 300, BAD, (x, v) -> x.mine(0, 0, v, 1));
        bounds("mine coin", 1, 99, BAD, (x, v) -> x.mine(0, 0, 1, v));
        bounds("water mine", 0, 4, BAD, (x, v) -> x.water(v, 0, 9));
        bounds("water month", 0, 11, BAD, (x, v) -> x.water(0, v, 9));
        bounds("water v", 0, 999, BAD, (x, v) -> x.water(0, 0, v));
        bounds("change mine", 0, 4, BAD, (x, v) -> x.change(v, 0, 9));
        bounds("change which", 0, 1, BAD, (x, v) -> x.change(0, v, 9));
        bounds("change depth", 1, 300, BAD, (x, v) -> x.change(0, 0, v));
        bounds("change coin", 1, 99, BAD, (x, v) -> x.change(0, 1, v));
        bounds("engine mine", 0, 4, BAD, (x, v) -> x.engine(v, 0, 1, 1, 1, 0));
        bounds("engine kind", 0, 2, BAD, (x, v) -> x.engine(0, v, 1, 1, 1, 0));
        bounds("engine load", 1, 99, BAD, (x, v) -> x.engine(0, 0, v, 1, 1, 0));
        bounds("engine duty", 1, 9999, BAD, (x, v) -> x.engine(0, 0, 1, v, 1, 0));
        bounds("engine most", 1, 9999, BAD, (x, v) -> x.engine(0, 0, 1, 1, v, 0));
        bounds("engine parts", 0, 255, BAD, (x, v) -> x.engine(0, 0, 1, 1, 1, v));
        bounds("stick", 0, 4, BAD, (x, v) -> x.stick(v, true));
        bounds("loosen", 0, 4, BAD, (x, v) -> x.stick(v, false));
        bounds("mend", 0, 4, BAD, (x, v) -> x.mend(v));
        bounds("trial mine", 0, 4, BAD, (x, v) -> x.trial(v, 1, 1, 1));
        bounds("trial strokes", 1, 9999, BAD, (x, v) -> x.trial(0, v, 1, 1));
        bounds("trial load", 1, 99, BAD, (x, v) -> x.trial(0, 1, v, 1));
        bounds("trial coal", 1, 9999, BAD, (x, v) -> x.trial(0, 1, 1, v));
    }

    private static void boundsOfWhatIsAsked() {
        bounds("of engine", 0, 4, BAD, (x, v) -> x.of(v, 2));
        bounds("of what", 0, 12, BAD, (x, v) -> x.of(0, v));
        bounds("was mine", 0, 4, BAD, (x, v) -> x.was(v, 0, 0));
        bounds("was month", 0, 4, BAD, (x, v) -> x.was(0, v, 0));
        bounds("was what", 0, 5, BAD, (x, v) -> x.was(0, 0, v));
        bounds("at mine", 0, 4, BAD, (x, v) -> x.at(v, 0));
        bounds("at what", 0, 5, BAD, (x, v) -> x.at(0, v));
        bounds("rule mine", 0, 5, BAD, (x, v) -> x.rule(v, 0, 2));
        bounds("rule month", 0, 60, BAD, (x, v) -> x.rule(0, v, 2));
        bounds("rule what", 0, 4, BAD, (x, v) -> x.rule(0, 0, v));
        bounds("rule of a part", 10, 17, BAD, (x, v) -> x.rule(0, 0, v));
        bounds("reading", 0, 2, BAD, (x, v) -> x.reading(v, 1));
        bounds("reading what", 0, 9, BAD, (x, v) -> x.reading(0, v));
        bounds("owed mine", 0, 4, BAD, (x, v) -> x.owed(v, 0));
        bounds("owed what", 0, 5, BAD, (x, v) -> x.owed(0, v));
        bounds("known mine", 0, 4, BAD, (x, v) -> x.known(v, 0));
        bounds("known month", 0, 60, BAD, (x, v) -> x.known(0, v));
        bounds("theirs engine", 0, 4, BAD, (x, v) -> x.theirs(v, 0, 0));
        bounds("theirs month", 0, 60, BAD, (x, v) -> x.theirs(0, v, 0));
        bounds("theirs what", 0, 1, BAD, (x, v) -> x.theirs(0, 0, v));
        bounds("count", 0, 9, BAD, (x, v) -> x.count(v));
    }

    private static void boundsOfTextsAndSums() {
        bounds("end", 0, 7, BAD, (x, v) -> x.end(v));
        bounds("read", 0, 4, BAD, (x, v) -> x.read(v));
        bounds("pay mine", 0, 4, BAD_PAY, (x, v) -> x.pay(v, 5));
        bounds("pay coins", 0, 99999, BAD_PAY, (x, v) -> x.pay(0, v));
        bounds("stop", 0, 4, BAD, (x, v) -> x.stop(v));
        bounds("go", 0, 4, BAD, (x, v) -> x.go(v));
        bounds("shares mine", 0, 4, BAD, (x, v) -> x.shares(v, 0, 5));
        bounds("shares partner", 0, 7, BAD, (x, v) -> x.shares(0, v, 5));
        bounds("shares v", 0, 99, BAD, (x, v) -> x.shares(0, 0, v));
        bounds("deal mine", 0, 4, BAD, (x, v) -> x.deal(v, 5, 0));
        bounds("deal sum", 0, 999999, BAD, (x, v) -> x.deal(0, v, 0));
        bounds("deal partner", 0, 7, BAD, (x, v) -> x.deal(0, 5, v));
    }

    private static void boundsOfReckonings() {
        bounds("brings mine", 0, 4, BAD_BRINGS, (x, v) -> x.brings(v, 0, 1, 0, 0));
        bounds("brings way", 0, 2, BAD_BRINGS, (x, v) -> x.brings(0, v, 1, 0, 0));
        bounds("brings n", 1, 24, BAD_BRINGS, (x, v) -> x.brings(0, 0, v, 0, 0));
        bounds("brings ore", 0, 9999, BAD_BRINGS, (x, v) -> x.brings(0, 0, 1, v, 0));
        for (int way = 0; way < 3; way++) {
            int itsWay = way;
            bounds("brings built, way " + way, 0, 99999, BAD_BRINGS, (x, v) -> x.brings(0, itsWay, 1, 0, v));
        }
        bounds("best mine", 0, 4, BAD, (x, v) -> x.best(v, 1, 0, 0));
        bounds("best n", 1, 24, BAD, (x, v) -> x.best(0, v, 0, 0));
        bounds("best ore", 0, 9999, BAD, (x, v) -> x.best(0, 1, v, 0));
        bounds("best built", 0, 99999, BAD, (x, v) -> x.best(0, 1, 0, v));
        bounds("fair mine", 0, 4, BAD, (x, v) -> x.fair(v, 1, 0, 0, 0));
        bounds("fair n", 1, 24, BAD, (x, v) -> x.fair(0, v, 0, 0, 0));
        bounds("fair ore", 0, 9999, BAD, (x, v) -> x.fair(0, 1, v, 0, 0));
        bounds("fair built", 0, 99999, BAD, (x, v) -> x.fair(0, 1, 0, v, 0));
        bounds("fair what", 0, 1, BAD, (x, v) -> x.fair(0, 1, 0, 0, v));
        bounds("round mine", 0, 4, BAD, (x, v) -> x.round(v, 0));
        bounds("round what", 0, 1, BAD, (x, v) -> x.round(0, v));
        bounds("round's mine", 10, 15, BAD, (x, v) -> x.round(0, v));
        for (int wrong : new int[] {-1, -43210, 0, 123, 1233, 1235, 12345, 43211, 101234, FAR[0], FAR[1]}) {
            refused("waits " + wrong, BAD, x -> x.waits(wrong));
        }
    }

    private static void boundsOfSheets() {
        bounds("sheet", 0, 3, BAD, (x, v) -> x.sheet(v, 0, 5));
        bounds("sheet lane", 0, 2, BAD, (x, v) -> x.sheet(0, v, 5));
        for (int n : new int[] {49, Integer.MAX_VALUE}) {
            refused("sheet of " + n, BAD, x -> x.sheet(0, 0, n));
        }
        for (int n : new int[] {-1, Integer.MIN_VALUE}) {
            refused("sheet of " + n, -14, x -> x.sheet(0, 0, n));
            refused("sheet 4 of " + n, BAD, x -> x.sheet(4, 0, n));
            refused("sheet -1 of " + n, BAD, x -> x.sheet(-1, 0, n));
            refused("lane 3 of " + n, BAD, x -> x.sheet(0, 3, n));
            refused("lane -1 of " + n, BAD, x -> x.sheet(0, -1, n));
        }
        bounds("lay", 0, 3, BAD, (x, v) -> x.lay(v, 0, 5));
        bounds("book mine", 0, 4, BAD, (x, v) -> x.book(v, 0, 0, 0));
        bounds("book sheet", 0, 3, BAD, (x, v) -> x.book(0, v, 0, 0));
        bounds("book lane", 0, 2, BAD, (x, v) -> x.book(0, 0, v, 0));
    }

    // ---- STATE

    private static void statesOfEngines() {
        refused("read of a stopped engine", STATE, x -> x.read(2));
        refused("read without engine", STATE, x -> x.read(4));
        refused("stop: late 1, stop 2", STATE, x -> x.stop(0));
        refused("stop of a pirate", STATE, x -> x.stop(1));
        refused("stop of a stopped one", STATE, x -> x.stop(2));
        refused("stop of an old one", STATE, x -> x.stop(3));
        refused("stop without engine", STATE, x -> x.stop(4));
        refused("go of one that works", STATE, x -> x.go(0));
        refused("go with arrears", STATE, x -> x.go(2));
        refused("go of one that is not the latest", STATE, x -> x.go(3));
        refused("brings of a stopped engine", STATE_BRINGS, x -> x.brings(2, 0, 1, 0, 0));
        for (int way = 0; way < 3; way++) {
            int itsWay = way;
            refused("brings without engine, way " + way, STATE_BRINGS, x -> x.brings(4, itsWay, 1, 0, 0));
        }
        refused("brings by b without trial", STATE_BRINGS, x -> x.brings(1, 1, 1, 0, 0));
        refused("best of a stopped engine", STATE, x -> x.best(2, 1, 0, 0));
        refused("best without engine", STATE, x -> x.best(4, 1, 0, 0));
        refused("fair without engine", STATE, x -> x.fair(4, 1, 0, 0, 0));
        refused("fair without trial", STATE, x -> x.fair(1, 1, 0, 0, 1));
    }

    private static void noneThere() {
        refused("deal without shares", NONE, x -> x.deal(1, 5, 0));
        refused("bad comes ahead of none", BAD, x -> x.deal(1, 1000000, 0));
        refused("round's mine 5", NONE, x -> x.round(0, 15));
        refused("the engine that works", NONE, x -> x.at(2, 2));
        refused("need without engine", NONE, x -> x.at(4, 3));
        refused("fair, where the old one is better", NONE, x -> x.fair(3, 24, 0, 0, 0));
    }

    // ---- FAULTS of sheets

    private static void sheetsThatTear() {
        refused("lay on nothing", -11, x -> x.lay(3, 0, 7));
        refused("lay on nothing, behind its end", -11, x -> x.lay(3, -1, 7));
        for (int i : new int[] {-1, 13, Integer.MIN_VALUE, Integer.MAX_VALUE}) {
            refused("lay " + i, -12, x -> x.lay(0, i, 7));
        }
        refused("lay on no cells", -12, x -> x.lay(2, 0, 7));
        refused("a bad cell at the end of a year", -31, x -> x.book(0, 1, 1, 0));
        refused("a bad cell at first", -20, x -> x.book(0, 1, 1, 11));
    }

    // ---- what is only asked

    private static void askingChangesNothing() {
        asked("of", x -> x.of(0, 7));
        asked("was", x -> x.was(0, 4, 0));
        asked("at", x -> x.at(0, 5));
        asked("fault", x -> x.fault());
        asked("rule", x -> x.rule(3, 3, 2));
        asked("reading", x -> x.reading(2, 8));
        asked("owed", x -> x.owed(0, 4));
        asked("known", x -> x.known(3, 3));
        asked("theirs", x -> x.theirs(1, 3, 1));
        asked("deal", x -> x.deal(0, 999999, 7));
        for (int way = 0; way < 3; way++) {
            int itsWay = way;
            asked("brings " + way, x -> x.brings(0, itsWay, 24, 9, 9));
        }
        asked("best", x -> x.best(0, 24, 9, 9));
        asked("fair", x -> x.fair(0, 24, 9, 9, 1));
        asked("round", x -> x.round(3, 0));
        asked("waits", x -> x.waits(43210));
        asked("torn", x -> x.torn());
        asked("count", x -> x.count(7));
        asked("end of all bytes", x -> x.end(7));
    }

    // ---- FULL

    private static void allIsFull() {
        refused("a seventh mine", FULL, x -> x.mine(0, 0, 1, 1));
        refused("a bad seventh mine", BAD, x -> x.mine(0, 0, 1, 100));
        refused("a thirteenth engine", FULL, x -> x.engine(0, 0, 1, 1, 1, 0));
        refused("a bad thirteenth engine", BAD, x -> x.engine(6, 0, 1, 1, 1, 0));
        refused("month 60", FULL, x -> x.month());
        refused("a sixty-first reading", FULL, x -> x.read(5));
        refused("a sixty-first reading of an engine that is 5 months unread", FULL, x -> x.read(0));
        refused("a sixty-first reading of no mine", BAD, x -> x.read(6));
        refused("byte 201", FULL, x -> x.feed(0x6161616161616161L));
        refused("end behind the last byte", BAD, x -> x.end(201));
        bounds("mine", 0, 5, BAD, (x, v) -> x.at(v, 0));
        bounds("engine", 0, 11, BAD, (x, v) -> x.of(v, 2));
        bounds("reading", 0, 59, BAD, (x, v) -> x.reading(v, 1));
        bounds("month", 0, 59, BAD, (x, v) -> x.was(0, v, 4));
        bounds("bytes", 0, 200, BAD, (x, v) -> x.end(v));
        bounds("round's mine", 10, 15, BAD, (x, v) -> x.round(0, v));
    }
}
