import java.lang.reflect.InvocationTargetException;
import java.lang.reflect.Method;
import java.lang.reflect.Modifier;
import java.util.ArrayList;
import java.util.Collections;
import java.util.HashMap;
import java.util.List;
import java.util.Map;
import java.util.Random;

/** The class and the Ledger, a second reading of the document, answer the same over long runs of calls. */
public final class LedgerTest {
    // A step may take some 40 calls: with them an object stays below its 512.
    private static final int CALLS = 470;
    private static final int[] EDGES = {
        Integer.MIN_VALUE, -20, -1, 0, 1, 2, 5, 6, 7, 8, 9, 10, 11, 12, 15, 16, 17, 18, 24, 25, 47, 48, 49, 59, 60, 61,
        99, 100, 255, 256, 300, 301, 999, 1000, 9999, 10000, 99999, 100000, 999999, 1000000, Integer.MAX_VALUE,
    };
    private static final Map<String, Method> OF_CLASS = methods(SavedThird.class);
    private static final Map<String, Method> OF_LEDGER = methods(Ledger.class);

    private final Random random;
    private final SavedThird x = new SavedThird();
    private final Ledger ledger = new Ledger();
    private final List<String> calls = new ArrayList<>();
    private boolean differs;

    private LedgerTest(long seed) {
        random = new Random(seed);
    }

    public static void main(String[] args) {
        long first = args.length > 0 ? Long.parseLong(args[0]) : 0;
        long runs = args.length > 1 ? Long.parseLong(args[1]) : 400;
        boolean same = true;
        // One run that differs tells more than many.
        for (long seed = first; seed < first + runs && same; seed++) {
            same = new LedgerTest(seed).run();
        }
        Check.close("LedgerTest");
    }

    /** Neither of the two has a method that is not private but for the document's. */
    private static Map<String, Method> methods(Class<?> from) {
        Map<String, Method> found = new HashMap<>();
        for (Method method : from.getDeclaredMethods()) {
            if (!Modifier.isPrivate(method.getModifiers())) {
                found.put(method.getName(), method);
            }
        }
        return found;
    }

    private void call(String name, Object... args) {
        StringBuilder told = new StringBuilder(name).append('(');
        for (Object arg : args) {
            told.append(told.charAt(told.length() - 1) == '(' ? "" : ", ").append(arg);
        }
        calls.add(told.append(')').toString());
        long got = answer(OF_CLASS.get(name), x, args);
        long want = answer(OF_LEDGER.get(name), ledger, args);
        if (got != want && !differs) {
            differs = true;
            System.out.println("the run: " + String.join("; ", calls));
        }
        Check.due(calls.get(calls.size() - 1), got, want);
    }

    private static long answer(Method method, Object of, Object[] args) {
        try {
            return ((Number) method.invoke(of, args)).longValue();
        } catch (IllegalAccessException | InvocationTargetException e) {
            throw new IllegalStateException(method.getName(), e);
        }
    }

    /** Of the numbers that are good mostly, their ends more often than others; an edge of something else at times. */
    private int any(int least, int most) {
        int by = random.nextInt(60);
        if (by == 0) {
            return EDGES[random.nextInt(EDGES.length)];
        }
        if (by == 1) {
            return random.nextBoolean() ? least - 1 : most + 1;
        }
        if (by < 7 || most < least) {
            return random.nextBoolean() ? least : most;
        }
        return least + random.nextInt(most - least + 1);
    }

    private int anyMine() {
        return any(0, ledger.count(1) - 1);
    }

    private int anyEngine() {
        return any(0, ledger.count(2) - 1);
    }

    /** Whether every answer was the same. */
    private boolean run() {
        int mines = 1 + random.nextInt(random.nextBoolean() ? 6 : 2);
        for (int m = 0; m < mines; m++) {
            call("mine", any(0, 99), any(0, 99), any(1, 300), any(1, 99));
            year(m);
            if (random.nextInt(5) > 0) {
                engine(m, random.nextInt(4) > 0 ? 1 : any(0, 2));
            }
            if (random.nextInt(5) > 0) {
                thriftlessTrial(m);
            }
        }
        if (random.nextInt(9) > 0) {
            tellSound(mines);
        }
        while (calls.size() < CALLS && !differs) {
            step();
        }
        return !differs;
    }

    /** With a light load it makes so many strokes that its box goes round. */
    private void engine(int m, int kind) {
        boolean light = random.nextBoolean();
        call("engine", m, kind, any(1, light ? 9 : 99), any(1, 9999), any(light ? 3000 : 1, 9999), any(0, 255));
    }

    /** An old engine that burned much, so that something is saved. */
    private void thriftlessTrial(int m) {
        boolean much = random.nextInt(3) > 0;
        call("trial", m, any(1, much ? 500 : 9999), any(1, much ? 20 : 99), any(much ? 5000 : 1, 9999));
    }

    private void year(int m) {
        int most = random.nextBoolean() ? 999 : 60;
        for (int month = 0; month < 12; month++) {
            if (random.nextInt(3) > 0) {
                call("water", m, month, any(0, most));
            }
        }
    }

    private void step() {
        switch (random.nextInt(16)) {
            case 0: build(); break;
            case 1: case 2: case 3: call("month"); break;
            case 4: case 5: call("read", anyMine()); break;
            case 6: case 7: settle(); break;
            case 8: tellOrTape(); break;
            case 9: sheets(); break;
            case 10: choose(); break;
            case 11: ride(); break;
            default: ask(); break;
        }
    }

    private void build() {
        switch (random.nextInt(10)) {
            case 0: call("mine", any(0, 99), any(0, 99), any(1, 300), any(1, 99)); break;
            case 1: call("water", anyMine(), any(0, 11), any(0, 999)); break;
            case 2: call("change", anyMine(), 0, any(1, 300)); break;
            case 3: call("change", anyMine(), any(0, 1), any(1, 99)); break;
            case 4: engine(anyMine(), any(0, 2)); break;
            case 5: engine(anyMine(), 1); break;
            case 6: engine(anyMine(), 2); break;
            case 7: call("stick", anyEngine(), random.nextBoolean()); break;
            case 8: call("mend", anyEngine()); break;
            default: thriftlessTrial(anyMine()); break;
        }
    }

    private void settle() {
        int m = anyMine();
        switch (random.nextInt(8)) {
            case 0: call("pay", m, any(0, random.nextBoolean() ? 99999 : 500)); break;
            case 1: payArrears(m); break;
            case 2: case 3: case 4: call("stop", m); break;
            case 5: call("go", anyEngine()); break;
            case 6: payAndGo(); break;
            default: book(m); break;
        }
    }

    /** All of them, or one coin off. */
    private void payArrears(int m) {
        int coins = ledger.owed(m, 3) - 1 + random.nextInt(3);
        call("pay", m, Math.min(coins, 99999));
    }

    private void payAndGo() {
        for (int e = 0; e < ledger.count(2); e++) {
            if (ledger.of(e, 10) == 1) {
                payArrears(ledger.of(e, 0));
                call("go", e);
                return;
            }
        }
    }

    private void book(int m) {
        int partners = random.nextInt(9);
        for (int i = 0; i < partners; i++) {
            call("shares", m, any(0, 7), any(0, 99));
        }
        int sum = any(0, random.nextBoolean() ? 999999 : 30);
        for (int i = 0; i < 4; i++) {
            call("deal", m, sum, any(0, 7));
        }
    }

    private void tellOrTape() {
        switch (random.nextInt(12)) {
            case 0: call("feed", random.nextLong()); break;
            case 1: call("end", any(0, ledger.count(8))); break;
            case 2: text(); break;
            case 3: tellMany(); break;
            case 4: case 5: tellAny(); break;
            case 6: tellSound(ledger.count(1)); break;
            default: call("fault"); break;
        }
    }

    /** Something is owed for each mine, and the makers may soon stop. */
    private void tellSound(int mines) {
        StringBuilder text = new StringBuilder();
        for (int m = 0; m < Math.min(mines, 6); m++) {
            boolean fixed = random.nextInt(3) == 0;
            text.append(fixed ? "fixed " : "share ").append(m).append(' ').append(random.nextInt(9) + 1).append(';');
            if (random.nextBoolean()) {
                text.append("stop ").append(m).append(' ').append(random.nextInt(3) + 1).append(';');
            }
        }
        text.append("part ").append((char) ('a' + random.nextInt(8))).append(" 60;");
        text.append("from ").append(random.nextInt(30)).append(random.nextBoolean() ? " wide;" : " narrow;");
        text.append("from ").append(random.nextInt(30)).append(" share 0 ").append(random.nextInt(9) + 1).append(';');
        tell(text.toString());
    }

    /** 15 to 17 lines that are all good, and what may or may not stand behind the 16th. */
    private void tellMany() {
        List<String> lines = new ArrayList<>(List.of("wide;", "share 0 3;", "fixed 1 9;"));
        for (int i = 0; i < 8; i++) {
            lines.add("part " + (char) ('a' + i) + " " + random.nextInt(61) + ";");
        }
        for (int m = 0; m < 6; m++) {
            lines.add("stop " + m + " " + (random.nextInt(9) + 1) + ";");
        }
        Collections.shuffle(lines, random);
        String[] behind = {"", "", "", ";", "7", "12345", "!", "zz", "from", "from 99", "wide", "narrow;", "again 0 9;"};
        String text = String.join("", lines.subList(0, 15 + random.nextInt(3)));
        tell(text + behind[random.nextInt(behind.length)]);
    }

    /** Lines that may be good, with a byte changed or the end cut at times. */
    private void tellAny() {
        StringBuilder text = new StringBuilder();
        for (int i = random.nextInt(7); i >= 0; i--) {
            text.append(line());
        }
        if (random.nextInt(5) == 0) {
            text.setCharAt(random.nextInt(text.length()), " ;a0z!A9".charAt(random.nextInt(8)));
        }
        text.setLength(random.nextInt(6) == 0 ? random.nextInt(text.length()) : text.length());
        tell(text.toString());
    }

    private void tell(String text) {
        call("end", 0);
        for (int at = 0; at < text.length() && at < 200; at += 8) {
            long eight = 0;
            for (int i = at; i < at + 8; i++) {
                eight = eight << 8 | (i < text.length() ? text.charAt(i) : ' ');
            }
            call("feed", eight);
        }
        if (random.nextBoolean()) {
            call("end", Math.min(text.length(), ledger.count(8)));
        }
        text();
    }

    private void text() {
        call("text");
        call("fault");
        call("count", 6);
    }

    private String line() {
        String blank = random.nextInt(3) > 0 ? "" : "  ";
        String from = random.nextBoolean() ? "" : "from " + small(0, 59) + " ";
        int m = small(0, random.nextInt(2) * 5);
        String rule = switch (random.nextInt(8)) {
            case 0, 1 -> "share " + m + " " + small(1, 9);
            case 2 -> "fixed " + m + " " + small(0, random.nextBoolean() ? 9999 : 90);
            case 3 -> "stop " + m + " " + small(1, 24);
            case 4 -> "again " + m + " " + small(1, 99);
            case 5 -> "part " + (char) ('a' + small(0, 7) % 26) + " " + small(0, 60);
            case 6 -> "wide";
            default -> "narrow";
        };
        return blank + from + blank + rule + blank + ";";
    }

    /** A text has no signs, and a number of more than five figures tells no more than one of five. */
    private int small(int least, int most) {
        return Math.abs(any(least, most) % 100000);
    }

    private void sheets() {
        int k = any(0, 3);
        int lane = any(0, 2);
        switch (random.nextInt(6)) {
            case 0: call("sheet", k, lane, any(-1, 48)); break;
            case 1: call("lay", k, any(0, 47), random.nextInt()); break;
            case 2: call("book", anyMine(), k, lane, any(0, random.nextBoolean() ? 40 : 3)); break;
            default: wholeSheet(k, lane); break;
        }
        call("torn");
    }

    /** As long as a year, or nearly; a cell at times holds what is no WATER. */
    private void wholeSheet(int k, int lane) {
        int cells = 9 + random.nextInt(7);
        call("sheet", k, lane, cells);
        for (int i = 0; i < cells; i++) {
            boolean wild = random.nextInt(40) == 0;
            call("lay", k, i, wild ? random.nextInt() : any(0, random.nextBoolean() ? 127 : 999));
        }
        call("book", anyMine(), k, random.nextInt(9) == 0 ? any(0, 2) : lane, any(-1, 3));
    }

    private void choose() {
        int m = anyMine();
        int n = any(1, 24);
        int ore = any(0, 9999);
        int built = any(0, random.nextBoolean() ? 99999 : 300);
        for (int way = 0; way <= 2; way++) {
            call("brings", m, way, n, ore, built);
        }
        call("best", m, n, ore, built);
        call("fair", m, n, ore, built, 0);
        call("fair", m, n, ore, built, any(0, 1));
    }

    private void ride() {
        int m = anyMine();
        call("round", m, any(0, 1));
        call("round", m, any(10, 15));
        StringBuilder figures = new StringBuilder();
        List<Integer> left = new ArrayList<>();
        for (int i = 0; i < ledger.count(1); i++) {
            left.add(i);
        }
        while (!left.isEmpty()) {
            figures.append(left.remove(random.nextInt(left.size())));
        }
        call("waits", random.nextInt(5) == 0 || figures.length() == 0 ? any(0, 543210) : Integer.parseInt(figures.toString()));
    }

    private void ask() {
        switch (random.nextInt(11)) {
            case 0: call("of", anyEngine(), any(0, 12)); break;
            case 1: call("was", anyMine(), any(0, ledger.count(0) - 1), any(0, 5)); break;
            case 2: call("at", anyMine(), any(0, 5)); break;
            case 3: call("rule", any(0, 5), any(0, 60), random.nextBoolean() ? any(0, 4) : any(10, 17)); break;
            case 4: case 5: call("reading", any(0, ledger.count(5) - 1), any(0, 9)); break;
            case 6: call("owed", anyMine(), any(0, 5)); break;
            case 7: call("known", anyMine(), any(0, 60)); break;
            case 8: call("theirs", anyEngine(), any(0, 60), any(0, 1)); break;
            case 9: call("deal", anyMine(), any(0, 999999), any(0, 7)); break;
            default: call("count", any(0, 9)); break;
        }
    }
}
