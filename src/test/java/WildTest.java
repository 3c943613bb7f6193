import java.util.Random;

/** No call may throw, the same calls give the same answers, and refused calls change nothing. */
public final class WildTest {
    private static final int[] EDGES = {
        Integer.MIN_VALUE, -1000000, -1, 0, 1, 2, 3, 5, 6, 7, 8, 9, 10, 11, 12, 15, 16, 17, 24, 25, 47, 48, 49,
        59, 60, 61, 99, 100, 199, 200, 201, 255, 256, 300, 301, 999, 1000, 9999, 10000, 99999, 100000, 999999,
        1000000, 12345, 543210, Integer.MAX_VALUE,
    };
    private static final String[] WORDS = {
        "share 0 3;", "fixed 0 70;", "from 5 ", "stop 0 1;", "again 0 9;", "part a 20;", "wide;", "narrow;",
        "share 1 2;", "fixed 1 9;", "part b 7;", "stop 1 2;", " ", "!", ";", "12345", "from 60 ", "zz",
    };

    public static void main(String[] args) {
        for (int run = 0; run < 3000; run++) {
            SavedThird one = new SavedThird();
            SavedThird two = new SavedThird();
            Random first = new Random(run);
            Random second = new Random(run);
            // Some of these are several calls: together they stay below an object's 512.
            for (int call = 0; call < 360; call++) {
                long answer = anyCall(one, first);
                Check.due("run " + run + ", call " + call, anyCall(two, second), answer);
            }
        }
        refusedChangesNothing();
        Check.close("WildTest");
    }

    /** Small numbers mostly, so that calls are often good; an edge at times. */
    private static int any(Random random, int least, int most) {
        if (random.nextInt(12) == 0) {
            return EDGES[random.nextInt(EDGES.length)];
        }
        return least + random.nextInt(most - least + 1);
    }

    private static long anyCall(SavedThird x, Random r) {
        int kind = r.nextInt(20);
        if (kind < 4) {
            return anyBuild(x, r);
        }
        if (kind < 9) {
            return anyMonth(x, r);
        }
        if (kind < 12) {
            return anyText(x, r);
        }
        return kind < 16 ? anyAsk(x, r) : anyReckoning(x, r);
    }

    private static long anyBuild(SavedThird x, Random r) {
        switch (r.nextInt(9)) {
            case 0: return x.mine(any(r, 0, 99), any(r, 0, 99), any(r, 1, 300), any(r, 1, 99));
            case 1: return x.water(any(r, 0, 5), any(r, 0, 11), any(r, 0, 999));
            case 2: return x.change(any(r, 0, 5), any(r, 0, 1), any(r, 1, 99));
            case 3: return x.engine(any(r, 0, 5), any(r, 0, 2), any(r, 1, 99), any(r, 1, 9999), any(r, 1, 9999), any(r, 0, 255));
            case 4: return x.stick(any(r, 0, 11), r.nextBoolean());
            case 5: return x.mend(any(r, 0, 11));
            case 6: return x.trial(any(r, 0, 5), any(r, 1, 9999), any(r, 1, 99), any(r, 1, 9999));
            case 7: return x.shares(any(r, 0, 5), any(r, 0, 7), any(r, 0, 99));
            default: return x.sheet(any(r, 0, 3), any(r, 0, 2), any(r, 0, 48));
        }
    }

    private static long anyMonth(SavedThird x, Random r) {
        switch (r.nextInt(7)) {
            case 0: return x.read(any(r, 0, 5));
            case 1: return x.pay(any(r, 0, 5), any(r, 0, 999));
            case 2: return x.stop(any(r, 0, 5));
            case 3: return x.go(any(r, 0, 11));
            case 4: return x.lay(any(r, 0, 3), any(r, 0, 47), any(r, 0, 999));
            case 5: return x.book(any(r, 0, 5), any(r, 0, 3), any(r, 0, 2), any(r, 0, 40));
            default: return x.month();
        }
    }

    private static long anyText(SavedThird x, Random r) {
        int kind = r.nextInt(10);
        if (kind == 0) {
            return x.feed(r.nextLong());
        }
        if (kind == 1) {
            return x.end(any(r, 0, 40));
        }
        if (kind < 6) {
            String word = WORDS[r.nextInt(WORDS.length)];
            long eight = 0;
            for (int i = 0; i < 8; i++) {
                eight = eight << 8 | (i < word.length() ? word.charAt(i) : ' ');
            }
            return x.feed(eight);
        }
        if (kind == 6 && x.end(0) >= 0) {
            StringBuilder text = new StringBuilder();
            for (int i = r.nextInt(6); i >= 0; i--) {
                text.append(WORDS[r.nextInt(12)]);
            }
            Check.lay(x, text.toString());
        }
        return x.text() * 10L + x.fault();
    }

    private static long anyAsk(SavedThird x, Random r) {
        switch (r.nextInt(9)) {
            case 0: return x.of(any(r, 0, 11), any(r, 0, 12));
            case 1: return x.was(any(r, 0, 5), any(r, 0, 59), any(r, 0, 5));
            case 2: return x.at(any(r, 0, 5), any(r, 0, 5));
            case 3: return x.rule(any(r, 0, 5), any(r, 0, 60), any(r, 0, 17));
            case 4: return x.reading(any(r, 0, 59), any(r, 0, 9));
            case 5: return x.owed(any(r, 0, 5), any(r, 0, 5));
            case 6: return x.known(any(r, 0, 5), any(r, 0, 60));
            case 7: return x.theirs(any(r, 0, 11), any(r, 0, 60), any(r, 0, 1));
            default: return x.count(any(r, 0, 9)) * 10L + x.torn();
        }
    }

    private static long anyReckoning(SavedThird x, Random r) {
        switch (r.nextInt(6)) {
            case 0: return x.deal(any(r, 0, 5), any(r, 0, 999999), any(r, 0, 7));
            case 1: return x.brings(any(r, 0, 5), any(r, 0, 2), any(r, 1, 24), any(r, 0, 9999), any(r, 0, 99999));
            case 2: return x.best(any(r, 0, 5), any(r, 1, 24), any(r, 0, 9999), any(r, 0, 99999));
            case 3: return x.fair(any(r, 0, 5), any(r, 1, 24), any(r, 0, 9999), any(r, 0, 99999), any(r, 0, 1));
            case 4: return x.round(any(r, 0, 5), any(r, 0, 15));
            default: return x.waits(any(r, 0, 543210));
        }
    }

    private static void refusedChangesNothing() {
        SavedThird x = new SavedThird();
        x.mine(1, 2, 30, 4);
        x.engine(0, 1, 5, 6, 7, 8);
        Check.flood(x, 0, 9);
        x.month();
        long before = print(x);
        x.mine(100, 0, 1, 1);
        x.water(0, 0, 1000);
        x.change(0, 1, 100);
        x.engine(0, 3, 1, 1, 1, 1);
        x.stick(1, true);
        x.mend(1);
        x.trial(0, 0, 1, 1);
        x.end(1);
        x.read(1);
        x.pay(0, -1);
        x.stop(0);
        x.go(0);
        x.shares(0, 0, 100);
        x.sheet(0, 0, -1);
        x.sheet(0, 0, 49);
        x.lay(0, 0, 0);
        x.book(0, 0, 3, 0);
        Check.due("refused calls change nothing", print(x), before);
    }

    private static long print(SavedThird x) {
        long print = 0;
        for (int what = 0; what <= 12; what++) {
            print = print * 31 + x.of(0, what);
            print = print * 31 + x.at(0, what);
            print = print * 31 + x.was(0, 0, what);
            print = print * 31 + x.count(what);
            print = print * 31 + x.owed(0, what);
            print = print * 31 + x.deal(0, 100, what);
        }
        return print * 31 + x.brings(0, 1, 1, 0, 0) + x.torn();
    }
}
