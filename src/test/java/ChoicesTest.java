import java.util.Random;

/** Promises 28 to 30: what each way brings, the best one, and fair sums. */
public final class ChoicesTest {
    private static final long BAD = -10000000000L, STATE = -10000000002L;

    public static void main(String[] args) {
        byHand();
        stoppedOnDryMonths();
        withoutTrial();
        askedWrongly();
        bestOfSeveral();
        fairEdges();
        notNew();
        againstMonthsThatGo();
        fairAgainstAllSums();
        Check.close("ChoicesTest");
    }

    /** 1000 strokes a month; the old one burned 100 for them, the new one burns 50 and more. */
    private static SavedThird plain(int kind) {
        SavedThird x = new SavedThird();
        x.mine(0, 0, 100, 6);
        Check.flood(x, 0, 200);
        x.trial(0, 1000, 20, 100);
        x.engine(0, kind, 20, 400, 1000, 0);
        return x;
    }

    private static void byHand() {
        SavedThird x = plain(1);
        Check.told(x, "share 0 4;stop 0 1;", 2);
        // Duty 400, then 396: 50 and 51 bushels. Saved 50 and 49, by 4 in coins: 75 and 73.
        Check.due("a", x.brings(0, 0, 2, 1000, 77), 2000 - 101 * 6 - 148);
        // Duty 1000 * 20 / 100 = 200, then 198: 100 and 102 bushels.
        Check.due("b", x.brings(0, 1, 2, 1000, 77), 2000 - 202 * 6 - 77);
        Check.due("c", x.brings(0, 2, 2, 1000, 77), 1000 - 50 * 6);
        Check.told(x, "fixed 0 500;from 1 fixed 0 1;", 2);
        Check.due("a by what holds now", x.brings(0, 0, 2, 1000, 77), 2000 - 101 * 6 - 1000);
        Check.due("c by stop 3", x.brings(0, 2, 2, 1000, 77), 2000 - 101 * 6);
        Check.due("c by stop 3 for 4 months", x.brings(0, 2, 4, 1000, 77), 3000 - 153 * 6);
        x.change(0, 0, 101);
        Check.due("all wet", x.brings(0, 0, 1, 1000, 0), -50 * 6 - 500);
        Check.due("no month went", x.count(0), 0);
        Check.due("nor an age", x.of(0, 6), 0);
    }

    private static void stoppedOnDryMonths() {
        SavedThird x = plain(1);
        Check.told(x, "stop 0 1;", 1);
        x.water(0, 1, 0);
        Check.due("stopped, but there is no water", x.brings(0, 2, 3, 1000, 0), 2000 - 50 * 6);
        Check.due("goes on", x.brings(0, 0, 3, 1000, 0), 3000 - (50 + 0 + 52) * 6);
        x.water(0, 1, 1);
        Check.due("the least water", x.brings(0, 2, 3, 1000, 0), 1000 - 50 * 6);
    }

    private static void withoutTrial() {
        SavedThird x = new SavedThird();
        x.mine(0, 0, 100, 6);
        Check.flood(x, 0, 200);
        Check.due("no engine", x.brings(0, 0, 1, 0, 0), STATE);
        Check.due("no engine, best", x.best(0, 1, 0, 0), -2);
        Check.due("no engine, fair", x.fair(0, 1, 0, 0, 0), -2);
        x.engine(0, 1, 20, 400, 1000, 0);
        Check.told(x, "fixed 0 5;", 1);
        Check.due("nothing is paid without one", x.brings(0, 0, 1, 0, 0), -300);
        Check.due("b", x.brings(0, 1, 1, 0, 0), STATE);
        Check.due("c", x.brings(0, 2, 1, 0, 0), -300);
        Check.due("b is left out", x.best(0, 1, 0, 0), 0);
        Check.due("no fair sum", x.fair(0, 1, 0, 0, 0), -2);
        Check.due("bad comes first", x.fair(0, 0, 0, 0, 0), -1);
    }

    private static void askedWrongly() {
        SavedThird x = plain(1);
        int[][] wrong = {{0, 0, 0}, {25, 0, 0}, {1, -1, 0}, {1, 10000, 0}, {1, 0, -1}, {1, 0, 100000}};
        for (int[] w : wrong) {
            Check.due("brings", x.brings(0, 0, w[0], w[1], w[2]), BAD);
            Check.due("best", x.best(0, w[0], w[1], w[2]), -1);
            Check.due("fair", x.fair(0, w[0], w[1], w[2], 0), -1);
        }
        Check.due("way -1", x.brings(0, -1, 1, 0, 0), BAD);
        Check.due("way 3", x.brings(0, 3, 1, 0, 0), BAD);
        Check.due("no mine", x.brings(1, 0, 1, 0, 0), BAD);
        Check.due("no mine, best", x.best(1, 1, 0, 0), -1);
        Check.due("no mine, fair", x.fair(-1, 1, 0, 0, 0), -1);
        Check.due("what 2", x.fair(0, 1, 0, 0, 2), -1);
        Check.due("what -1", x.fair(0, 1, 0, 0, -1), -1);
    }

    private static void bestOfSeveral() {
        SavedThird x = plain(1);
        Check.due("a and c are one", x.best(0, 3, 1000, 0), 0);
        Check.told(x, "share 0 4;stop 0 24;", 2);
        Check.due("c", x.best(0, 3, 1000, 0), 2);
        Check.told(x, "fixed 0 9999;stop 0 1;", 2);
        Check.due("b", x.best(0, 24, 9999, 0), 1);
        x = plain(0);
        x.trial(0, 20, 20, 1);
        Check.due("a and b are one", x.best(0, 5, 100, 0), 0);
        x.trial(0, 21, 20, 1);
        Check.due("b burns less", x.best(0, 5, 100, 0), 1);
    }

    private static void fairEdges() {
        SavedThird x = plain(1);
        // b burns 100 for 50: 300 coins, and what is built.
        Check.due("nothing is told", x.fair(0, 1, 0, 0, 0), 0);
        Check.due("all that is saved", x.fair(0, 1, 0, 0, 1), 300);
        Check.due("9999 at most", x.fair(0, 1, 0, 99999, 1), 9999);
        Check.told(x, "fixed 0 300;", 1);
        Check.due("just that", x.fair(0, 1, 0, 0, 0), 300);
        Check.told(x, "fixed 0 301;", 1);
        Check.due("none", x.fair(0, 1, 0, 0, 0), -4);
        Check.due("none", x.fair(0, 1, 0, 0, 1), -4);
        Check.told(x, "share 0 4;", 1);
        // 75 and 73 over two months.
        Check.due("divided up", x.fair(0, 2, 0, 0, 0), 74);
        Check.due("divided down", x.fair(0, 2, 0, 1, 1), 303);
        x.trial(0, 9999, 99, 1);
        Check.due("the old one is better", x.fair(0, 2, 0, 0, 0), -4);
        x.trial(0, 1, 1, 9999);
        Check.told(x, "share 0 1;", 1);
        Check.due("they have more than 9999", x.fair(0, 2, 0, 0, 0), -4);
    }

    private static void notNew() {
        SavedThird x = plain(2);
        Check.told(x, "fixed 0 50;stop 0 1;", 2);
        Check.due("a pirate pays nothing", x.brings(0, 0, 2, 1000, 0), 2000 - 101 * 6);
        Check.due("nor is it stopped", x.brings(0, 2, 2, 1000, 0), 2000 - 101 * 6);
        Check.due("they have nothing", x.fair(0, 2, 1000, 0, 0), 0);
    }

    /** The same mine twice: what a choice foretells must be what goes, read month by month. */
    private static void againstMonthsThatGo() {
        Random random = new Random(7);
        for (int run = 0; run < 300; run++) {
            long seed = random.nextLong();
            int n = 1 + random.nextInt(24);
            int ore = random.nextInt(10000);
            SavedThird foretold = wild(new Random(seed));
            SavedThird went = wild(new Random(seed));
            Check.due("a, run " + run, foretold.brings(0, 0, n, ore, 0), gone(went, n, ore));
            SavedThird old = wild(new Random(seed));
            int duty = wildDuty(new Random(seed));
            old.engine(0, 0, old.of(0, 2), Math.min(9999, duty), old.of(0, 4), 0);
            if (duty <= 9999) {
                Check.due("b, run " + run, foretold.brings(0, 1, n, ore, 9), gone(old, n, ore) - 9);
            }
        }
    }

    /** A new engine of some months' age, with a rule that holds all the time. */
    private static SavedThird wild(Random random) {
        SavedThird x = new SavedThird();
        wildTrial(random, x);
        int load = 1 + random.nextInt(99);
        // MOST below 10000 a month: one month's reading can not have gone round.
        x.engine(0, 1, load, 1 + random.nextInt(9999), 1 + random.nextInt(9999), 0);
        Check.told(x, (random.nextBoolean() ? "share 0 " : "fixed 0 ") + (1 + random.nextInt(9)) + ";", 1);
        Check.months(x, random.nextInt(30));
        x.read(0);
        return x;
    }

    private static int wildTrial(Random random, SavedThird x) {
        x.mine(0, 0, 1 + random.nextInt(300), 1 + random.nextInt(99));
        for (int month = 0; month < 12; month++) {
            x.water(0, month, random.nextInt(1000));
        }
        int s = 1 + random.nextInt(9999);
        int l = 1 + random.nextInt(99);
        int c = 1 + random.nextInt(9999);
        x.trial(0, s, l, c);
        return Math.max(1, s * l / c);
    }

    private static int wildDuty(Random random) {
        return wildTrial(random, new SavedThird());
    }

    private static long gone(SavedThird x, int n, int ore) {
        long sum = 0;
        for (int i = 0; i < n; i++) {
            int month = x.count(0);
            sum += x.month() == 0 ? ore : 0;
            sum -= (long) x.was(0, month, 1) * x.at(0, 1);
            sum -= x.reading(x.read(0), 7);
        }
        return sum;
    }

    /** A sum is fair if, told as a fixed one, it leaves neither side worse. */
    private static void fairAgainstAllSums() {
        Random random = new Random(11);
        for (int run = 0; run < 60; run++) {
            long seed = random.nextLong();
            int n = 1 + random.nextInt(24);
            int ore = random.nextInt(10000);
            int built = random.nextInt(100000);
            SavedThird x = wild(new Random(seed));
            int least = x.fair(0, n, ore, built, 0);
            int greatest = x.fair(0, n, ore, built, 1);
            long brought = x.brings(0, 0, n, ore, 0);
            Check.told(x, "", 0);
            long makersHad = x.brings(0, 0, n, ore, 0) - brought;
            long old = x.brings(0, 1, n, ore, built);
            int found = -4;
            int last = -4;
            for (int sum = 0; sum <= 9999; sum++) {
                // No more texts than an object's 512 calls can tell: the others are reckoned.
                if (sum % 500 == 0) {
                    Check.told(x, "fixed 0 " + sum + ";", 1);
                    Check.due("by a fixed sum", x.brings(0, 0, n, ore, 0), brought + makersHad - (long) sum * n);
                }
                boolean mineStays = brought + makersHad - (long) sum * n >= old;
                if (mineStays && (long) sum * n >= makersHad) {
                    found = found == -4 ? sum : found;
                    last = sum;
                }
            }
            Check.due("the least fair sum, run " + run, least, found);
            Check.due("the greatest fair sum, run " + run, greatest, last);
        }
    }
}
