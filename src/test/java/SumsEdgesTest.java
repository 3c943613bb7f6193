/** Promises 18 to 24 at their edges: periods, boxes gone round, sums to the coin, who is late, who may stop and go. */
public final class SumsEdgesTest {
    private static final int STATE = -2, FULL = -3, BAD = -1;

    public static void main(String[] args) {
        sixtyReadings();
        theSixtiethReading();
        theMonthBehindTheLast();
        periods();
        periodOfTheSameEngine();
        leastGoesRound();
        mostByTenThousands();
        theLongestPeriod();
        owedAtLeastAndAtMost();
        lateByTheLeast();
        shareIsDividedDown();
        savedIsZeroAtLeast();
        oldCoalAtMost();
        coinOfTheLastMonth();
        coinOfMonth59();
        holdsInItsMonth();
        nothingHolds();
        fixedTimesMonths();
        nothingIsOwed();
        trialsCountBehind();
        againByOne();
        againByDefault();
        againInItsMonth();
        againChangesNoSum();
        paidToTheCoin();
        lateToTheCoin();
        lateBySeveral();
        knownByMonth();
        stopByDefault();
        stopAtItsBounds();
        stopOfKinds();
        goToTheCoin();
        goTheLatestAlone();
        Check.close("SumsEdgesTest");
    }

    /**
     * One mine of depth 1 and a NEW engine of load 1 and duty 9999, so that strokes are the water; the old engine
     * burned a bushel a stroke. Every month with water burns one bushel.
     */
    private static SavedThird plain(int coin, int most) {
        SavedThird x = new SavedThird();
        x.mine(0, 0, 1, coin);
        x.trial(0, 1, 1, 1);
        x.engine(0, 1, 1, 9999, most, 0);
        return x;
    }

    /** The month's strokes: a depth that divides them is taken, so that they may be above 999. */
    private static void goWith(SavedThird x, int strokes) {
        int depth = 1;
        while (depth < 300 && (strokes % depth != 0 || strokes / depth > 999)) {
            depth++;
        }
        Check.holds(strokes + " strokes can be made", strokes % depth == 0 && strokes / depth <= 999);
        x.change(0, 0, depth);
        x.water(0, x.count(0) % 12, strokes / depth);
        x.month();
        x.change(0, 0, 1);
    }

    private static void sixtyReadings() {
        Check.says("READINGS (60 in all)");
        SavedThird x = new SavedThird();
        for (int m = 0; m < 3; m++) {
            x.mine(0, 0, 1, 1);
            x.engine(m, m, 1, 1, 1, 0);
        }
        for (int k = 0; k < 60; k++) {
            Check.due("count", x.count(5), k);
            Check.due("reading", x.read(k % 3), k);
        }
        Check.due("the 61st", x.read(0), FULL);
        Check.due("the 61st of another", x.read(2), FULL);
        Check.due("of no mine", x.read(3), BAD);
        for (int k = 0; k < 60; k++) {
            Check.due("engine of " + k, x.reading(k, 0), k % 3);
        }
        Check.due("reading 60", x.reading(60, 0), BAD);
        for (int m = 0; m < 3; m++) {
            Check.due("readings of mine " + m, x.owed(m, 5), 20);
        }
    }

    private static void theSixtiethReading() {
        Check.says("ARREARS of a MINE: OWED (at LEAST) of all its READINGS less PAID");
        SavedThird x = plain(1, 9999);
        Check.told(x, "share 0 1;", 1);
        for (int k = 0; k < 59; k++) {
            x.read(0);
        }
        goWith(x, 501);
        Check.due("the 60th", x.read(0), 59);
        goWith(x, 0);
        int[] want = {0, 1, 501, 1, 501, 501, 1, 500, 500, 0};
        for (int what = 0; what < want.length; what++) {
            Check.due("reading 59 " + what, x.reading(59, what), want[what]);
        }
        int[] owed = {500, 500, 0, 500, 1, 60};
        for (int what = 0; what < owed.length; what++) {
            Check.due("owed " + what, x.owed(0, what), owed[what]);
        }
        Check.due("known", x.known(0, 1), 500);
        Check.due("pay", x.pay(0, 1), 499);
    }

    private static void theMonthBehindTheLast() {
        Check.says("ahead of month NOW");
        SavedThird x = plain(1, 9999);
        Check.told(x, "fixed 0 2;", 1);
        Check.months(x, 59);
        x.read(0);
        x.month();
        x.read(0);
        Check.due("its month", x.reading(1, 1), 60);
        Check.due("months", x.reading(1, 3), 1);
        Check.due("owed at least", x.owed(0, 0), 120);
        Check.due("owed at most", x.owed(0, 1), 120);
        Check.due("arrears", x.owed(0, 3), 120);
        Check.due("pay", x.pay(0, 117), 3);
        Check.due("late since 59", x.owed(0, 4), 1);
        Check.due("pay", x.pay(0, 1), 2);
        Check.due("late since 60", x.owed(0, 4), 0);
        Check.due("known in 58", x.known(0, 58), 0);
        Check.due("known in 59", x.known(0, 59), 118);
        Check.due("known in 60", x.known(0, 60), 120);
    }

    private static void periods() {
        Check.says("PERIOD of a READING: the months from the READING of that ENGINE ahead (or its coming) to it");
        SavedThird x = new SavedThird();
        x.mine(0, 0, 1, 1);
        Check.flood(x, 0, 7);
        Check.months(x, 3);
        x.engine(0, 1, 1, 1, 9999, 0);
        x.read(0);
        Check.months(x, 2);
        x.read(0);
        x.read(0);
        x.month();
        x.read(0);
        int[][] want = {{3, 0, 0, 0, 0, 0}, {5, 14, 2, 14, 10014, 14}, {5, 14, 0, 0, 0, 0}, {6, 21, 1, 7, 7, 7}};
        for (int k = 0; k < 4; k++) {
            for (int what = 1; what <= 6; what++) {
                Check.due("reading " + k + " " + what, x.reading(k, what), want[k][what - 1]);
            }
        }
    }

    private static void periodOfTheSameEngine() {
        Check.says("the READING of that ENGINE ahead (or its coming)");
        SavedThird x = plain(1, 9999);
        goWith(x, 30);
        x.read(0);
        goWith(x, 40);
        x.engine(0, 1, 1, 9999, 9999, 0);
        goWith(x, 50);
        goWith(x, 60);
        x.read(0);
        int[] want = {1, 4, 110, 2, 110, 10110, 2};
        for (int what = 0; what < want.length; what++) {
            Check.due("the new one's reading " + what, x.reading(1, what), want[what]);
        }
        x.mine(5, 5, 1, 1);
        x.engine(1, 1, 1, 1, 1, 0);
        x.month();
        x.read(1);
        x.read(0);
        Check.due("another mine's reading is not ahead", x.reading(3, 3), 1);
        Check.due("nor ahead of its coming", x.reading(2, 3), 1);
    }

    private static void leastGoesRound() {
        Check.says("at LEAST the difference of what was shown (modulo 10000; from 0 at its coming)");
        SavedThird x = plain(1, 9999);
        int[] strokes = {9999, 1, 0, 9996, 4, 5000, 5000, 9999, 9999};
        int[] shown = {9999, 0, 0, 9996, 0, 5000, 0, 9999, 9998};
        for (int i = 0; i < strokes.length; i++) {
            goWith(x, strokes[i]);
            x.read(0);
            Check.due("shown " + i, x.reading(i, 2), shown[i]);
            Check.due("least " + i, x.reading(i, 4), strokes[i]);
            Check.due("most " + i, x.reading(i, 5), strokes[i]);
        }
    }

    private static void mostByTenThousands() {
        Check.says("at MOST: as many 10000 more as leave it no more than MOST strokes a month times months");
        int[][] want = {
            // MOST, strokes of two months, at MOST
            {5000, 0, 0, 10000}, {5000, 1, 0, 1}, {4999, 0, 0, 0}, {9999, 9999, 9999, 19998}, {9999, 9999, 0, 9999},
            {9999, 9000, 998, 19998}, {9999, 5000, 5000, 10000}, {5000, 5000, 5000, 10000}, {5000, 5000, 4998, 9998},
            {7500, 2500, 2500, 15000}, {7500, 2501, 2500, 5001}, {1, 1, 1, 2},
        };
        for (int[] w : want) {
            SavedThird x = plain(1, w[0]);
            goWith(x, w[1]);
            goWith(x, w[2]);
            x.read(0);
            Check.due("least of " + w[0] + " " + w[1] + " " + w[2], x.reading(0, 4), (w[1] + w[2]) % 10000);
            Check.due("most of " + w[0] + " " + w[1] + " " + w[2], x.reading(0, 5), w[3]);
        }
        Check.says("(LEAST, if there are none)");
        SavedThird x = plain(1, 9999);
        goWith(x, 0);
        x.read(0);
        Check.due("one month", x.reading(0, 5), 0);
        x.read(0);
        Check.due("no month", x.reading(1, 5), 0);
    }

    private static void theLongestPeriod() {
        Check.says("MOST strokes a month times months");
        SavedThird x = plain(99, 9999);
        Check.months(x, 60);
        x.read(0);
        Check.due("60 months", x.reading(0, 3), 60);
        Check.due("least", x.reading(0, 4), 0);
        Check.due("599940 is the bound", x.reading(0, 5), 590000);
        Check.told(x, "share 0 1;", 1);
        Check.due("owed at least", x.reading(0, 7), 0);
        Check.due("owed at most: 100000 bushels", x.reading(0, 8), 9900000);
        Check.due("of the mine", x.owed(0, 1), 9900000);
    }

    /** 3000 strokes in two months each: 6000 at least, 16000 at most; two bushels burned. */
    private static SavedThird wideSpan() {
        SavedThird x = plain(1, 9999);
        Check.told(x, "share 0 1;", 1);
        goWith(x, 3000);
        goWith(x, 3000);
        x.read(0);
        return x;
    }

    private static void owedAtLeastAndAtMost() {
        Check.says("by strokes at LEAST, or at MOST");
        SavedThird x = wideSpan();
        Check.due("reading at least", x.reading(0, 7), 5998);
        Check.due("reading at most", x.reading(0, 8), 15998);
        Check.due("owed at least", x.owed(0, 0), 5998);
        Check.due("owed at most", x.owed(0, 1), 15998);
        Check.due("arrears at least", x.owed(0, 3), 5998);
        Check.due("known at least", x.known(0, 2), 5998);
        Check.due("pay at least", x.pay(0, 5998), 0);
        Check.due("no arrears", x.owed(0, 3), 0);
        x.month();
        Check.due("not late", x.owed(0, 4), 0);
    }

    private static void lateByTheLeast() {
        Check.says("up to which OWED (at LEAST), summed, is above all that is PAID");
        SavedThird x = wideSpan();
        Check.months(x, 3);
        x.pay(0, 5998);
        Check.due("all of the least is paid", x.stop(0), STATE);
        x = wideSpan();
        Check.months(x, 3);
        x.pay(0, 5997);
        Check.due("a coin less", x.stop(0), 0);
        x.pay(0, 1);
        Check.due("goes when the least is paid", x.go(0), 1);
    }

    private static void shareIsDividedDown() {
        Check.says("SAVED times COIN by that number, divided down");
        SavedThird x = plain(99, 9999);
        goWith(x, 101);
        x.read(0);
        int[] want = {9900, 4950, 3300, 2475, 1980, 1650, 1414, 1237, 1100};
        for (int part = 1; part <= 9; part++) {
            Check.told(x, "share 0 " + part + ";", 1);
            Check.due("100 bushels at 99 by " + part, x.reading(0, 7), want[part - 1]);
        }
        int[][] saved = {{1, 0}, {2, 0}, {3, 1}, {5, 1}, {6, 2}};
        for (int[] w : saved) {
            x = plain(1, 9999);
            Check.told(x, "share 0 3;", 1);
            goWith(x, w[0] + 1);
            x.read(0);
            Check.due("a third of " + w[0], x.reading(0, 7), w[1]);
        }
    }

    private static void savedIsZeroAtLeast() {
        Check.says("SAVED: OLD COAL for its strokes less COAL burned in the PERIOD, 0 at least");
        int[][] trials = {{10, 0}, {11, 3}, {9, 0}, {1, 0}, {110, 300}};
        for (int[] w : trials) {
            SavedThird x = new SavedThird();
            x.mine(0, 0, 1, 3);
            x.trial(0, 100, 1, w[0]);
            x.engine(0, 1, 1, 10, 9999, 0);
            Check.told(x, "share 0 1;", 1);
            goWith(x, 100);
            x.read(0);
            Check.due("old " + w[0] + ", new 10", x.reading(0, 7), w[1]);
            Check.due("at most too", x.reading(0, 8), w[1]);
        }
    }

    private static void oldCoalAtMost() {
        Check.says("OLD COAL .. 100000 at most");
        int[][] want = {{271, 369, 99998}, {1000, 100, 99999}, {11, 9091, 99999}, {1000, 101, 99999}, {9999, 9999, 99999}};
        for (int[] w : want) {
            SavedThird x = plain(1, 9999);
            x.trial(0, 1, 1, w[1]);
            Check.told(x, "share 0 1;", 1);
            goWith(x, w[0]);
            x.read(0);
            Check.due("burned", x.reading(0, 6), 1);
            Check.due(w[0] + " strokes at " + w[1], x.reading(0, 7), w[2]);
        }
        Check.says("OLD COAL .. divided down");
        int[][] parts = {{13, 0}, {14, 1}, {15, 1}, {20, 1}, {21, 2}};
        for (int[] w : parts) {
            SavedThird x = plain(1, 9999);
            x.trial(0, 7, 1, 1);
            Check.told(x, "share 0 1;", 1);
            goWith(x, w[0]);
            x.read(0);
            Check.due(w[0] + " by 7, less 1", x.reading(0, 7), w[1]);
        }
    }

    private static void coinOfTheLastMonth() {
        Check.says("COIN (of the last month of the PERIOD)");
        SavedThird x = plain(5, 9999);
        Check.told(x, "share 0 1;", 1);
        goWith(x, 101);
        x.change(0, 1, 7);
        goWith(x, 0);
        x.change(0, 1, 9);
        x.read(0);
        Check.due("neither the first nor NOW's", x.reading(0, 7), 700);
        goWith(x, 101);
        x.read(0);
        Check.due("what NOW's was", x.reading(1, 7), 900);
        x.change(0, 1, 99);
        Check.due("a reading keeps it", x.reading(1, 7), 900);
    }

    private static void coinOfMonth59() {
        Check.says("COIN (of the last month of the PERIOD)");
        SavedThird x = plain(5, 9999);
        Check.told(x, "share 0 1;", 1);
        Check.months(x, 59);
        x.change(0, 1, 7);
        goWith(x, 101);
        x.change(0, 1, 9);
        x.read(0);
        Check.due("coin 7", x.reading(0, 7), 700);
    }

    private static void holdsInItsMonth() {
        Check.says("by what HOLDS in its month (NOW then)");
        SavedThird x = plain(1, 9999);
        goWith(x, 0);
        goWith(x, 0);
        goWith(x, 101);
        x.read(0);
        goWith(x, 51);
        x.read(0);
        String[] texts = {"from 2share 0 1;", "from 3share 0 1;", "from 4share 0 1;", "from 5share 0 1;", "share 0 1;from 4fixed 0 9;",
            "fixed 0 9;from 3share 0 2;from 4fixed 0 8;"};
        int[][] want = {{100, 50}, {100, 50}, {0, 50}, {0, 0}, {100, 9}, {50, 8}};
        for (int i = 0; i < texts.length; i++) {
            Check.lay(x, texts[i]);
            x.text();
            Check.due("month 3 by " + texts[i], x.reading(0, 7), want[i][0]);
            Check.due("month 4 by " + texts[i], x.reading(1, 7), want[i][1]);
            Check.due("both", x.owed(0, 0), want[i][0] + want[i][1]);
        }
    }

    private static void nothingHolds() {
        Check.says("If none: nothing is OWED");
        SavedThird x = plain(1, 9999);
        goWith(x, 101);
        x.read(0);
        Check.due("no line", x.reading(0, 7), 0);
        Check.due("at most", x.reading(0, 8), 0);
        Check.due("owed", x.owed(0, 1), 0);
        Check.due("pay nothing", x.pay(0, 0), 0);
        Check.told(x, "share 1 1;fixed 5 9;stop 0 1;again 0 1;part a 9;wide;", 6);
        Check.due("lines of others", x.reading(0, 7), 0);
        Check.due("arrears", x.owed(0, 3), 0);
        Check.due("not late", x.stop(0), STATE);
    }

    private static void fixedTimesMonths() {
        Check.says("fixed: coins times months of the PERIOD; 0: .. a PERIOD of no months");
        SavedThird x = plain(1, 9999);
        x.read(0);
        x.month();
        x.read(0);
        x.month();
        x.month();
        x.read(0);
        int[] coins = {0, 1, 9999};
        for (int c : coins) {
            Check.told(x, "fixed 0 " + c + ";", 1);
            for (int k = 0; k < 3; k++) {
                Check.due(k + " months at " + c, x.reading(k, 7), k * c);
                Check.due("at most", x.reading(k, 8), k * c);
            }
        }
        x = plain(1, 9999);
        Check.told(x, "fixed 0 9999;", 1);
        Check.months(x, 60);
        x.read(0);
        Check.due("60 months", x.reading(0, 7), 599940);
    }

    private static void nothingIsOwed() {
        Check.says("0: an ENGINE of another KIND, no TRIAL yet, a PERIOD of no months");
        for (int kind = 0; kind <= 2; kind++) {
            for (int trial = 0; trial <= 1; trial++) {
                SavedThird x = new SavedThird();
                x.mine(0, 0, 1, 1);
                if (trial == 1) {
                    x.trial(0, 1, 1, 1);
                }
                x.engine(0, kind, 1, 9999, 9999, 0);
                goWith(x, 101);
                x.read(0);
                x.read(0);
                boolean owes = kind == 1 && trial == 1;
                Check.told(x, "share 0 1;", 1);
                Check.due("share, kind " + kind + ", trial " + trial, x.reading(0, 7), owes ? 100 : 0);
                Check.due("no months", x.reading(1, 7), 0);
                Check.told(x, "fixed 0 4;", 1);
                Check.due("fixed, kind " + kind + ", trial " + trial, x.reading(0, 7), owes ? 4 : 0);
                Check.due("at most", x.reading(0, 8), owes ? 4 : 0);
                Check.due("no months", x.reading(1, 8), 0);
            }
        }
    }

    private static void trialsCountBehind() {
        Check.says("A TRIAL counts for READINGS behind it");
        SavedThird x = new SavedThird();
        x.mine(0, 0, 1, 1);
        x.engine(0, 1, 1, 9999, 9999, 0);
        Check.told(x, "share 0 1;", 1);
        goWith(x, 101);
        x.read(0);
        x.trial(0, 1, 1, 1);
        Check.due("a reading ahead of it", x.reading(0, 7), 0);
        goWith(x, 101);
        x.trial(0, 1, 1, 2);
        x.read(0);
        x.trial(0, 1, 1, 3);
        Check.due("the latest one ahead", x.reading(1, 7), 201);
        goWith(x, 101);
        x.read(0);
        Check.due("the one behind that", x.reading(2, 7), 302);
        Check.due("no trial, still", x.reading(0, 7), 0);
    }

    /** Whether a reading is AGAIN that many deeper (or less deep) than the trial at 150. */
    private static int againAt(String text, int other) {
        SavedThird x = new SavedThird();
        x.mine(0, 0, 150, 1);
        x.trial(0, 1, 1, 1);
        x.engine(0, 1, 1, 1, 1, 0);
        x.change(0, 0, 150 + other);
        Check.lay(x, text);
        x.text();
        x.read(0);
        return x.reading(0, 9);
    }

    private static void againByOne() {
        Check.says("if the DEPTH is other by again or more than that of the TRIAL");
        for (int again : new int[] {1, 2, 50, 98, 99}) {
            for (int sign = -1; sign <= 1; sign += 2) {
                String text = "again 0 " + again + ";";
                Check.due(text + " one less", againAt(text, sign * (again - 1)), 0);
                Check.due(text + " just that", againAt(text, sign * again), 1);
                Check.due(text + " one more", againAt(text, sign * (again + 1)), 1);
            }
        }
        Check.due("as deep", againAt("again 0 1;", 0), 0);
        Check.due("deepest", againAt("again 0 1;", 150), 1);
        Check.due("least deep", againAt("again 0 1;", -149), 1);
    }

    private static void againByDefault() {
        Check.says("If none: .. again 99");
        Check.due("98 deeper", againAt("", 98), 0);
        Check.due("99 deeper", againAt("", 99), 1);
        Check.due("98 less deep", againAt("", -98), 0);
        Check.due("99 less deep", againAt("", -99), 1);
        Check.due("another mine's again", againAt("again 1 1;", 98), 0);
        Check.says("that of the TRIAL (the latest one ahead of the READING)");
        SavedThird x = new SavedThird();
        x.mine(0, 0, 1, 1);
        x.engine(0, 1, 1, 1, 1, 0);
        x.change(0, 0, 300);
        x.read(0);
        Check.due("no trial", x.reading(0, 9), 0);
        x.trial(0, 1, 1, 1);
        x.change(0, 0, 1);
        Check.due("a trial behind it", x.reading(0, 9), 0);
        x.read(0);
        Check.due("a trial ahead", x.reading(1, 9), 1);
        x.trial(0, 1, 1, 1);
        Check.due("that reading stays", x.reading(1, 9), 1);
        x.read(0);
        Check.due("the latest trial", x.reading(2, 9), 0);
    }

    private static void againInItsMonth() {
        Check.says("by what HOLDS in its month (NOW then)");
        SavedThird x = new SavedThird();
        x.mine(0, 0, 100, 1);
        x.trial(0, 1, 1, 1);
        x.engine(0, 1, 1, 1, 1, 0);
        x.change(0, 0, 110);
        for (int month = 0; month < 3; month++) {
            x.read(0);
            x.month();
        }
        Check.told(x, "from 1again 0 10;from 2again 0 11;", 2);
        int[] want = {0, 1, 0};
        for (int k = 0; k < 3; k++) {
            Check.due("in month " + k, x.reading(k, 9), want[k]);
        }
        x.change(0, 0, 300);
        Check.due("the depth of the reading", x.reading(0, 9), 0);
    }

    private static void againChangesNoSum() {
        Check.says("(nothing of what is OWED is changed by that)");
        SavedThird x = plain(1, 9999);
        goWith(x, 101);
        x.change(0, 0, 300);
        x.read(0);
        Check.told(x, "share 0 1;", 1);
        Check.due("again", x.reading(0, 9), 1);
        Check.due("owed", x.reading(0, 7), 100);
        Check.told(x, "fixed 0 3;", 1);
        Check.due("owed", x.reading(0, 7), 3);
    }

    private static void paidToTheCoin() {
        Check.says("PAID: coins (0 to 99999 each time). ARREARS .. (can be below 0); 3 ARREARS (0, if they are below)");
        SavedThird x = plain(1, 9999);
        x.mine(1, 1, 1, 1);
        Check.told(x, "fixed 0 100;", 1);
        Check.months(x, 2);
        x.read(0);
        int[] coins = {0, 198, 1, 1, 1, 99999, 99999};
        int[] arrears = {200, 2, 1, 0, -1, -100000, -199999};
        for (int i = 0; i < coins.length; i++) {
            Check.due("pay " + coins[i], x.pay(0, coins[i]), arrears[i]);
            Check.due("arrears", x.owed(0, 3), Math.max(0, arrears[i]));
            Check.due("paid", x.owed(0, 2), 200 - arrears[i]);
        }
        Check.due("100000", x.pay(0, 100000), -1000000);
        Check.due("-1", x.pay(0, -1), -1000000);
        Check.due("paid", x.owed(0, 2), 200199);
        Check.due("the other mine's", x.owed(1, 2), 0);
        Check.due("pay there", x.pay(1, 99999), -99999);
        Check.due("alone", x.owed(0, 2), 200199);
    }

    private static void lateToTheCoin() {
        Check.says("LATE: NOW less the month of the first READING of the MINE up to which OWED, summed, is above all that is PAID");
        SavedThird x = plain(1, 9999);
        Check.told(x, "fixed 0 10;", 1);
        Check.due("no reading", x.owed(0, 4), 0);
        x.read(0);
        for (int i = 0; i < 3; i++) {
            x.month();
            x.read(0);
        }
        Check.months(x, 4);
        // 0, 10, 20, 30 in all up to the readings of months 0, 1, 2, 3; NOW is 7.
        int[][] want = {{0, 6}, {9, 6}, {1, 5}, {9, 5}, {1, 4}, {9, 4}, {1, 0}, {1, 0}};
        for (int[] w : want) {
            x.pay(0, w[0]);
            Check.due("behind " + w[0] + " more", x.owed(0, 4), w[1]);
        }
    }

    private static void lateBySeveral() {
        Check.says("(0, if none is so)");
        SavedThird x = plain(1, 9999);
        x.mine(1, 1, 1, 1);
        x.trial(1, 1, 1, 1);
        x.engine(1, 1, 1, 9999, 9999, 0);
        Check.told(x, "from 2fixed 0 10;fixed 1 5;", 2);
        x.month();
        x.read(0);
        x.read(1);
        x.month();
        x.read(0);
        Check.months(x, 2);
        Check.due("nothing was owed in month 1", x.owed(0, 4), 2);
        Check.due("another mine's month 1", x.owed(1, 4), 3);
        Check.told(x, "fixed 0 10;", 1);
        Check.due("as lines are now", x.owed(0, 4), 3);
        Check.due("nothing is owed there", x.owed(1, 4), 0);
        Check.months(x, 56);
        Check.due("NOW 60", x.owed(0, 4), 59);
    }

    private static void knownByMonth() {
        Check.says("OWED at LEAST of a MINE by READINGS of a month up to one (0 to 60), (as lines are now)");
        SavedThird x = plain(1, 9999);
        Check.told(x, "fixed 0 10;", 1);
        Check.due("nothing yet", x.known(0, 60), 0);
        x.month();
        x.read(0);
        Check.months(x, 2);
        x.read(0);
        x.engine(0, 1, 1, 1, 1, 0);
        x.month();
        x.read(0);
        int[][] want = {{0, 0}, {1, 10}, {2, 10}, {3, 30}, {4, 40}, {5, 40}, {60, 40}};
        for (int[] w : want) {
            Check.due("known in " + w[0], x.known(0, w[0]), w[1]);
        }
        x.pay(0, 25);
        Check.due("what is paid does not count", x.known(0, 4), 40);
        Check.told(x, "from 4fixed 0 1;", 1);
        Check.due("as lines are now", x.known(0, 60), 1);
        Check.due("as lines are now", x.known(0, 3), 0);
    }

    private static void stopByDefault() {
        Check.says("STATE: .. LATE is below stop; If none: .. stop 3");
        SavedThird x = plain(1, 9999);
        Check.told(x, "fixed 0 1;", 1);
        x.month();
        x.read(0);
        for (int late = 0; late < 3; late++) {
            Check.due("late", x.owed(0, 4), late);
            Check.due("late " + late, x.stop(0), STATE);
            Check.due("works on", x.of(0, 9), 1);
            x.month();
        }
        Check.due("late 3", x.stop(0), 0);
        Check.due("stopped", x.of(0, 10), 1);
    }

    private static void stopAtItsBounds() {
        Check.says("the makers may STOP a NEW ENGINE, if that is stop or more");
        for (int stop : new int[] {1, 2, 24}) {
            SavedThird x = plain(1, 9999);
            Check.told(x, "fixed 0 1;stop 0 " + stop + ";stop 1 1;", 3);
            Check.due("no reading", x.stop(0), STATE);
            x.month();
            x.read(0);
            Check.months(x, stop - 1);
            Check.due("a month less than " + stop, x.stop(0), STATE);
            x.month();
            Check.due("just " + stop, x.stop(0), 0);
        }
        SavedThird x = plain(1, 9999);
        Check.told(x, "fixed 0 1;stop 0 1;from 4stop 0 24;", 3);
        x.month();
        x.read(0);
        Check.months(x, 3);
        Check.due("as it holds now", x.stop(0), STATE);
        Check.told(x, "fixed 0 1;stop 0 24;from 4stop 0 3;", 3);
        Check.due("as it holds now", x.stop(0), 0);
    }

    private static void stopOfKinds() {
        Check.says("STATE: none of that KIND works");
        for (int kind = 0; kind <= 2; kind++) {
            SavedThird x = plain(1, 9999);
            Check.told(x, "fixed 0 1;stop 0 1;", 2);
            x.month();
            x.read(0);
            x.month();
            Check.due("another comes", x.engine(0, kind, 1, 1, 1, 0), 1);
            Check.due("late by the one ahead, kind " + kind, x.stop(0), kind == 1 ? 1 : STATE);
            Check.due("the one ahead", x.of(0, 10), 0);
        }
    }

    /** A stopped engine whose mine owes 10. */
    private static SavedThird stopped() {
        SavedThird x = plain(1, 9999);
        Check.told(x, "fixed 0 10;", 1);
        x.month();
        x.read(0);
        Check.months(x, 3);
        Check.due("stopped", x.stop(0), 0);
        return x;
    }

    private static void goToTheCoin() {
        Check.says("STATE: it is not STOPPED, .. or ARREARS are above 0");
        int[] coins = {0, 9, 10, 11};
        for (int c : coins) {
            SavedThird x = stopped();
            x.pay(0, c);
            Check.due("paid " + c, x.go(0), c < 10 ? STATE : 1);
            Check.due("works", x.of(0, 9), c < 10 ? 0 : 1);
            Check.due("stopped", x.of(0, 10), c < 10 ? 1 : 0);
            Check.due("once more", x.go(0), STATE);
        }
        SavedThird x = stopped();
        Check.told(x, "fixed 0 0;", 1);
        Check.due("arrears as lines are now", x.go(0), 1);
    }

    private static void goTheLatestAlone() {
        Check.says("A STOPPED ENGINE that is the latest of its MINE goes again");
        SavedThird x = stopped();
        x.pay(0, 99);
        x.engine(0, 1, 1, 1, 1, 0);
        Check.due("not the latest", x.go(0), STATE);
        Check.due("the latest is not stopped", x.go(1), STATE);
        Check.due("still stopped", x.of(0, 10), 1);
        Check.due("the other works", x.at(0, 2), 1);
        x = stopped();
        x.mine(5, 5, 1, 1);
        x.engine(1, 1, 1, 1, 1, 0);
        x.pay(1, 50);
        Check.due("another mine's coins", x.go(0), STATE);
        x.pay(0, 10);
        Check.due("the latest of its mine, though not of all", x.go(0), 1);
    }
}
