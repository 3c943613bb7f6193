/** Promises 28 to 30 at their edges: the least and the most months, wet and dry, the stop, fair to the coin. */
public final class ChoicesEdgesTest {
    private static final long BAD = -10000000000L, STATE = -10000000002L;
    private static final int NONE = -4;

    public static void main(String[] args) {
        oreOfDryMonths();
        builtForB();
        wetByMost();
        theYearGoesRound();
        behindTheLastMonth();
        asNow();
        paidMonthByMonth();
        fixedMonthByMonth();
        whatHoldsNow();
        theLatestTrial();
        withoutTrial();
        dutyOfTheTrial();
        dutyOfTheTrialIsOneAtLeast();
        ageGoesOn();
        stoppedAfterStop();
        stopByDefault();
        othersAreNotStopped();
        theMostCoal();
        refusedInOrder();
        bestOfThoseAlike();
        bestWithoutTrial();
        fairUpTo9999();
        fairFromZero();
        fairIsDividedUp();
        fairIsDividedDown();
        fairWithinTheBounds();
        fairForOthers();
        Check.close("ChoicesEdgesTest");
    }

    /** Depth 1, load 1, so that strokes are the water; the old engine burned 10 for 10, the working one burns 1. */
    private static SavedThird plain(int kind, int water) {
        SavedThird x = new SavedThird();
        x.mine(0, 0, 1, 1);
        Check.flood(x, 0, water);
        x.trial(0, 1, 1, 1);
        x.engine(0, kind, 1, 9999, 9999, 0);
        return x;
    }

    private static void brings(SavedThird x, int n, int ore, int built, long a, long b, long c) {
        Check.due("a over " + n, x.brings(0, 0, n, ore, built), a);
        Check.due("b over " + n, x.brings(0, 1, n, ore, built), b);
        Check.due("c over " + n, x.brings(0, 2, n, ore, built), c);
    }

    private static void oreOfDryMonths() {
        Check.says("n months from NOW (1 to 24); ore 0 to 9999; ore for each month that is not WET");
        SavedThird x = plain(1, 0);
        brings(x, 1, 0, 0, 0, 0, 0);
        brings(x, 1, 1, 0, 1, 1, 1);
        brings(x, 1, 9999, 0, 9999, 9999, 9999);
        brings(x, 24, 9999, 0, 239976, 239976, 239976);
        brings(x, 24, 0, 0, 0, 0, 0);
    }

    private static void builtForB() {
        Check.says("less what is built; built 0 to 99999");
        SavedThird x = plain(1, 0);
        brings(x, 1, 5, 1, 5, 4, 5);
        brings(x, 24, 9999, 99999, 239976, 139977, 239976);
        brings(x, 1, 0, 99999, 0, -99999, 0);
    }

    private static void wetByMost() {
        Check.says("WATER, DEPTH as now .. ore for each month that is not WET");
        int[][] want = {{9, 0, 1}, {10, 1, 1}, {11, 1, 1}};
        for (int[] w : want) {
            SavedThird x = new SavedThird();
            x.mine(0, 0, 1, 1);
            x.water(0, 0, 10);
            x.trial(0, 9999, 1, 1);
            x.engine(0, 1, 1, 9999, w[0], 0);
            brings(x, 1, 100, 0, 100 * w[1] - 1, 100 * w[1] - 1, 100 * w[1] - 1);
            brings(x, 2, 100, 0, 100 * w[1] + 99, 100 * w[1] + 99, 100 * w[1] + 99);
        }
        Check.says("b: an OLD ENGINE (LOAD of the working one, MOST of it ..)");
        SavedThird x = new SavedThird();
        x.mine(0, 0, 10, 1);
        x.water(0, 0, 10);
        x.trial(0, 1, 1, 1);
        x.engine(0, 1, 3, 9999, 33, 0);
        Check.due("34 is needed, 33 are made at load 3", x.brings(0, 1, 1, 100, 0), -99);
        x.engine(0, 1, 3, 9999, 34, 0);
        Check.due("34 are made at load 3", x.brings(0, 1, 1, 100, 0), 100 - 102);
    }

    private static void theYearGoesRound() {
        Check.says("for n months from NOW (WATER as now)");
        SavedThird x = new SavedThird();
        x.mine(0, 0, 1, 1);
        x.trial(0, 1, 1, 1);
        x.engine(0, 0, 1, 9999, 1, 0);
        x.water(0, 11, 2);
        x.water(0, 0, 1);
        Check.months(x, 11);
        // Month 11 is wet, months 12 and 24 burn one bushel, 23 is wet.
        Check.due("month 11", x.brings(0, 0, 1, 100, 0), -1);
        Check.due("11 and 12", x.brings(0, 0, 2, 100, 0), 98);
        Check.due("11 to 22", x.brings(0, 0, 12, 100, 0), 1098);
        Check.due("11 to 23", x.brings(0, 0, 13, 100, 0), 1097);
        Check.due("11 to 24", x.brings(0, 0, 14, 100, 0), 1196);
        Check.due("11 to 34", x.brings(0, 0, 24, 100, 0), 2196);
    }

    private static void behindTheLastMonth() {
        Check.says("for n months from NOW");
        SavedThird x = plain(1, 0);
        x.water(0, 0, 1);
        x.water(0, 11, 1);
        Check.months(x, 60);
        x.mend(0);
        Check.told(x, "fixed 0 3;", 1);
        Check.due("at NOW 60", x.brings(0, 0, 1, 100, 0), 96);
        Check.due("a year", x.brings(0, 0, 12, 100, 0), 1200 - 2 - 36);
        Check.due("two years", x.brings(0, 0, 24, 100, 0), 2400 - 4 - 72);
        Check.due("no month went", x.count(0), 60);
    }

    private static void asNow() {
        Check.says("WATER, DEPTH, COIN as now, .. BOXES are well");
        SavedThird x = plain(1, 10);
        Check.told(x, "share 0 1;", 1);
        x.stick(0, true);
        // 10 strokes: 10 saved less 1, in coins.
        Check.due("by strokes as they are", x.brings(0, 0, 1, 100, 0), 100 - 1 - 9);
        x.change(0, 1, 3);
        Check.due("coin", x.brings(0, 0, 1, 100, 0), 100 - 3 - 27);
        x.change(0, 0, 2);
        Check.due("depth", x.brings(0, 0, 1, 100, 0), 100 - 3 - 57);
        x.water(0, 0, 0);
        Check.due("water", x.brings(0, 0, 1, 100, 0), 100);
    }

    private static void paidMonthByMonth() {
        Check.says("pays month by month what HOLDS now");
        SavedThird x = plain(1, 3);
        Check.told(x, "share 0 3;", 1);
        // 2 bushels saved a month: a third of that is nothing.
        Check.due("one month", x.brings(0, 0, 1, 100, 0), 99);
        Check.due("24 months", x.brings(0, 0, 24, 100, 0), 2400 - 24);
        x.water(0, 1, 4);
        Check.due("3 bushels in the second", x.brings(0, 0, 24, 100, 0), 2400 - 24 - 2);
        Check.told(x, "share 0 9;", 1);
        Check.due("a ninth", x.brings(0, 0, 24, 100, 0), 2400 - 24);
        x.trial(0, 9999, 1, 1);
        Check.told(x, "share 0 1;", 1);
        Check.due("less than nothing is not saved", x.brings(0, 0, 24, 100, 0), 2400 - 24);
        x.trial(0, 1, 1, 9999);
        Check.flood(x, 0, 11);
        Check.due("100000 bushels at most", x.brings(0, 0, 2, 0, 0), -2 - 2 * 99999);
    }

    private static void fixedMonthByMonth() {
        Check.says("pays month by month what HOLDS now");
        SavedThird x = plain(1, 0);
        Check.told(x, "fixed 0 9999;", 1);
        Check.due("1 month", x.brings(0, 0, 1, 0, 0), -9999);
        Check.due("24 months", x.brings(0, 0, 24, 9999, 0), 0);
        Check.told(x, "fixed 0 0;", 1);
        Check.due("nothing", x.brings(0, 0, 24, 9999, 0), 239976);
    }

    private static void whatHoldsNow() {
        Check.says("what HOLDS now");
        SavedThird x = plain(1, 0);
        Check.months(x, 5);
        String[] texts = {"from 4fixed 0 3;", "from 5fixed 0 3;", "from 6fixed 0 3;", "fixed 0 3;from 5share 0 1;", "fixed 1 3;"};
        int[] want = {94, 94, 100, 100, 100};
        for (int i = 0; i < texts.length; i++) {
            Check.lay(x, texts[i]);
            x.text();
            Check.due("by " + texts[i], x.brings(0, 0, 2, 50, 0), want[i]);
        }
    }

    private static void theLatestTrial() {
        Check.says("the latest TRIAL");
        SavedThird x = plain(1, 10);
        Check.told(x, "share 0 1;", 1);
        x.month();
        x.read(0);
        x.trial(0, 1, 1, 2);
        x.mend(0);
        brings(x, 1, 0, 0, -1 - 19, -10, -1);
        x.trial(0, 2, 1, 1);
        brings(x, 1, 0, 0, -1 - 4, -5, -1);
    }

    private static void withoutTrial() {
        Check.says("nothing without one; STATE: no ENGINE works, or (way 1) no TRIAL");
        SavedThird x = new SavedThird();
        x.mine(0, 0, 1, 1);
        x.engine(0, 1, 1, 9999, 9999, 0);
        Check.flood(x, 0, 10);
        for (String text : new String[] {"share 0 1;", "fixed 0 9;", ""}) {
            Check.lay(x, text);
            x.text();
            brings(x, 1, 0, 0, -1, STATE, -1);
        }
        x.trial(0, 1, 1, 1);
        brings(x, 1, 0, 0, -1, -10, -1);
    }

    private static void dutyOfTheTrial() {
        Check.says("DUTY of the TRIAL: s times l by c, divided down");
        // 12 strokes at load 1.
        int[][] want = {{10, 1, 1, 2}, {12, 1, 1, 1}, {11, 1, 1, 2}, {10, 1, 3, 4}, {9, 1, 3, 4}, {11, 1, 3, 4}, {12, 1, 3, 3},
            {3, 4, 1, 1}, {3, 4, 2, 2}, {3, 4, 5, 6}, {9999, 99, 1, 1}, {9999, 99, 9999, 1}};
        for (int[] w : want) {
            SavedThird x = plain(1, 12);
            x.trial(0, w[0], w[1], w[2]);
            Check.due("duty of " + w[0] + " " + w[1] + " " + w[2], x.brings(0, 1, 1, 0, 0), -w[3]);
        }
    }

    private static void dutyOfTheTrialIsOneAtLeast() {
        Check.says("divided down, 1 at least; AGE 0");
        int[][] trials = {{1, 1, 1}, {1, 1, 2}, {1, 1, 9999}, {9999, 1, 9999}, {9998, 1, 9999}};
        for (int[] t : trials) {
            SavedThird x = plain(1, 12);
            x.trial(0, t[0], t[1], t[2]);
            Check.due("duty 1", x.brings(0, 1, 24, 0, 0), -12 * 24);
        }
    }

    private static void ageGoesOn() {
        Check.says("AGE 0 .. AGE goes on");
        SavedThird x = new SavedThird();
        x.mine(0, 0, 99, 1);
        Check.flood(x, 0, 100);
        x.engine(0, 0, 1, 100, 9999, 0);
        x.trial(0, 100, 1, 1);
        // 9900 by 100, 99, 98, 97, 96: 99, 100, 102, 103, 104.
        Check.due("a, a month", x.brings(0, 0, 1, 0, 0), -99);
        Check.due("a, two months", x.brings(0, 0, 2, 0, 0), -199);
        Check.due("b, two months", x.brings(0, 1, 2, 0, 0), -199);
        x.month();
        x.month();
        Check.due("a from age 2", x.brings(0, 0, 3, 0, 0), -(102 + 103 + 104));
        Check.due("c from age 2", x.brings(0, 2, 3, 0, 0), -(102 + 103 + 104));
        Check.due("b from age 0", x.brings(0, 1, 3, 0, 0), -(99 + 100 + 102));
        Check.due("its own age stays", x.of(0, 6), 2);
    }

    private static void stoppedAfterStop() {
        Check.says("c: .. a NEW one is STOPPED after stop months (as it HOLDS now)");
        for (int stop : new int[] {1, 2, 23, 24}) {
            SavedThird x = plain(1, 10);
            Check.told(x, "fixed 0 5;stop 0 " + stop + ";", 2);
            for (int n = Math.max(1, stop - 1); n <= Math.min(24, stop + 1); n++) {
                int works = Math.min(n, stop);
                Check.due("stop " + stop + " of " + n, x.brings(0, 2, n, 100, 0), works * 99);
            }
            Check.flood(x, 0, 0);
            Check.due("dry without water", x.brings(0, 2, 24, 100, 0), 2400);
        }
        SavedThird x = plain(1, 10);
        Check.months(x, 5);
        Check.told(x, "stop 0 2;from 5stop 0 4;from 6stop 0 1;", 3);
        Check.due("as it holds now", x.brings(0, 2, 24, 100, 0), 4 * 99);
    }

    private static void stopByDefault() {
        Check.says("If none: .. stop 3");
        SavedThird x = plain(1, 10);
        int[] want = {99, 198, 297, 297, 297};
        for (int n = 1; n <= 5; n++) {
            Check.due("of " + n, x.brings(0, 2, n, 100, 0), want[n - 1]);
        }
        x.water(0, 4, 0);
        Check.due("a dry month behind", x.brings(0, 2, 5, 100, 0), 397);
    }

    private static void othersAreNotStopped() {
        Check.says("c: the working one goes on, nothing is paid; if it is NEW, pays");
        for (int kind = 0; kind <= 2; kind += 2) {
            SavedThird x = plain(kind, 10);
            Check.told(x, "fixed 0 5;stop 0 1;", 2);
            Check.due("a of kind " + kind, x.brings(0, 0, 24, 100, 0), 24 * 99);
            Check.due("c of kind " + kind, x.brings(0, 2, 24, 100, 0), 24 * 99);
        }
    }

    private static void theMostCoal() {
        Check.says("less COAL times COIN (can be below 0)");
        SavedThird x = new SavedThird();
        x.mine(0, 0, 300, 99);
        Check.flood(x, 0, 999);
        x.engine(0, 1, 99, 1, 9999, 0);
        x.trial(0, 1, 1, 9999);
        Check.told(x, "stop 0 24;", 1);
        long burned = -3028L * 99 * 99 * 24;
        brings(x, 24, 0, 99999, burned, burned - 99999, burned);
        Check.told(x, "fixed 0 9999;stop 0 24;", 2);
        brings(x, 24, 9999, 0, burned, burned + 9999 * 24, burned + 9999 * 24);
    }

    private static void refusedInOrder() {
        Check.says("BAD -10000000000; STATE -10000000002: the first that fits");
        SavedThird x = new SavedThird();
        x.mine(0, 0, 1, 1);
        Check.due("no engine", x.brings(0, 0, 1, 0, 0), STATE);
        Check.due("no engine, no months", x.brings(0, 0, 0, 0, 0), BAD);
        Check.due("no engine, way 3", x.brings(0, 3, 1, 0, 0), BAD);
        Check.due("no engine, ore", x.brings(0, 0, 1, 10000, 0), BAD);
        Check.due("no engine, built", x.brings(0, 0, 1, 0, 100000), BAD);
        Check.due("best, no engine, no months", x.best(0, 0, 0, 0), -1);
        Check.due("fair, no engine, no months", x.fair(0, 25, 0, 0, 0), -1);
        Check.due("fair, no engine, what", x.fair(0, 1, 0, 0, 2), -1);
        x.engine(0, 1, 1, 9999, 9999, 0);
        Check.due("no trial, built", x.brings(0, 1, 1, 0, 100000), BAD);
        Check.due("no trial, what", x.fair(0, 1, 0, 0, -1), -1);
        Check.due("no trial", x.fair(0, 1, 0, 0, 1), -2);
        x.trial(0, 9999, 99, 1);
        x.trial(0, 1, 1, 1);
        Check.told(x, "fixed 0 9999;", 1);
        Check.due("there is none", x.fair(0, 1, 0, 0, 1), NONE);
    }

    private static void bestOfThoseAlike() {
        Check.says("The way that brings most (of several the least)");
        SavedThird x = plain(1, 0);
        Check.due("all alike", x.best(0, 24, 9999, 0), 0);
        Check.due("b is built for a coin", x.best(0, 24, 9999, 1), 0);
        Check.told(x, "fixed 0 1;", 1);
        Check.due("b and c alike", x.best(0, 1, 0, 0), 1);
        Check.due("c by a coin", x.best(0, 1, 0, 1), 2);
        Check.flood(x, 0, 10);
        Check.told(x, "fixed 0 9;stop 0 1;", 2);
        // Over two months: a 200 - 2 - 18, b 200 - 20 (less what is built), c 100 - 1.
        Check.due("a and b alike", x.best(0, 2, 100, 0), 0);
        Check.told(x, "fixed 0 10;stop 0 1;", 2);
        Check.due("b by two coins", x.best(0, 2, 100, 1), 1);
        Check.due("a and b alike again", x.best(0, 2, 100, 2), 0);
        Check.told(x, "fixed 0 9;stop 0 1;", 2);
        Check.due("a 180, c 99", x.best(0, 2, 100, 1), 0);
        // By 18 a month and ore 17: a 34 - 20, b 34 - 20, c 17 - 1.
        Check.due("c 16, a and b 14", x.best(0, 2, 17, 0), 2);
        Check.due("c 18, a and b 18", x.best(0, 2, 19, 0), 0);
        Check.due("c 17, a and b 16", x.best(0, 2, 18, 0), 2);
    }

    private static void bestWithoutTrial() {
        Check.says("STATE likewise (b is left out, if there is no TRIAL)");
        SavedThird x = new SavedThird();
        x.mine(0, 0, 1, 1);
        x.engine(0, 1, 1, 1, 9999, 0);
        Check.flood(x, 0, 10);
        Check.told(x, "stop 0 1;", 1);
        Check.due("c burns but one month's coal", x.best(0, 2, 9, 0), 2);
        Check.due("a and c alike", x.best(0, 2, 10, 0), 0);
        Check.due("a", x.best(0, 2, 11, 0), 0);
        x.trial(0, 9999, 1, 1);
        Check.due("b, now", x.best(0, 2, 11, 0), 1);
    }

    private static void fair(SavedThird x, int n, int built, int least, int greatest) {
        Check.due("least over " + n + " by " + built, x.fair(0, n, 0, built, 0), least);
        Check.due("greatest over " + n + " by " + built, x.fair(0, n, 0, built, 1), greatest);
    }

    private static void fairUpTo9999() {
        Check.says("fixed sums a month (0 to 9999)");
        SavedThird x = plain(1, 0);
        fair(x, 1, 9998, 0, 9998);
        fair(x, 1, 9999, 0, 9999);
        fair(x, 1, 10000, 0, 9999);
        fair(x, 1, 99999, 0, 9999);
        fair(x, 2, 19997, 0, 9998);
        fair(x, 2, 19998, 0, 9999);
        fair(x, 10, 99989, 0, 9998);
        fair(x, 10, 99990, 0, 9999);
        fair(x, 24, 99999, 0, 4166);
        Check.told(x, "fixed 0 9999;", 1);
        fair(x, 1, 9998, NONE, NONE);
        fair(x, 1, 9999, 9999, 9999);
        fair(x, 1, 99999, 9999, 9999);
        fair(x, 24, 99999, NONE, NONE);
    }

    private static void fairFromZero() {
        Check.says("by which over n months the MINE brings as much as by b at least; NONE: there is none");
        SavedThird x = plain(1, 0);
        fair(x, 1, 0, 0, 0);
        fair(x, 24, 23, 0, 0);
        fair(x, 24, 24, 0, 1);
        // The working engine burns 2 for 10 strokes, the old one 1.
        x = new SavedThird();
        x.mine(0, 0, 1, 1);
        x.water(0, 0, 10);
        x.trial(0, 10, 1, 1);
        x.engine(0, 1, 1, 5, 9999, 0);
        fair(x, 1, 0, NONE, NONE);
        fair(x, 1, 1, 0, 0);
        fair(x, 2, 0, NONE, NONE);
        fair(x, 24, 0, NONE, NONE);
        fair(x, 24, 1, NONE, NONE);
    }

    private static void fairIsDividedUp() {
        Check.says("the makers have no less than by what HOLDS now");
        SavedThird x = plain(1, 0);
        Check.told(x, "share 0 1;", 1);
        // Saved: 3 in the first month, nothing in the others.
        x.water(0, 0, 4);
        fair(x, 1, 1000, 3, 1003);
        fair(x, 2, 1000, 2, 501);
        fair(x, 3, 1000, 1, 334);
        fair(x, 4, 1000, 1, 250);
        x.water(0, 0, 0);
        fair(x, 4, 1000, 0, 250);
        x.water(0, 0, 1);
        fair(x, 4, 1000, 0, 250);
    }

    private static void fairIsDividedDown() {
        Check.says("the MINE brings as much as by b at least");
        SavedThird x = plain(1, 0);
        Check.told(x, "fixed 0 5;", 1);
        fair(x, 3, 14, NONE, NONE);
        fair(x, 3, 15, 5, 5);
        fair(x, 3, 17, 5, 5);
        fair(x, 3, 18, 5, 6);
        Check.told(x, "share 0 1;", 1);
        // Over two months 3 are saved: 2 a month at least; b burns 3 more.
        x.water(0, 0, 4);
        fair(x, 2, 0, NONE, NONE);
        fair(x, 2, 1, 2, 2);
        fair(x, 2, 3, 2, 3);
    }

    private static void fairWithinTheBounds() {
        Check.says("fixed sums a month (0 to 9999) by which .. the makers have no less than by what HOLDS now");
        SavedThird x = new SavedThird();
        x.mine(0, 0, 100, 1);
        x.water(0, 0, 100);
        x.engine(0, 1, 2, 9999, 9999, 0);
        Check.told(x, "share 0 1;", 1);
        // 5000 strokes at load 2 burn 2 bushels; the old engine 10000 times 9999 by s.
        int[][] want = {{9999, 9998}, {9998, 9999}, {9997, NONE}};
        for (int[] w : want) {
            x.trial(0, w[0], 1, 9999);
            fair(x, 1, 99999, w[1], w[1] == NONE ? NONE : 9999);
        }
    }

    private static void fairForOthers() {
        Check.says("the makers have no less than by what HOLDS now");
        for (int kind = 0; kind <= 2; kind += 2) {
            SavedThird x = plain(kind, 10);
            Check.told(x, "fixed 0 50;", 1);
            fair(x, 1, 0, 0, 9);
        }
    }
}
