/** Promises 18 to 24: readings, what is owed and paid, and engines that are stopped. */
public final class SumsTest {

    public static void main(String[] args) {
        readingsAreMade();
        roundTheBox();
        savedShare();
        fixedSum();
        whatOwesNothing();
        trialsAndReadings();
        again();
        payments();
        late();
        known();
        stopped();
        manyReadings();
        Check.close("SumsTest");
    }

    /** A mine whose new engine makes 1000 strokes and burns 50 a month; the old one burned 100. */
    private static SavedThird plain() {
        SavedThird x = new SavedThird();
        x.mine(0, 0, 100, 6);
        Check.flood(x, 0, 200);
        x.trial(0, 1000, 20, 100);
        x.engine(0, 1, 20, 400, 1000, 0);
        return x;
    }

    /** Mended every month, so that it always burns 50. */
    private static void freshMonths(SavedThird x, int n) {
        for (int i = 0; i < n; i++) {
            x.mend(0);
            x.month();
        }
    }

    private static void readingsAreMade() {
        SavedThird x = new SavedThird();
        Check.due("no mine", x.read(0), -1);
        x.mine(0, 0, 100, 5);
        Check.due("no engine", x.read(0), -2);
        Check.due("mine -1", x.read(-1), -1);
        x = plain();
        freshMonths(x, 2);
        Check.due("the first", x.read(0), 0);
        freshMonths(x, 1);
        Check.due("the second", x.read(0), 1);
        Check.due("of no months", x.read(0), 2);
        int[][] want = {
            {0, 2, 2000, 2, 2000, 2000, 100, 0, 0, 0},
            {0, 3, 3000, 1, 1000, 1000, 50, 0, 0, 0},
            {0, 3, 3000, 0, 0, 0, 0, 0, 0, 0},
        };
        for (int k = 0; k < want.length; k++) {
            for (int what = 0; what < want[k].length; what++) {
                Check.due("reading(" + k + ", " + what + ")", x.reading(k, what), want[k][what]);
            }
        }
        Check.due("what -1", x.reading(0, -1), -1);
        Check.due("what 10", x.reading(0, 10), -1);
        Check.due("reading -1", x.reading(-1, 0), -1);
        Check.due("reading 3", x.reading(3, 0), -1);
    }

    private static void roundTheBox() {
        SavedThird x = new SavedThird();
        x.mine(0, 0, 100, 5);
        x.engine(0, 1, 10, 400, 9999, 0);
        Check.flood(x, 0, 600);
        x.month();
        x.read(0);
        Check.due("shown", x.reading(0, 2), 6000);
        Check.due("least", x.reading(0, 4), 6000);
        Check.due("most of one month: 9999", x.reading(0, 5), 6000);
        x.month();
        x.read(0);
        Check.due("shown behind the round", x.reading(1, 2), 2000);
        Check.due("least over the round", x.reading(1, 4), 6000);
        Check.months(x, 5);
        x.read(0);
        Check.due("30000 more", x.reading(2, 2), 2000);
        Check.due("looks like none", x.reading(2, 4), 0);
        Check.due("at most 49995", x.reading(2, 5), 40000);
        x.engine(0, 1, 10, 400, 5000, 0);
        Check.flood(x, 0, 0);
        Check.months(x, 2);
        x.read(0);
        Check.due("a new box shows 0", x.reading(3, 2), 0);
        Check.due("from 0", x.reading(3, 4), 0);
        Check.due("just 10000 may be", x.reading(3, 5), 10000);
        Check.due("two months", x.reading(3, 3), 2);
        Check.due("its engine", x.reading(3, 0), 1);
    }

    private static void savedShare() {
        SavedThird x = plain();
        Check.told(x, "share 0 7;", 1);
        freshMonths(x, 1);
        x.change(0, 1, 9);
        freshMonths(x, 1);
        x.change(0, 1, 99);
        x.read(0);
        // 200 - 100 bushels at 9 coins by 7.
        Check.due("coin of the last month, divided down", x.reading(0, 7), 128);
        Check.due("at most the same", x.reading(0, 8), 128);
        Check.told(x, "share 0 1;", 1);
        Check.due("lines as they are now", x.reading(0, 7), 900);
        Check.told(x, "from 2 share 0 2;from 3 share 0 1;", 2);
        Check.due("what holds in its month", x.reading(0, 7), 450);
        Check.told(x, "from 3 share 0 1;", 1);
        Check.due("nothing holds yet", x.reading(0, 7), 0);
        Check.told(x, "share 1 1;", 1);
        Check.due("another mine's", x.reading(0, 7), 0);
        x.stick(0, true);
        x.month();
        Check.told(x, "share 0 1;", 1);
        x.read(0);
        Check.due("coal is burned, no stroke is shown", x.reading(1, 7), 0);
    }

    private static void fixedSum() {
        SavedThird x = plain();
        Check.told(x, "fixed 0 9999;", 1);
        freshMonths(x, 3);
        x.read(0);
        Check.due("coins times months", x.reading(0, 7), 29997);
        Check.due("at most too", x.reading(0, 8), 29997);
        x.read(0);
        Check.due("no months", x.reading(1, 7), 0);
        Check.months(x, 57);
        x.read(0);
        Check.told(x, "from 59 fixed 0 2;", 1);
        Check.due("read ahead of month 60", x.reading(2, 1), 60);
        Check.due("from 59 holds in 60", x.reading(2, 7), 114);
        Check.due("and not in 3", x.reading(0, 7), 0);
    }

    private static void whatOwesNothing() {
        for (int kind = 0; kind < 3; kind++) {
            SavedThird x = new SavedThird();
            x.mine(0, 0, 100, 5);
            Check.flood(x, 0, 200);
            x.trial(0, 1000, 20, 100);
            x.engine(0, kind, 20, 400, 1000, 0);
            x.month();
            x.read(0);
            Check.told(x, "share 0 1;", 1);
            Check.due("share of kind " + kind, x.reading(0, 7), kind == 1 ? 250 : 0);
            Check.told(x, "fixed 0 7;", 1);
            Check.due("fixed of kind " + kind, x.reading(0, 8), kind == 1 ? 7 : 0);
        }
        SavedThird x = new SavedThird();
        x.mine(0, 0, 100, 5);
        Check.flood(x, 0, 200);
        x.engine(0, 1, 20, 400, 1000, 0);
        x.month();
        x.read(0);
        x.trial(0, 1000, 20, 100);
        Check.told(x, "share 0 1;", 1);
        Check.due("no trial yet", x.reading(0, 7), 0);
        Check.told(x, "fixed 0 7;", 1);
        Check.due("no trial yet, fixed", x.reading(0, 7), 0);
        Check.due("nor again", x.reading(0, 9), 0);
    }

    private static void trialsAndReadings() {
        SavedThird x = plain();
        Check.told(x, "share 0 1;", 1);
        freshMonths(x, 1);
        x.read(0);
        x.trial(0, 1000, 20, 200);
        Check.due("the trial ahead of it", x.reading(0, 7), 300);
        freshMonths(x, 1);
        x.read(0);
        Check.due("the trial ahead of that", x.reading(1, 7), 900);
        x.trial(0, 1, 1, 9999);
        freshMonths(x, 1);
        x.read(0);
        Check.due("old coal 100000 at most", x.reading(2, 7), (100000 - 50) * 6);
        x.trial(0, 9999, 99, 1);
        freshMonths(x, 1);
        x.read(0);
        Check.due("saved 0 at least", x.reading(3, 7), 0);
    }

    private static void again() {
        SavedThird x = plain();
        Check.told(x, "again 0 10;from 2 again 0 20;share 0 1;", 3);
        x.change(0, 0, 109);
        x.month();
        x.read(0);
        Check.due("deeper by 9", x.reading(0, 9), 0);
        x.change(0, 0, 110);
        x.read(0);
        Check.due("deeper by 10", x.reading(1, 9), 1);
        x.change(0, 0, 90);
        x.read(0);
        Check.due("less deep by 10", x.reading(2, 9), 1);
        x.change(0, 0, 300);
        Check.due("a reading keeps its depth", x.reading(0, 9), 0);
        x.change(0, 0, 110);
        x.month();
        x.read(0);
        Check.due("20 from month 2", x.reading(3, 9), 0);
        x.trial(0, 1000, 20, 100);
        x.change(0, 0, 130);
        x.read(0);
        Check.due("other than the latest trial's by 20", x.reading(4, 9), 1);
        Check.told(x, "", 0);
        Check.due("99 if none is told", x.reading(4, 9), 0);
        x.change(0, 0, 209);
        x.read(0);
        Check.due("by 99", x.reading(5, 9), 1);
    }

    private static void payments() {
        SavedThird x = plain();
        Check.told(x, "share 0 1;", 1);
        freshMonths(x, 1);
        x.read(0);
        int[] want = {300, 300, 0, 300, 0, 1};
        for (int what = 0; what < want.length; what++) {
            Check.due("owed(0, " + what + ")", x.owed(0, what), want[what]);
        }
        Check.due("nothing", x.pay(0, 0), 300);
        Check.due("some", x.pay(0, 100), 200);
        Check.due("too many", x.pay(0, 100000), -1000000);
        Check.due("less than none", x.pay(0, -1), -1000000);
        Check.due("no mine", x.pay(1, 1), -1000000);
        Check.due("mine -1", x.pay(-1, 1), -1000000);
        Check.due("paid", x.owed(0, 2), 100);
        Check.due("more than owed", x.pay(0, 99999), -99799);
        Check.due("no arrears", x.owed(0, 3), 0);
        Check.due("what 6", x.owed(0, 6), -1);
        Check.due("what -1", x.owed(0, -1), -1);
        Check.due("no mine", x.owed(1, 0), -1);
        x.engine(0, 1, 20, 400, 1000, 0);
        x.month();
        x.read(0);
        Check.due("readings of all its engines", x.owed(0, 5), 2);
        Check.due("owed for all of them", x.owed(0, 0), 600);
    }

    private static void late() {
        SavedThird x = plain();
        Check.told(x, "fixed 0 10;", 1);
        Check.due("none", x.owed(0, 4), 0);
        x.month();
        x.read(0);
        x.month();
        x.read(0);
        x.month();
        Check.due("since the first", x.owed(0, 4), 2);
        x.pay(0, 9);
        Check.due("not all of the first", x.owed(0, 4), 2);
        x.pay(0, 1);
        Check.due("since the second", x.owed(0, 4), 1);
        x.pay(0, 10);
        Check.due("all is paid", x.owed(0, 4), 0);
        Check.months(x, 3);
        Check.due("still", x.owed(0, 4), 0);
        x.read(0);
        Check.due("now", x.owed(0, 4), 0);
        x.month();
        Check.due("a month", x.owed(0, 4), 1);
    }

    private static void known() {
        SavedThird x = plain();
        x.mine(5, 5, 100, 6);
        Check.flood(x, 1, 200);
        x.trial(1, 1000, 20, 100);
        x.engine(1, 1, 20, 400, 1000, 0);
        Check.told(x, "fixed 0 10;fixed 1 7;", 2);
        x.month();
        x.read(0);
        x.month();
        x.read(1);
        x.month();
        x.read(0);
        int[][] want = {{0, 0, 0}, {1, 10, 0}, {2, 10, 14}, {3, 30, 14}, {60, 30, 14}};
        for (int[] w : want) {
            Check.due("known(0, " + w[0] + ")", x.known(0, w[0]), w[1]);
            Check.due("known(1, " + w[0] + ")", x.known(1, w[0]), w[2]);
        }
        Check.told(x, "fixed 0 1;", 1);
        Check.due("as lines are now", x.known(0, 3), 3);
        Check.due("month -1", x.known(0, -1), -1);
        Check.due("month 61", x.known(0, 61), -1);
        Check.due("no mine", x.known(2, 0), -1);
    }

    private static void stopped() {
        SavedThird x = plain();
        Check.told(x, "fixed 0 10;from 3 stop 0 2;", 2);
        Check.due("no mine", x.stop(1), -1);
        Check.due("not late", x.stop(0), -2);
        x.month();
        x.read(0);
        x.month();
        Check.due("late 1, stop 3", x.stop(0), -2);
        x.month();
        Check.due("late 2, stop 2 from now on", x.stop(0), 0);
        Check.due("it does not work", x.stop(0), -2);
        Check.due("works", x.of(0, 9), 0);
        Check.due("stopped", x.of(0, 10), 1);
        Check.due("count that work", x.count(3), 0);
        Check.due("count stopped", x.count(4), 1);
        Check.due("unread", x.at(0, 5), 0);
        Check.due("no reading", x.read(0), -2);
        Check.due("wet", x.month(), 1);
        Check.due("its age rests", x.of(0, 6), 3);
        Check.due("arrears", x.go(0), -2);
        Check.due("no engine", x.go(1), -1);
        Check.due("engine -1", x.go(-1), -1);
        x.pay(0, 9);
        Check.due("a coin of arrears", x.go(0), -2);
        x.pay(0, 1);
        Check.due("goes", x.go(0), 1);
        Check.due("it is not stopped", x.go(0), -2);
        Check.due("unread all the time", x.at(0, 5), 3);
        x.read(0);
        Check.due("months that it stood still count", x.reading(1, 7), 30);
        Check.months(x, 2);
        Check.due("stopped again", x.stop(0), 0);
        x.engine(0, 2, 20, 400, 1000, 0);
        x.pay(0, 30);
        Check.due("not the latest", x.go(0), -2);
        Check.due("still stopped", x.count(4), 1);
        Check.due("the pirate works", x.at(0, 2), 1);
        x.pay(0, 0);
        Check.told(x, "fixed 0 50;stop 0 1;", 2);
        Check.due("late", x.owed(0, 4), 5);
        Check.due("no new one works", x.stop(0), -2);
    }

    private static void manyReadings() {
        SavedThird x = plain();
        for (int k = 0; k < 60; k++) {
            Check.due("reading " + k, x.read(0), k);
        }
        Check.due("full", x.read(0), -3);
        Check.due("no mine comes first", x.read(1), -1);
        x.mine(0, 0, 1, 1);
        Check.due("no engine comes first", x.read(1), -2);
        Check.due("count", x.count(5), 60);
    }
}
