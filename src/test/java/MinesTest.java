/** Promises 1 to 12 and 37: mines, engines, months, trials, and what is counted. */
public final class MinesTest {

    public static void main(String[] args) {
        newObject();
        mines();
        waters();
        changes();
        enginesCome();
        engineFacts();
        boxes();
        mending();
        monthsGo();
        whatWas();
        whatIs();
        trials();
        counts();
        Check.close("MinesTest");
    }

    private static void newObject() {
        SavedThird x = new SavedThird();
        for (int what = 0; what <= 8; what++) {
            Check.due("count(" + what + ") of a new object", x.count(what), 0);
        }
        Check.due("no sheet", x.count(9), SavedThird.NONE);
        Check.due("fault of none", x.fault(), 0);
        Check.due("torn of none", x.torn(), 0);
        for (int k = 0; k < 4; k++) {
            Check.due("nothing in sheet " + k, x.lay(k, 0, 0), -11);
        }
        Check.due("no mine", x.at(0, 0), SavedThird.BAD);
        Check.due("no engine", x.of(0, 0), SavedThird.BAD);
        Check.due("no reading", x.reading(0, 0), SavedThird.BAD);
    }

    private static void mines() {
        SavedThird x = new SavedThird();
        Check.due("x below", x.mine(-1, 0, 1, 1), -1);
        Check.due("x above", x.mine(100, 0, 1, 1), -1);
        Check.due("y below", x.mine(0, -1, 1, 1), -1);
        Check.due("y above", x.mine(0, 100, 1, 1), -1);
        Check.due("depth below", x.mine(0, 0, 0, 1), -1);
        Check.due("depth above", x.mine(0, 0, 301, 1), -1);
        Check.due("coin below", x.mine(0, 0, 1, 0), -1);
        Check.due("coin above", x.mine(0, 0, 1, 100), -1);
        Check.due("least", x.mine(0, 0, 1, 1), 0);
        Check.due("greatest", x.mine(99, 99, 300, 99), 1);
        for (int m = 2; m < 6; m++) {
            Check.due("mine " + m, x.mine(1, 1, 1, 1), m);
        }
        Check.due("a bad seventh", x.mine(1, 1, 0, 1), -1);
        Check.due("a seventh", x.mine(1, 1, 1, 1), -3);
        Check.due("six mines", x.count(1), 6);
    }

    private static void waters() {
        SavedThird x = new SavedThird();
        Check.due("no mine", x.water(0, 0, 1), -1);
        x.mine(0, 0, 10, 1);
        Check.due("0 at first", x.water(0, 0, 999), 0);
        Check.due("what it was", x.water(0, 0, 7), 999);
        Check.due("month below", x.water(0, -1, 1), -1);
        Check.due("month above", x.water(0, 12, 1), -1);
        Check.due("v below", x.water(0, 0, -1), -1);
        Check.due("v above", x.water(0, 0, 1000), -1);
        Check.due("mine below", x.water(-1, 0, 1), -1);
        Check.due("mine above", x.water(1, 0, 1), -1);
        Check.due("the refused changed nothing", x.water(0, 0, 0), 7);
        Check.due("the last month", x.water(0, 11, 5), 0);
    }

    private static void changes() {
        SavedThird x = new SavedThird();
        Check.due("no mine", x.change(0, 0, 1), -1);
        x.mine(0, 0, 10, 3);
        Check.due("depth", x.change(0, 0, 300), 10);
        Check.due("coin", x.change(0, 1, 99), 3);
        Check.due("depth 0", x.change(0, 0, 0), -1);
        Check.due("depth 301", x.change(0, 0, 301), -1);
        Check.due("coin 0", x.change(0, 1, 0), -1);
        Check.due("coin 100", x.change(0, 1, 100), -1);
        Check.due("which 2", x.change(0, 2, 1), -1);
        Check.due("which -1", x.change(0, -1, 1), -1);
        Check.due("depth is", x.at(0, 0), 300);
        Check.due("coin is", x.at(0, 1), 99);
        x.month();
        x.change(0, 0, 20);
        x.change(0, 1, 4);
        x.month();
        Check.due("depth of month 0", x.was(0, 0, 4), 300);
        Check.due("coin of month 0", x.was(0, 0, 5), 99);
        Check.due("depth of month 1", x.was(0, 1, 4), 20);
        Check.due("coin of month 1", x.was(0, 1, 5), 4);
    }

    private static void enginesCome() {
        SavedThird x = new SavedThird();
        Check.due("no mine", x.engine(0, 0, 1, 1, 1, 0), -1);
        x.mine(0, 0, 10, 3);
        int[][] wrong = {
            {-1, 1, 1, 1, 0}, {3, 1, 1, 1, 0}, {0, 0, 1, 1, 0}, {0, 100, 1, 1, 0}, {0, 1, 0, 1, 0},
            {0, 1, 10000, 1, 0}, {0, 1, 1, 0, 0}, {0, 1, 1, 10000, 0}, {0, 1, 1, 1, -1}, {0, 1, 1, 1, 256},
        };
        for (int[] w : wrong) {
            Check.due("a wrong engine", x.engine(0, w[0], w[1], w[2], w[3], w[4]), -1);
        }
        Check.due("least", x.engine(0, 0, 1, 1, 1, 0), 0);
        Check.due("greatest", x.engine(0, 2, 99, 9999, 9999, 255), 1);
        for (int e = 2; e < 12; e++) {
            Check.due("engine " + e, x.engine(0, 1, 1, 1, 1, 0), e);
        }
        Check.due("a bad thirteenth", x.engine(1, 1, 1, 1, 1, 0), -1);
        Check.due("a thirteenth", x.engine(0, 1, 1, 1, 1, 0), -3);
        Check.due("the latest works", x.at(0, 2), 11);
        Check.due("one works", x.count(3), 1);
    }

    private static void engineFacts() {
        SavedThird x = new SavedThird();
        x.mine(0, 0, 10, 3);
        x.mine(0, 0, 10, 3);
        x.engine(0, 0, 1, 1, 1, 0);
        x.engine(1, 2, 9, 77, 888, 129);
        Check.flood(x, 1, 20);
        x.month();
        int[] want = {1, 2, 9, 77, 888, 129, 1, 23, 0, 1, 0, 23, 3};
        for (int what = 0; what < want.length; what++) {
            Check.due("of(1, " + what + ")", x.of(1, what), want[what]);
        }
        Check.due("what -1", x.of(1, -1), -1);
        Check.due("what 13", x.of(1, 13), -1);
        Check.due("engine -1", x.of(-1, 0), -1);
        Check.due("engine 2", x.of(2, 0), -1);
        Check.due("age without water", x.of(0, 6), 1);
        x.engine(1, 1, 9, 77, 888, 0);
        Check.due("the one ahead works no more", x.of(1, 9), 0);
        x.month();
        Check.due("nor ages", x.of(1, 6), 1);
        Check.due("nor strokes", x.of(1, 11), 23);
        Check.due("a new one is young", x.of(2, 6), 1);
    }

    private static void boxes() {
        SavedThird x = new SavedThird();
        x.mine(0, 0, 300, 3);
        x.engine(0, 1, 20, 100, 9999, 0);
        Check.flood(x, 0, 400);
        Check.due("not stuck", x.stick(0, true), 0);
        Check.due("stuck", x.stick(0, true), 1);
        Check.due("of stuck", x.of(0, 8), 1);
        Check.due("engine -1", x.stick(-1, true), -1);
        Check.due("engine 1", x.stick(1, false), -1);
        x.month();
        Check.due("a stuck box", x.of(0, 7), 0);
        Check.due("strokes go on", x.of(0, 11), 6000);
        Check.due("loose", x.stick(0, false), 1);
        x.month();
        Check.due("shows", x.of(0, 7), 6000);
        x.month();
        Check.due("has gone round", x.of(0, 7), 2000);
        Check.due("all strokes", x.of(0, 11), 18000);
    }

    private static void mending() {
        SavedThird x = new SavedThird();
        x.mine(0, 0, 100, 3);
        x.engine(0, 1, 10, 10, 9999, 0);
        Check.flood(x, 0, 10);
        // 100 strokes at load 10 by a duty of 10 * 100 / (100 + age), divided down.
        x.month();
        Check.due("coal at age 0", x.was(0, 0, 1), 100);
        x.month();
        Check.due("coal at age 1", x.was(0, 1, 1), 112);
        Check.months(x, 10);
        Check.due("coal at age 11", x.was(0, 11, 1), 112);
        x.month();
        Check.due("coal at age 12", x.was(0, 12, 1), 125);
        Check.due("mended", x.mend(0), 13);
        Check.due("age", x.of(0, 6), 0);
        Check.due("again", x.mend(0), 0);
        x.month();
        Check.due("coal again", x.was(0, 13, 1), 100);
        Check.due("engine -1", x.mend(-1), -1);
        Check.due("engine 1", x.mend(1), -1);
        x.engine(0, 0, 10, 1, 9999, 0);
        Check.months(x, 2);
        Check.due("duty of 1 at least", x.was(0, 15, 1), 1000);
    }

    private static void monthsGo() {
        SavedThird x = new SavedThird();
        x.mine(0, 0, 7, 1);
        x.mine(0, 0, 7, 1);
        x.mine(0, 0, 7, 1);
        x.engine(0, 0, 3, 100, 5, 0);
        x.engine(1, 0, 3, 100, 4, 0);
        for (int m = 0; m < 3; m++) {
            x.water(m, 0, 2);
        }
        // 2 * 7 by 3 is 5, divided up.
        Check.due("need", x.at(0, 3), 5);
        Check.due("most is too little, no engine", x.month(), 2);
        Check.due("dry", x.was(0, 0, 2), 0);
        Check.due("wet by need", x.was(1, 0, 2), 1);
        Check.due("wet without engine", x.was(2, 0, 2), 1);
        Check.due("strokes", x.was(0, 0, 0), 5);
        Check.due("most", x.was(1, 0, 0), 4);
        Check.due("none", x.was(2, 0, 0), 0);
        Check.due("without water", x.month(), 0);
        Check.due("dry without engine", x.was(2, 1, 2), 0);
        Check.months(x, 10);
        Check.due("the year goes round", x.month(), 2);
        Check.months(x, 46);
        Check.due("month 59", x.month(), 0);
        Check.due("now", x.count(0), 60);
        Check.due("full", x.month(), -3);
        Check.due("still", x.count(0), 60);
        Check.due("wet months", x.at(2, 4), 5);
        Check.due("need of the month that does not go", x.at(0, 3), 5);
        x = new SavedThird();
        x.mine(0, 0, 1, 1);
        x.water(0, 0, 1);
        Check.due("wet by the least water", x.month(), 1);
    }

    private static void whatWas() {
        SavedThird x = new SavedThird();
        x.month();
        x.mine(0, 0, 50, 6);
        Check.flood(x, 0, 3);
        x.month();
        x.engine(0, 1, 10, 7, 100, 0);
        x.month();
        int[] ahead = {0, 0, 0, -4, 0, 0};
        int[] without = {0, 0, 1, -4, 50, 6};
        int[] with = {15, 22, 0, 0, 50, 6};
        for (int what = 0; what < 6; what++) {
            Check.due("ahead of its coming " + what, x.was(0, 0, what), ahead[what]);
            Check.due("without engine " + what, x.was(0, 1, what), without[what]);
            Check.due("with engine " + what, x.was(0, 2, what), with[what]);
        }
        Check.due("now is not yet", x.was(0, 3, 0), -1);
        Check.due("month -1", x.was(0, -1, 0), -1);
        x.mine(0, 0, 9, 9);
        for (int month = 0; month < 3; month++) {
            for (int what = 0; what < 6; what++) {
                Check.due("a later mine's " + month + ", " + what, x.was(1, month, what), ahead[what]);
            }
        }
        Check.due("what 6", x.was(0, 0, 6), -1);
        Check.due("what -1", x.was(0, 0, -1), -1);
        Check.due("mine 2", x.was(2, 0, 0), -1);
    }

    private static void whatIs() {
        SavedThird x = new SavedThird();
        x.mine(0, 0, 50, 6);
        int[] without = {50, 6, -4, -4, 0, 0};
        for (int what = 0; what < 6; what++) {
            Check.due("at(0, " + what + ")", x.at(0, what), without[what]);
        }
        Check.due("what 6", x.at(0, 6), -1);
        Check.due("what -1", x.at(0, -1), -1);
        Check.due("mine 1", x.at(1, 0), -1);
        Check.due("mine -1", x.at(-1, 0), -1);
        x.month();
        Check.due("unread without engine", x.at(0, 5), 0);
        x.engine(0, 1, 10, 7, 100, 0);
        Check.months(x, 3);
        Check.due("unread since its coming", x.at(0, 5), 3);
        x.read(0);
        Check.due("read", x.at(0, 5), 0);
        x.month();
        Check.due("unread since its reading", x.at(0, 5), 1);
        x.engine(0, 1, 10, 7, 100, 0);
        Check.due("a new engine's coming", x.at(0, 5), 0);
        x.water(0, 5, 10);
        Check.due("need of month 5", x.at(0, 3), 50);
    }

    private static void trials() {
        SavedThird x = new SavedThird();
        Check.due("no mine", x.trial(0, 1, 1, 1), -1);
        x.mine(0, 0, 50, 6);
        x.engine(0, 1, 1, 1, 1, 0);
        int[][] wrong = {{0, 1, 1}, {10000, 1, 1}, {1, 0, 1}, {1, 100, 1}, {1, 1, 0}, {1, 1, 10000}};
        for (int[] w : wrong) {
            Check.due("a wrong trial", x.trial(0, w[0], w[1], w[2]), -1);
        }
        Check.due("nothing was tried", x.brings(0, 1, 1, 0, 0), -10000000002L);
        Check.due("divided down", x.trial(0, 3, 7, 2), 666);
        Check.due("least", x.trial(0, 9999, 99, 1), 0);
        Check.due("capped", x.trial(0, 1, 1, 101), 100000);
        Check.due("not capped", x.trial(0, 1, 1, 100), 100000);
        Check.due("below the cap", x.trial(0, 1, 99, 99), 99000);
    }

    private static void counts() {
        SavedThird x = new SavedThird();
        x.mine(0, 0, 10, 1);
        x.mine(0, 0, 10, 1);
        Check.flood(x, 0, 2);
        Check.flood(x, 1, 3);
        x.engine(0, 1, 1, 1, 100, 0);
        Check.due("the first works", x.count(3), 1);
        x.month();
        Check.due("its coal", x.count(7), 20);
        x.engine(0, 1, 1, 1, 100, 0);
        x.engine(1, 1, 1, 1, 100, 0);
        x.month();
        x.read(0);
        x.read(1);
        x.feed(0);
        x.sheet(0, 1, 17);
        int[] want = {2, 2, 3, 2, 0, 2, 0, 70, 8, 17};
        for (int what = 0; what < want.length; what++) {
            Check.due("count(" + what + ")", x.count(what), want[what]);
        }
        Check.due("count(10)", x.count(10), -1);
        Check.due("count(-1)", x.count(-1), -1);
        x.sheet(0, 1, 0);
        Check.due("a sheet without cells", x.count(9), 0);
    }
}
