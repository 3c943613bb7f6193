/** Promises 1 to 12 and 37 at their edges; which numbers are refused, and that nothing changes, is in RefusedTest. */
public final class MinesEdgesTest {
    private static final int NONE = -4, FULL = -3, BAD = -1;

    public static void main(String[] args) {
        newObject();
        leastAndGreatestMine();
        sixMines();
        waterOfEachMonth();
        waterOfTheYear();
        changedFromNowOn();
        leastAndGreatestEngine();
        twelveEngines();
        theLatestWorks();
        needIsDividedUp();
        wetByMost();
        wetWithoutEngine();
        wetUnderAStoppedOne();
        coalIsDividedUp();
        dutyIsDividedDown();
        dutyIsOneAtLeast();
        theOldestEngine();
        theBoxGoesRound();
        theBoxSticks();
        age();
        sixtyMonths();
        allSixGo();
        booksOfMonths();
        behindTheLastMonth();
        whatIsNow();
        oldCoalOfATrial();
        trialAtTheDepthOfNow();
        counted();
        Check.close("MinesEdgesTest");
    }

    private static void newObject() {
        Check.says("Nothing; NOW 0; SHEETS have nothing");
        SavedThird x = new SavedThird();
        for (int what = 0; what <= 8; what++) {
            Check.due("count " + what, x.count(what), 0);
        }
        Check.due("cells", x.count(9), NONE);
        Check.due("fault", x.fault(), 0);
        Check.due("torn", x.torn(), 0);
        Check.due("a month without mines", x.month(), 0);
        Check.due("now", x.count(0), 1);
        Check.due("a text of no bytes", x.text(), 0);
        x.mine(0, 0, 1, 1);
        for (int k = 0; k < 4; k++) {
            Check.due("book of sheet " + k, x.book(0, k, 0, 0), 0);
            Check.due("torn by NULL, sheet " + k, x.torn(), 1);
        }
        for (int month = 0; month < 12; month++) {
            Check.due("water " + month, x.water(0, month, 0), 0);
        }
        for (int partner = 0; partner < 8; partner++) {
            Check.due("shares " + partner, x.shares(0, partner, 0), 0);
        }
        for (int what = 0; what <= 5; what++) {
            Check.due("owed " + what, x.owed(0, what), 0);
        }
    }

    private static void leastAndGreatestMine() {
        Check.says("x, y (0 to 99), DEPTH (1 to 300), COIN that a bushel of coal costs (1 to 99)");
        SavedThird x = new SavedThird();
        Check.due("least", x.mine(0, 0, 1, 1), 0);
        Check.due("greatest", x.mine(99, 99, 300, 99), 1);
        Check.due("x alone", x.mine(99, 0, 300, 1), 2);
        Check.due("y alone", x.mine(0, 99, 1, 99), 3);
        int[][] want = {{1, 1}, {300, 99}, {300, 1}, {1, 99}};
        for (int m = 0; m < 4; m++) {
            Check.due("depth of " + m, x.at(m, 0), want[m][0]);
            Check.due("coin of " + m, x.at(m, 1), want[m][1]);
        }
        x.engine(1, 0, 1, 1, 1, 0);
        x.month();
        // Day 10 at mine 2 or 3, day 20 at mine 1 straight or by way of them.
        Check.due("198 to ride", x.waits(123), 20);
        Check.due("99 and 99 to ride", x.waits(213), 20);
        Check.due("99, 198 and 99 to ride", x.waits(231), 10 + 20 + 10);
    }

    private static void sixMines() {
        Check.says("MINES (6) are numbered as they come");
        SavedThird x = new SavedThird();
        for (int m = 0; m < 6; m++) {
            Check.due("mine", x.mine(m, m, 10 + m, 20 + m), m);
            Check.due("count", x.count(1), m + 1);
        }
        Check.due("a seventh", x.mine(0, 0, 1, 1), FULL);
        for (int m = 0; m < 6; m++) {
            Check.due("depth " + m, x.at(m, 0), 10 + m);
            Check.due("coin " + m, x.at(m, 1), 20 + m);
        }
        Check.due("mine 6", x.at(6, 0), BAD);
    }

    private static void waterOfEachMonth() {
        Check.says("WATER of a MINE: for each of 12 months of the year (0: the first) 0 to 999; 0 at first");
        SavedThird x = new SavedThird();
        x.mine(0, 0, 1, 1);
        x.mine(0, 0, 1, 1);
        for (int month = 0; month < 12; month++) {
            Check.due("at first", x.water(0, month, 900 + month), 0);
        }
        for (int month = 0; month < 12; month++) {
            Check.due("what it was", x.water(0, month, 999), 900 + month);
            Check.due("the other mine's", x.water(1, month, 0), 0);
        }
        for (int month = 0; month < 12; month++) {
            Check.due("999", x.water(0, month, 0), 999);
            Check.due("0", x.water(0, month, 1), 0);
        }
    }

    private static void waterOfTheYear() {
        Check.says("WATER (of this month of the year)");
        SavedThird x = new SavedThird();
        x.mine(0, 0, 1, 1);
        x.engine(0, 0, 1, 9999, 9999, 0);
        for (int month = 0; month < 12; month++) {
            x.water(0, month, 100 + month);
        }
        for (int month = 0; month < 60; month++) {
            Check.due("need ahead of month " + month, x.at(0, 3), 100 + month % 12);
            x.month();
            Check.due("strokes of month " + month, x.was(0, month, 0), 100 + month % 12);
        }
    }

    private static void changedFromNowOn() {
        Check.says("DEPTH, COIN can be changed: for months from NOW on");
        SavedThird x = new SavedThird();
        x.mine(0, 0, 10, 5);
        x.engine(0, 0, 1, 1, 9999, 0);
        Check.flood(x, 0, 2);
        x.month();
        Check.due("depth was", x.change(0, 0, 300), 10);
        Check.due("coin was", x.change(0, 1, 99), 5);
        x.month();
        Check.due("depth was", x.change(0, 0, 1), 300);
        Check.due("coin was", x.change(0, 1, 1), 99);
        Check.due("depth was the same", x.change(0, 0, 1), 1);
        x.month();
        int[][] want = {{20, 10, 5}, {600, 300, 99}, {2, 1, 1}};
        for (int month = 0; month < 3; month++) {
            Check.due("strokes of " + month, x.was(0, month, 0), want[month][0]);
            Check.due("depth of " + month, x.was(0, month, 4), want[month][1]);
            Check.due("coin of " + month, x.was(0, month, 5), want[month][2]);
        }
    }

    private static void leastAndGreatestEngine() {
        Check.says("KIND 0 OLD, 1 NEW, 2 PIRATE; LOAD (1 to 99), DUTY (1 to 9999), MOST (1 to 9999), PARTS (bits of 8)");
        SavedThird x = new SavedThird();
        x.mine(0, 0, 1, 1);
        x.mine(0, 0, 1, 1);
        Check.due("least", x.engine(0, 0, 1, 1, 1, 0), 0);
        Check.due("greatest", x.engine(1, 2, 99, 9999, 9999, 255), 1);
        Check.due("new", x.engine(1, 1, 50, 500, 5000, 128), 2);
        int[][] want = {{0, 0, 1, 1, 1, 0}, {1, 2, 99, 9999, 9999, 255}, {1, 1, 50, 500, 5000, 128}};
        for (int e = 0; e < 3; e++) {
            for (int what = 0; what < 6; what++) {
                Check.due("of " + e + " " + what, x.of(e, what), want[e][what]);
            }
            Check.due("its age", x.of(e, 6), 0);
            Check.due("its box shows", x.of(e, 7), 0);
            Check.due("stuck", x.of(e, 8), 0);
            Check.due("stopped", x.of(e, 10), 0);
            Check.due("strokes", x.of(e, 11), 0);
            Check.due("coal", x.of(e, 12), 0);
        }
    }

    private static void twelveEngines() {
        Check.says("ENGINES (12) are numbered as they come");
        SavedThird x = new SavedThird();
        for (int m = 0; m < 6; m++) {
            x.mine(0, 0, 1, 1);
            x.water(m, 0, 1);
        }
        for (int e = 0; e < 12; e++) {
            Check.due("engine", x.engine(e % 6, 1, 1 + e, 1, 1, 0), e);
            Check.due("count", x.count(2), e + 1);
            Check.due("that work", x.count(3), Math.min(6, e + 1));
        }
        Check.due("a thirteenth", x.engine(0, 1, 99, 1, 1, 0), FULL);
        x.month();
        for (int e = 0; e < 12; e++) {
            Check.due("mine of " + e, x.of(e, 0), e % 6);
            Check.due("load of " + e, x.of(e, 2), 1 + e);
            Check.due("works " + e, x.of(e, 9), e < 6 ? 0 : 1);
            Check.due("coal of " + e, x.of(e, 12), e < 6 ? 0 : 1 + e);
        }
        Check.due("engine 12", x.of(12, 0), BAD);
        Check.due("coal of all", x.count(7), 7 + 8 + 9 + 10 + 11 + 12);
    }

    private static void theLatestWorks() {
        Check.says("The latest ENGINE of a MINE works there, if it is not STOPPED");
        SavedThird x = late();
        Check.due("stopped", x.stop(0), 0);
        Check.due("none works", x.at(0, 2), NONE);
        Check.due("count", x.count(3), 0);
        Check.due("a new one comes", x.engine(0, 0, 1, 1, 1, 0), 1);
        Check.due("it works", x.at(0, 2), 1);
        Check.due("it alone", x.count(3), 1);
        Check.due("the stopped one does not", x.of(0, 9), 0);
        Check.due("and is stopped", x.of(0, 10), 1);
        x.engine(0, 2, 1, 1, 1, 0);
        Check.due("the one ahead is not stopped", x.of(1, 10), 0);
        Check.due("nor works", x.of(1, 9), 0);
        Check.due("one is stopped", x.count(4), 1);
    }

    /** A NEW engine at NOW 4 that is late by 3, in a mine with water of 1 in month 4 alone. */
    private static SavedThird late() {
        SavedThird x = new SavedThird();
        x.mine(0, 0, 1, 1);
        x.trial(0, 1, 1, 1);
        x.engine(0, 1, 1, 1, 9999, 0);
        Check.told(x, "fixed 0 1;", 1);
        x.month();
        x.read(0);
        Check.months(x, 3);
        x.water(0, 4, 1);
        return x;
    }

    private static void needIsDividedUp() {
        Check.says("NEED: WATER times DEPTH by LOAD, divided up");
        SavedThird x = new SavedThird();
        x.mine(0, 0, 9, 1);
        x.engine(0, 0, 10, 1, 9999, 0);
        int[][] want = {{9, 1, 1}, {10, 1, 1}, {11, 1, 2}, {300, 999, 29970}, {299, 999, 29871}, {300, 0, 0}, {1, 1, 1}};
        for (int[] w : want) {
            x.change(0, 0, w[0]);
            x.water(0, 0, w[1]);
            Check.due("depth " + w[0] + ", water " + w[1], x.at(0, 3), w[2]);
        }
        x.engine(0, 0, 1, 1, 9999, 0);
        x.change(0, 0, 300);
        x.water(0, 0, 999);
        Check.due("the greatest", x.at(0, 3), 299700);
        x.engine(0, 0, 99, 1, 9999, 0);
        Check.due("by 99: 3027.3", x.at(0, 3), 3028);
    }

    private static void wetByMost() {
        Check.says("strokes: NEED, MOST at most; the MINE is WET in it, if NEED is above MOST");
        SavedThird x = new SavedThird();
        for (int m = 0; m < 4; m++) {
            x.mine(0, 0, 10, 1);
            Check.flood(x, m, 10);
        }
        x.engine(0, 0, 1, 1, 99, 0);
        x.engine(1, 0, 1, 1, 100, 0);
        x.engine(2, 0, 1, 1, 101, 0);
        x.engine(3, 0, 1, 1, 1, 0);
        Check.due("two of four", x.month(), 2);
        int[][] want = {{99, 1}, {100, 0}, {100, 0}, {1, 1}};
        for (int m = 0; m < 4; m++) {
            Check.due("strokes of mine " + m, x.was(m, 0, 0), want[m][0]);
            Check.due("wet mine " + m, x.was(m, 0, 2), want[m][1]);
            Check.due("wet months of mine " + m, x.at(m, 4), want[m][1]);
        }
        x.change(3, 0, 300);
        x.water(3, 1, 999);
        Check.due("mines 0 and 3", x.month(), 2);
        Check.due("wet months", x.at(3, 4), 2);
        Check.due("strokes", x.was(3, 1, 0), 1);
    }

    private static void wetWithoutEngine() {
        Check.says("or there is WATER and no ENGINE works");
        SavedThird x = new SavedThird();
        x.mine(0, 0, 1, 1);
        x.water(0, 1, 1);
        Check.due("no water", x.month(), 0);
        Check.due("the least water", x.month(), 1);
        Check.due("no water", x.month(), 0);
        int[][] want = {{0, 0, 0, NONE, 1, 1}, {0, 0, 1, NONE, 1, 1}, {0, 0, 0, NONE, 1, 1}};
        for (int month = 0; month < 3; month++) {
            for (int what = 0; what < 6; what++) {
                Check.due("was " + month + " " + what, x.was(0, month, what), want[month][what]);
            }
        }
        Check.due("wet months", x.at(0, 4), 1);
    }

    private static void wetUnderAStoppedOne() {
        Check.says("The latest ENGINE of a MINE works there, if it is not STOPPED");
        SavedThird x = late();
        x.stop(0);
        Check.due("need", x.at(0, 3), NONE);
        Check.due("unread", x.at(0, 5), 0);
        Check.due("the least water", x.month(), 1);
        Check.due("no water", x.month(), 0);
        Check.due("the engine that worked", x.was(0, 4, 3), NONE);
        Check.due("strokes", x.of(0, 11), 0);
        Check.due("its age rests", x.of(0, 6), 4);
        x.pay(0, 99);
        x.go(0);
        x.month();
        Check.due("its age goes on", x.of(0, 6), 5);
        Check.due("the engine that worked", x.was(0, 6, 3), 0);
    }

    private static void coalIsDividedUp() {
        Check.says("COAL: strokes times LOAD by DUTY .., divided up");
        int[][] want = {{11, 1}, {10, 1}, {9, 2}, {5, 2}, {4, 3}, {1, 10}, {9999, 1}};
        for (int[] w : want) {
            SavedThird x = new SavedThird();
            x.mine(0, 0, 10, 1);
            x.water(0, 0, 1);
            x.engine(0, 0, 2, w[0], 9999, 0);
            x.month();
            Check.due("5 strokes", x.was(0, 0, 0), 5);
            Check.due("duty " + w[0], x.was(0, 0, 1), w[1]);
            Check.due("all coal", x.of(0, 12), w[1]);
            x.month();
            Check.due("no strokes, no coal", x.was(0, 1, 1), 0);
        }
        SavedThird x = new SavedThird();
        x.mine(0, 0, 300, 1);
        Check.flood(x, 0, 999);
        x.engine(0, 0, 1, 1, 9999, 0);
        x.engine(0, 0, 99, 1, 3028, 0);
        Check.months(x, 2);
        Check.due("3028 strokes at load 99", x.was(0, 0, 1), 299772);
        x.engine(0, 0, 30, 1, 9999, 0);
        x.month();
        Check.due("9990 strokes at load 30", x.was(0, 2, 1), 299700);
    }

    private static void dutyIsDividedDown() {
        Check.says("DUTY times 100 by 100 and AGE (divided down ..)");
        SavedThird x = new SavedThird();
        x.mine(0, 0, 99, 1);
        Check.flood(x, 0, 100);
        x.engine(0, 0, 1, 100, 9999, 0);
        // 9900 by 100, by 99.0 (10000 by 101), by 98.03 (10000 by 102).
        int[] want = {99, 100, 102};
        for (int month = 0; month < 3; month++) {
            x.month();
            Check.due("coal at age " + month, x.was(0, month, 1), want[month]);
        }
        x.engine(0, 0, 1, 101, 9999, 0);
        x.mend(1);
        x.month();
        x.month();
        // 10100 by 101 is just 100.
        Check.due("divided without rest", x.was(0, 4, 1), 99);
    }

    private static void dutyIsOneAtLeast() {
        Check.says("(divided down, 1 at least)");
        SavedThird x = new SavedThird();
        x.mine(0, 0, 7, 1);
        Check.flood(x, 0, 1);
        x.engine(0, 0, 1, 1, 9999, 0);
        Check.months(x, 3);
        for (int month = 0; month < 3; month++) {
            Check.due("duty 1 at age " + month, x.was(0, month, 1), 7);
        }
        x.engine(0, 0, 1, 2, 9999, 0);
        Check.months(x, 2);
        Check.due("duty 2 at age 0", x.was(0, 3, 1), 4);
        Check.due("duty 2 at age 1 is 1", x.was(0, 4, 1), 7);
    }

    private static void theOldestEngine() {
        Check.says("AGE (of the ENGINE that works) is one more");
        SavedThird x = new SavedThird();
        x.mine(0, 0, 300, 1);
        x.engine(0, 0, 30, 9999, 9999, 0);
        x.water(0, 11, 999);
        Check.months(x, 60);
        Check.due("age", x.of(0, 6), 60);
        // 999900 by 159 is 6288.6; 9990 strokes at load 30 are 299700, by 6288 47.66.
        Check.due("coal at age 59", x.was(0, 59, 1), 48);
        Check.due("mended", x.mend(0), 60);
        Check.due("age", x.of(0, 6), 0);
    }

    private static void theBoxGoesRound() {
        Check.says("The BOX shows so many strokes more, modulo 10000");
        SavedThird x = new SavedThird();
        x.mine(0, 0, 11, 1);
        x.engine(0, 0, 1, 9999, 9999, 0);
        x.water(0, 0, 909);
        x.month();
        Check.due("9999", x.of(0, 7), 9999);
        x.month();
        Check.due("no strokes", x.of(0, 7), 9999);
        x.change(0, 0, 1);
        x.water(0, 2, 1);
        x.month();
        Check.due("one more is 10000", x.of(0, 7), 0);
        Check.due("all strokes", x.of(0, 11), 10000);
        x.water(0, 3, 2);
        x.month();
        Check.due("two more", x.of(0, 7), 2);
        x.change(0, 0, 300);
        x.water(0, 4, 999);
        x.month();
        Check.due("MOST more", x.of(0, 7), 1);
        Check.due("all strokes", x.of(0, 11), 20001);
    }

    private static void theBoxSticks() {
        Check.says("if it is not STUCK (it can be from NOW on, and not any more)");
        SavedThird x = new SavedThird();
        x.mine(0, 0, 1, 1);
        Check.flood(x, 0, 5);
        x.engine(0, 0, 1, 1, 9, 0);
        Check.due("it was not", x.stick(0, false), 0);
        x.month();
        Check.due("it was not", x.stick(0, true), 0);
        Check.due("what was shown stays", x.of(0, 7), 5);
        x.month();
        Check.due("stuck", x.of(0, 7), 5);
        Check.due("whether it was", x.stick(0, true), 1);
        x.month();
        Check.due("strokes are made", x.of(0, 11), 15);
        Check.due("coal is burned", x.of(0, 12), 15);
        Check.due("it was", x.stick(0, false), 1);
        Check.due("it is not", x.of(0, 8), 0);
        x.month();
        Check.due("on from where it stuck", x.of(0, 7), 10);
        x.engine(0, 0, 1, 1, 9, 0);
        Check.due("one that does not work", x.stick(0, true), 0);
        Check.due("is stuck alone", x.of(1, 8), 0);
        x.month();
        Check.due("the other box", x.of(1, 7), 5);
    }

    private static void age() {
        Check.says("its AGE is 0 in the month when it came; MENDED: 0 again from NOW on");
        SavedThird x = new SavedThird();
        x.mine(0, 0, 100, 1);
        Check.flood(x, 0, 1);
        Check.months(x, 5);
        x.engine(0, 0, 1, 2, 9999, 0);
        Check.due("0 when it comes", x.of(0, 6), 0);
        x.month();
        Check.due("coal by duty 2", x.was(0, 5, 1), 50);
        x.month();
        Check.due("coal by duty 1", x.was(0, 6, 1), 100);
        Check.due("mended", x.mend(0), 2);
        x.month();
        Check.due("coal by duty 2 again", x.was(0, 7, 1), 50);
        Check.due("what was stays", x.was(0, 6, 1), 100);
        x.engine(0, 0, 1, 2, 9999, 0);
        x.month();
        Check.due("one that does not work ages not", x.of(0, 6), 1);
        Check.due("and can be mended", x.mend(0), 1);
        Check.due("alone", x.of(1, 6), 1);
    }

    private static void sixtyMonths() {
        Check.says("MONTHS 0 to 59; FULL: NOW is 60");
        SavedThird x = new SavedThird();
        for (int month = 0; month < 60; month++) {
            Check.due("now", x.count(0), month);
            Check.due("month " + month, x.month(), 0);
        }
        Check.due("now", x.count(0), 60);
        Check.due("month 60", x.month(), FULL);
        Check.due("again", x.month(), FULL);
        Check.due("now", x.count(0), 60);
    }

    private static void allSixGo() {
        Check.says("A MONTH goes, for each MINE; how many MINES were WET in it");
        SavedThird x = new SavedThird();
        for (int m = 0; m < 6; m++) {
            x.mine(0, 0, 1, 1);
            x.water(m, 0, 1);
            x.water(m, 1, m);
        }
        Check.due("all six", x.month(), 6);
        Check.due("all but one", x.month(), 5);
        Check.due("none", x.month(), 0);
        for (int m = 0; m < 6; m++) {
            Check.due("wet months of " + m, x.at(m, 4), m == 0 ? 1 : 2);
        }
    }

    private static void booksOfMonths() {
        Check.says("0 to NOW less 1; ahead of its coming all 0, NONE");
        SavedThird x = new SavedThird();
        x.mine(0, 0, 7, 8);
        Check.due("month 0 at NOW 0", x.was(0, 0, 4), BAD);
        Check.due("month -1 at NOW 0", x.was(0, -1, 4), BAD);
        Check.months(x, 3);
        x.mine(0, 0, 9, 9);
        x.engine(1, 0, 1, 1, 9, 0);
        Check.flood(x, 1, 1);
        x.month();
        Check.due("the latest month", x.was(0, 3, 4), 7);
        Check.due("NOW", x.was(0, 4, 4), BAD);
        int[] ahead = {0, 0, 0, NONE, 0, 0};
        int[] there = {9, 9, 0, 0, 9, 9};
        for (int what = 0; what < 6; what++) {
            Check.due("the month ahead of its coming, " + what, x.was(1, 2, what), ahead[what]);
            Check.due("the first month, " + what, x.was(1, 0, what), ahead[what]);
            Check.due("the month of its coming, " + what, x.was(1, 3, what), there[what]);
        }
    }

    private static void behindTheLastMonth() {
        Check.says("0 to NOW less 1");
        SavedThird x = new SavedThird();
        x.mine(0, 0, 7, 8);
        x.water(0, 11, 3);
        x.water(0, 0, 2);
        Check.months(x, 59);
        x.engine(0, 0, 1, 1, 9999, 0);
        x.month();
        int[] last = {21, 21, 0, 0, 7, 8};
        for (int what = 0; what < 6; what++) {
            Check.due("month 59, " + what, x.was(0, 59, what), last[what]);
        }
        Check.due("month 60", x.was(0, 60, 0), BAD);
        Check.due("a mine that comes at 60", x.mine(1, 1, 4, 4), 1);
        int[] ahead = {0, 0, 0, NONE, 0, 0};
        for (int what = 0; what < 6; what++) {
            Check.due("its month 59, " + what, x.was(1, 59, what), ahead[what]);
        }
        Check.due("an engine that comes at 60", x.engine(1, 1, 1, 1, 1, 1), 1);
        Check.due("works", x.at(1, 2), 1);
        Check.due("is read at its coming", x.read(1), 0);
        Check.due("need of the year's first month", x.at(0, 3), 14);
        Check.due("depth can be changed", x.change(0, 0, 8), 7);
        Check.due("what was stays", x.was(0, 59, 4), 7);
    }

    private static void whatIsNow() {
        Check.says("3 NEED of month NOW (NONE: no ENGINE works), 4 WET months in all, 5 UNREAD");
        SavedThird x = new SavedThird();
        x.mine(0, 0, 2, 3);
        Check.flood(x, 0, 1);
        Check.months(x, 60);
        Check.due("wet in all", x.at(0, 4), 60);
        Check.due("need without engine", x.at(0, 3), NONE);
        Check.due("unread without engine", x.at(0, 5), 0);
        x = new SavedThird();
        x.mine(0, 0, 2, 3);
        x.engine(0, 0, 1, 1, 1, 0);
        Check.due("unread at its coming", x.at(0, 5), 0);
        Check.due("need without water", x.at(0, 3), 0);
        Check.months(x, 60);
        Check.due("unread since its coming", x.at(0, 5), 60);
        x.read(0);
        Check.due("read", x.at(0, 5), 0);
    }

    private static void oldCoalOfATrial() {
        Check.says("OLD COAL: strokes times LOAD times c by s times l, divided down, 100000 at most");
        SavedThird x = new SavedThird();
        x.mine(0, 0, 1, 1);
        int[][] want = {
            {1, 1, 1, 1000}, {9999, 99, 9999, 1000}, {1, 99, 99, 99000}, {1, 1, 100, 100000}, {1, 1, 101, 100000},
            {1, 99, 9999, 100000}, {99, 1, 9999, 100000}, {100, 1, 9999, 99990}, {9999, 1, 1, 0}, {1001, 7, 1, 0},
            {1000, 7, 1, 1}, {999, 7, 1, 1}, {501, 7, 1, 1}, {500, 7, 1, 2},
        };
        for (int[] w : want) {
            Check.due("trial " + w[0] + " " + w[1] + " " + w[2], x.trial(0, w[0], w[1], w[2]), w[3]);
        }
    }

    private static void trialAtTheDepthOfNow() {
        Check.says("at a DEPTH: that of now");
        SavedThird x = new SavedThird();
        x.mine(0, 0, 1, 1);
        x.change(0, 0, 200);
        x.trial(0, 1, 1, 1);
        x.engine(0, 1, 1, 1, 1, 0);
        x.read(0);
        Check.due("as deep as then", x.reading(0, 9), 0);
        x.change(0, 0, 101);
        x.read(0);
        Check.due("99 from 200", x.reading(1, 9), 1);
        x.trial(0, 1, 1, 1);
        x.read(0);
        Check.due("as deep as the trial made again", x.reading(2, 9), 0);
    }

    private static void counted() {
        Check.says("3 that work, 4 STOPPED, 5 READINGS, 6 lines, 7 COAL of all, 8 bytes on THE TAPE, 9 CELLS of SHEET 0");
        SavedThird x = new SavedThird();
        for (int m = 0; m < 2; m++) {
            x.mine(0, 0, 1, 1);
            x.trial(m, 1, 1, 1);
        }
        Check.told(x, "fixed 0 1;fixed 1 1;stop 0 1;stop 1 1;", 4);
        for (int e = 0; e < 11; e++) {
            x.engine(0, 1, 1, 1, 1, 0);
        }
        x.engine(1, 1, 1, 1, 1, 0);
        Check.flood(x, 1, 1);
        x.month();
        Check.due("coal of the twelfth", x.count(7), 1);
        x.read(1);
        x.read(0);
        x.month();
        Check.due("work", x.count(3), 2);
        Check.due("none is stopped", x.count(4), 0);
        Check.due("the twelfth", x.stop(1), 11);
        Check.due("one works", x.count(3), 1);
        Check.due("one is stopped", x.count(4), 1);
        Check.due("the eleventh", x.stop(0), 10);
        Check.due("none works", x.count(3), 0);
        Check.due("both are stopped", x.count(4), 2);
        x.pay(1, 9);
        x.go(11);
        Check.due("one goes again", x.count(4), 1);
        Check.due("readings", x.count(5), 2);
        Check.due("lines", x.count(6), 4);
        Check.due("bytes", x.count(8), 0);
        x.sheet(1, 0, 5);
        Check.due("another sheet's cells", x.count(9), NONE);
        x.sheet(0, 2, 48);
        Check.due("the most cells", x.count(9), 48);
        x.sheet(0, 0, 0);
        Check.due("no cells", x.count(9), 0);
    }
}
