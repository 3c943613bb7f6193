import java.util.Random;

/** Promises 31 and 32 at their edges: days divided up, day 0, what is unread, ties, and figures told wrongly. */
public final class RoundsEdgesTest {
    private static final int NONE = -4, BAD = -1;

    public static void main(String[] args) {
        daysAreDividedUp();
        differencesAreSummed();
        thereOnDayZero();
        sameDayWithoutRide();
        unreadSince();
        withoutWorkingEngine();
        nothingWaits();
        minesOfTheRound();
        theLeastOfSeveral();
        theLastOrderIsTheLeast();
        theLongestRound();
        figuresForEachCount();
        figuresTwice();
        figuresOfNoMine();
        againstAllOrders();
        Check.close("RoundsEdgesTest");
    }

    /** So many mines with an engine each, one month unread. */
    private static SavedThird unread(int[][] places) {
        SavedThird x = new SavedThird();
        for (int m = 0; m < places.length; m++) {
            x.mine(places[m][0], places[m][1], 1, 1);
            x.engine(m, 1, 1, 1, 1, 0);
        }
        x.month();
        return x;
    }

    private static void daysAreDividedUp() {
        Check.says("the differences of x and y, without signs, summed, by 10, divided up (days)");
        int[][] want = {{0, 0}, {1, 1}, {9, 1}, {10, 1}, {11, 2}, {19, 2}, {20, 2}, {21, 3}, {90, 9}, {91, 10}, {99, 10}};
        for (int[] w : want) {
            SavedThird x = unread(new int[][] {{0, 0}, {w[0], 0}});
            Check.due(w[0] + " by x", x.round(0, 1), w[1]);
            Check.due(w[0] + " back", x.round(1, 1), w[1]);
            Check.due("waits", x.waits(1), w[1]);
            Check.due("waits", x.waits(10), w[1]);
            x = unread(new int[][] {{50, 99}, {50, 99 - w[0]}});
            Check.due(w[0] + " by y", x.round(0, 1), w[1]);
        }
    }

    private static void differencesAreSummed() {
        Check.says("the differences of x and y, without signs, summed");
        int[][] want = {{5, 5, 1}, {5, 6, 2}, {1, 1, 1}, {99, 99, 20}, {91, 99, 19}, {92, 99, 20}};
        for (int[] w : want) {
            int[][] corners = {{0, 0, w[0], w[1]}, {w[0], 0, 0, w[1]}, {0, w[1], w[0], 0}, {w[0], w[1], 0, 0}};
            for (int[] c : corners) {
                SavedThird x = unread(new int[][] {{c[0], c[1]}, {c[2], c[3]}});
                Check.due(w[0] + " and " + w[1], x.round(0, 1), w[2]);
            }
        }
    }

    private static void thereOnDayZero() {
        Check.says("from a MINE on (there on day 0)");
        SavedThird x = new SavedThird();
        x.mine(0, 0, 1, 1);
        x.mine(50, 0, 1, 1);
        x.engine(0, 1, 1, 1, 1, 0);
        Check.months(x, 60);
        Check.due("it is there at once", x.round(0, 0), 0);
        Check.due("its days", x.round(0, 1), 5);
        Check.due("from the other", x.round(1, 0), 300);
        Check.due("waits(1)", x.waits(1), 0);
        Check.due("waits(10)", x.waits(10), 300);
    }

    private static void sameDayWithoutRide() {
        Check.says("UNREAD times the day when it is there, summed over all");
        SavedThird x = unread(new int[][] {{5, 5}, {5, 5}, {15, 5}, {15, 5}});
        Check.due("waiting", x.round(0, 0), 2);
        Check.due("days", x.round(0, 1), 1);
        Check.due("here first", x.waits(123), 0 + 1 + 1);
        Check.due("there and back", x.waits(231), 1 + 1 + 2);
        Check.due("to and fro", x.waits(213), 1 + 2 + 3);
    }

    private static void unreadSince() {
        Check.says("UNREAD of a MINE: months since the latest READING of the ENGINE that works there (or its coming)");
        SavedThird x = new SavedThird();
        x.mine(0, 0, 1, 1);
        x.mine(10, 0, 1, 1);
        x.engine(1, 0, 1, 1, 1, 0);
        for (int month = 0; month < 8; month++) {
            if (month == 3 || month == 4) {
                x.read(1);
            }
            if (month == 6) {
                x.engine(1, 2, 1, 1, 1, 0);
            }
            int since = month < 3 ? 0 : month < 4 ? 3 : month < 6 ? 4 : 6;
            Check.due("at " + month, x.at(1, 5), month - since);
            Check.due("round at " + month, x.round(0, 0), month - since);
            Check.due("waits at " + month, x.waits(1), month - since);
            x.month();
        }
    }

    private static void withoutWorkingEngine() {
        Check.says("0 without one");
        SavedThird x = new SavedThird();
        x.mine(0, 0, 1, 1);
        x.mine(10, 0, 1, 1);
        x.month();
        Check.due("no engine", x.round(0, 0), 0);
        x.trial(1, 1, 1, 1);
        x.engine(1, 1, 1, 1, 1, 0);
        Check.told(x, "fixed 1 1;stop 1 1;", 2);
        x.month();
        x.read(1);
        Check.months(x, 3);
        Check.due("one that works", x.round(0, 0), 3);
        x.stop(1);
        Check.due("a stopped one", x.round(0, 0), 0);
        Check.due("unread", x.at(1, 5), 0);
        Check.due("days", x.round(0, 1), 1);
        x.month();
        x.pay(1, 9);
        x.go(0);
        Check.due("one that goes again", x.round(0, 0), 4);
    }

    private static void nothingWaits() {
        Check.says("of several the one with the least MINES one by one");
        for (int count = 1; count <= 6; count++) {
            SavedThird x = new SavedThird();
            for (int m = 0; m < count; m++) {
                x.mine(99 - 10 * m, 7 * m, 1, 1);
            }
            for (int first = 0; first < count; first++) {
                Check.due("waiting", x.round(first, 0), 0);
                for (int i = 0; i < count; i++) {
                    int want = i == 0 ? first : i <= first ? i - 1 : i;
                    Check.due(count + " mines from " + first + ", place " + i, x.round(first, 10 + i), want);
                }
            }
        }
    }

    private static void minesOfTheRound() {
        Check.says("10 and i: MINE i of it (that itself is the first; NONE)");
        for (int count = 1; count <= 6; count++) {
            SavedThird x = new SavedThird();
            for (int m = 0; m < count; m++) {
                x.mine(m, m, 1, 1);
            }
            for (int i = 0; i < 6; i++) {
                int answer = x.round(count - 1, 10 + i);
                Check.holds("place " + i + " of " + count, i < count ? answer >= 0 && answer < count : answer == NONE);
            }
            Check.due("itself", x.round(count - 1, 10), count - 1);
            Check.due("what 9", x.round(0, 9), BAD);
            Check.due("what 2", x.round(0, 2), BAD);
            Check.due("what 16", x.round(0, 16), BAD);
            Check.due("no such mine", x.round(count, 0), BAD);
            Check.due("no such mine", x.round(count, 10), BAD);
        }
    }

    private static void roundIs(SavedThird x, int first, int... want) {
        for (int i = 0; i < want.length; i++) {
            Check.due("round from " + first + ", place " + i, x.round(first, 10 + i), want[i]);
        }
    }

    private static void theLeastOfSeveral() {
        Check.says("the least ROUND; of several the one with the least MINES one by one");
        // A cross: all four arms are as far from the middle.
        SavedThird x = unread(new int[][] {{50, 50}, {60, 50}, {40, 50}, {50, 60}, {50, 40}});
        roundIs(x, 0, 0, 1, 2, 3, 4);
        roundIs(x, 4, 4, 0, 1, 2, 3);
        // Two on either side: to go right first or left first is all the same.
        x = unread(new int[][] {{60, 0}, {50, 0}, {40, 0}});
        roundIs(x, 1, 1, 0, 2);
        x = unread(new int[][] {{40, 0}, {50, 0}, {60, 0}});
        roundIs(x, 1, 1, 0, 2);
        // A month more unread on the one side.
        x = unread(new int[][] {{40, 0}, {50, 0}, {60, 0}});
        x.read(0);
        roundIs(x, 1, 1, 2, 0);
    }

    private static void theLastOrderIsTheLeast() {
        Check.says("the least ROUND, exactly");
        int[][] line = {{0, 0}, {50, 0}, {40, 0}, {30, 0}, {20, 0}, {10, 0}};
        SavedThird x = unread(line);
        roundIs(x, 0, 0, 5, 4, 3, 2, 1);
        Check.due("waiting", x.round(0, 0), 1 + 2 + 3 + 4 + 5);
        Check.due("days", x.round(0, 1), 5);
        roundIs(x, 1, 1, 2, 3, 4, 5, 0);
        int[][] turned = {{10, 0}, {20, 0}, {30, 0}, {40, 0}, {50, 0}, {0, 0}};
        x = unread(turned);
        roundIs(x, 5, 5, 0, 1, 2, 3, 4);
        roundIs(x, 4, 4, 3, 2, 1, 0, 5);
        Check.due("waiting", x.round(4, 0), 15);
    }

    private static void theLongestRound() {
        Check.says("WAITING: UNREAD times the day when it is there, summed over all");
        int[][] places = {{0, 0}, {99, 99}, {0, 0}, {99, 99}, {0, 0}, {99, 99}};
        SavedThird x = unread(places);
        Check.months(x, 59);
        Check.due("unread", x.at(5, 5), 60);
        Check.due("to and fro", x.waits(12345), 60 * (20 + 40 + 60 + 80 + 100));
        Check.due("the other way", x.waits(543210), 60 * (20 + 40 + 60 + 80 + 100));
        Check.due("the least", x.round(0, 0), 60 * (0 + 0 + 20 + 20 + 20));
        roundIs(x, 0, 0, 2, 4, 1, 3, 5);
    }

    private static void figuresForEachCount() {
        Check.says("the first MINE the highest figure (as many as there are MINES, 0 may be the first), each MINE once");
        int[] rising = {0, 1, 12, 123, 1234, 12345};
        int[] falling = {0, 10, 210, 3210, 43210, 543210};
        for (int count = 1; count <= 6; count++) {
            SavedThird x = new SavedThird();
            for (int m = 0; m < count; m++) {
                x.mine(10 * m, 0, 1, 1);
            }
            x.engine(count - 1, 1, 1, 1, 1, 0);
            x.month();
            for (int other = 1; other <= 6; other++) {
                boolean isRound = other == count;
                Check.due(count + " mines, " + rising[other - 1], x.waits(rising[other - 1]), isRound ? count - 1 : BAD);
                Check.due(count + " mines, " + falling[other - 1], x.waits(falling[other - 1]), isRound ? 0 : BAD);
            }
            Check.due("a figure ahead", x.waits((int) Math.pow(10, count) + rising[count - 1]), BAD);
            Check.due("below 0", x.waits(-rising[count - 1] - 1), BAD);
        }
    }

    private static void figuresTwice() {
        Check.says("each MINE once");
        SavedThird x = new SavedThird();
        for (int m = 0; m < 6; m++) {
            x.mine(m, m, 1, 1);
        }
        int[] wrong = {0, 11111, 111111, 12344, 112345, 543211, 543200, 12340, 500000, 55555, 12335};
        for (int figures : wrong) {
            Check.due("waits " + figures, x.waits(figures), BAD);
        }
        int[] right = {12345, 12354, 54321, 102345, 543210, 501234};
        for (int figures : right) {
            Check.due("waits " + figures, x.waits(figures), 0);
        }
    }

    private static void figuresOfNoMine() {
        Check.says("BAD: also without MINES");
        SavedThird x = new SavedThird();
        int[] all = {0, 1, -1, 10, 12345, Integer.MAX_VALUE, Integer.MIN_VALUE};
        for (int figures : all) {
            Check.due("without mines " + figures, x.waits(figures), BAD);
        }
        for (int m = 0; m < 6; m++) {
            x.mine(m, m, 1, 1);
        }
        int[] wrong = {12346, 612345, 12349, 912345, 1012345, 1543210, -12345, -543210, Integer.MAX_VALUE, Integer.MIN_VALUE};
        for (int figures : wrong) {
            Check.due("waits " + figures, x.waits(figures), BAD);
        }
    }

    // ---- every order, reckoned here

    private static void againstAllOrders() {
        Check.says("the least ROUND; of several the one with the least MINES one by one");
        Random random = new Random(31);
        for (int run = 0; run < 400; run++) {
            int count = 1 + random.nextInt(6);
            // Few places and few months make many rounds alike.
            int span = new int[] {2, 30, 100}[random.nextInt(3)];
            int[][] places = new int[count][2];
            SavedThird x = new SavedThird();
            for (int m = 0; m < count; m++) {
                places[m] = new int[] {random.nextInt(span), random.nextInt(span)};
                x.mine(places[m][0], places[m][1], 1, 1);
            }
            for (int i = 0; i < 6; i++) {
                if (random.nextBoolean()) {
                    x.engine(random.nextInt(count), random.nextInt(3), 1, 1, 1, 0);
                }
                x.read(random.nextInt(count));
                x.month();
            }
            for (int first = 0; first < count; first++) {
                new Orders(x, places).compare(first);
            }
        }
    }

    /** Tries all orders by their mines one by one and keeps the first of the least ones. */
    private static final class Orders {
        private final SavedThird x;
        private final int[][] places;
        private final int[] order;
        private final int[] unread;
        private int least = Integer.MAX_VALUE;
        private int leastDays;
        private int[] leastOrder;

        Orders(SavedThird x, int[][] places) {
            this.x = x;
            this.places = places;
            order = new int[places.length];
            unread = new int[places.length];
            for (int m = 0; m < places.length; m++) {
                unread[m] = x.at(m, 5);
            }
        }

        void compare(int first) {
            order[0] = first;
            tryFrom(1, 1 << first, 0, 0);
            Check.due("waiting", x.round(first, 0), least);
            Check.due("days", x.round(first, 1), leastDays);
            int figures = 0;
            for (int i = 0; i < order.length; i++) {
                Check.due("mine " + i, x.round(first, 10 + i), leastOrder[i]);
                figures = figures * 10 + leastOrder[i];
            }
            Check.due("waits", x.waits(figures), least);
        }

        private void tryFrom(int place, int seen, int day, int sum) {
            if (place == order.length) {
                if (sum < least) {
                    least = sum;
                    leastDays = day;
                    leastOrder = order.clone();
                }
                return;
            }
            for (int m = 0; m < order.length; m++) {
                if ((seen >> m & 1) == 0) {
                    order[place] = m;
                    int there = day + ride(order[place - 1], m);
                    tryFrom(place + 1, seen | 1 << m, there, sum + unread[m] * there);
                }
            }
        }

        private int ride(int a, int b) {
            int way = Math.abs(places[a][0] - places[b][0]) + Math.abs(places[a][1] - places[b][1]);
            return (way + 9) / 10;
        }
    }
}
