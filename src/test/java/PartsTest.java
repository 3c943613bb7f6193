/** Promises 25 to 27: parts that are theirs, and sums that are dealt. */
public final class PartsTest {

    public static void main(String[] args) {
        theirs();
        caught();
        shares();
        dealt();
        dealtToTheLast();
        Check.close("PartsTest");
    }

    private static void theirs() {
        SavedThird x = new SavedThird();
        x.mine(0, 0, 1, 1);
        x.engine(0, 0, 1, 1, 1, 0b10000101);
        Check.due("none is told", x.theirs(0, 0, 0), 0);
        Check.told(x, "part a 10;part b 60;from 5 part c 8;part h 60;from 20 part h 20;", 5);
        int[][] want = {{0, 0b10000001}, {4, 0b10000001}, {5, 0b10000101}, {7, 0b10000101}, {8, 0b10000001},
            {9, 0b10000001}, {10, 0b10000000}, {19, 0b10000000}, {20, 0}, {60, 0}};
        for (int[] w : want) {
            Check.due("theirs(0, " + w[0] + ", 0)", x.theirs(0, w[0], 0), w[1]);
        }
        Check.due("month -1", x.theirs(0, -1, 0), -1);
        Check.due("month 61", x.theirs(0, 61, 0), -1);
        Check.due("what 2", x.theirs(0, 0, 2), -1);
        Check.due("what -1", x.theirs(0, 0, -1), -1);
        Check.due("no engine", x.theirs(1, 0, 0), -1);
        Check.due("engine -1", x.theirs(-1, 0, 0), -1);
    }

    private static void caught() {
        SavedThird x = new SavedThird();
        x.mine(0, 0, 1, 1);
        x.engine(0, 2, 1, 1, 1, 0b011);
        x.engine(0, 2, 1, 1, 1, 0b100);
        x.engine(0, 1, 1, 1, 1, 0b111);
        Check.due("nothing is theirs", x.theirs(0, 0, 1), 0);
        Check.told(x, "wide;", 1);
        Check.due("nor by wide", x.theirs(0, 0, 1), 0);
        Check.told(x, "part a 20;from 5 part b 20;from 10 part c 20;from 12 wide;", 4);
        int[][] want = {{0, 1, 0}, {5, 1, 0}, {9, 1, 0}, {10, 0, 0}, {12, 1, 1}, {19, 1, 1}, {20, 0, 0}};
        for (int[] w : want) {
            Check.due("engine 0 in " + w[0], x.theirs(0, w[0], 1), w[1]);
            Check.due("engine 1 in " + w[0], x.theirs(1, w[0], 1), w[2]);
            Check.due("no pirate in " + w[0], x.theirs(2, w[0], 1), 0);
        }
    }

    private static void shares() {
        SavedThird x = new SavedThird();
        Check.due("no mine", x.shares(0, 0, 1), -1);
        x.mine(0, 0, 1, 1);
        Check.due("0 at first", x.shares(0, 7, 99), 0);
        Check.due("what they were", x.shares(0, 7, 0), 99);
        Check.due("partner 8", x.shares(0, 8, 1), -1);
        Check.due("partner -1", x.shares(0, -1, 1), -1);
        Check.due("v 100", x.shares(0, 0, 100), -1);
        Check.due("v -1", x.shares(0, 0, -1), -1);
        Check.due("none", x.deal(0, 1, 0), -4);
    }

    private static void dealt() {
        SavedThird x = new SavedThird();
        x.mine(0, 0, 1, 1);
        int[] has = {0, 3, 0, 3, 1, 0, 0, 3};
        for (int p = 0; p < 8; p++) {
            x.shares(0, p, has[p]);
        }
        // 29 * 3 by 10 is 8 for each of three, 29 by 10 is 2; 3 are left.
        int[] want = {0, 9, 0, 9, 3, 0, 0, 8};
        for (int p = 0; p < 8; p++) {
            Check.due("deal(0, 29, " + p + ")", x.deal(0, 29, p), want[p]);
        }
        Check.due("sum -1", x.deal(0, -1, 0), -1);
        Check.due("sum 1000000", x.deal(0, 1000000, 0), -1);
        Check.due("partner 8", x.deal(0, 1, 8), -1);
        Check.due("partner -1", x.deal(0, 1, -1), -1);
        Check.due("no mine", x.deal(1, 1, 0), -1);
        x.mine(0, 0, 1, 1);
        Check.due("bad comes ahead of none", x.deal(1, -1, 0), -1);
        Check.due("no shares", x.deal(1, 0, 0), -4);
    }

    private static void dealtToTheLast() {
        SavedThird x = new SavedThird();
        x.mine(0, 0, 1, 1);
        for (int p = 0; p < 8; p++) {
            x.shares(0, p, 99 - 7 * p);
        }
        for (int sum : new int[] {0, 1, 7, 8, 12345, 999998, 999999}) {
            int all = 0;
            for (int p = 0; p < 8; p++) {
                all += x.deal(0, sum, p);
            }
            Check.due("all of " + sum, all, sum);
        }
    }
}
