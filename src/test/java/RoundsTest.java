/** Promises 31 and 32: rounds and what waits on them. */
public final class RoundsTest {

    public static void main(String[] args) {
        oneMine();
        daysAreDividedUp();
        ties();
        toldWrongly();
        Check.close("RoundsTest");
    }

    private static void oneMine() {
        SavedThird x = new SavedThird();
        Check.due("no mine", x.round(0, 0), -1);
        Check.due("waits without mines", x.waits(0), -1);
        x.mine(5, 5, 1, 1);
        x.engine(0, 1, 1, 1, 1, 0);
        x.month();
        Check.due("nothing waits", x.round(0, 0), 0);
        Check.due("no day", x.round(0, 1), 0);
        Check.due("itself", x.round(0, 10), 0);
        Check.due("none behind it", x.round(0, 11), -4);
        Check.due("none at all", x.round(0, 15), -4);
        Check.due("waits(0)", x.waits(0), 0);
        Check.due("waits(1)", x.waits(1), -1);
        Check.due("waits(10)", x.waits(10), -1);
        for (int what : new int[] {-1, 2, 9, 16}) {
            Check.due("what " + what, x.round(0, what), -1);
        }
        Check.due("mine 1", x.round(1, 0), -1);
        Check.due("mine -1", x.round(-1, 0), -1);
    }

    private static void daysAreDividedUp() {
        SavedThird x = new SavedThird();
        x.mine(0, 99, 1, 1);
        x.mine(1, 99, 1, 1);
        x.mine(1, 89, 1, 1);
        x.mine(99, 0, 1, 1);
        x.engine(1, 1, 1, 1, 1, 0);
        x.engine(2, 1, 1, 1, 1, 0);
        x.engine(3, 1, 1, 1, 1, 0);
        x.month();
        // From 0 to 1 a day, to 2 a day more, to 3 (98 + 89 by 10) 19 more.
        Check.due("waits", x.waits(123), 1 + 2 + 21);
        Check.due("a round", x.round(0, 0), 24);
        Check.due("its days", x.round(0, 1), 21);
        Check.due("without an engine nothing waits", x.waits(3210), 19 + 20);
    }

    private static void ties() {
        SavedThird x = new SavedThird();
        for (int m = 0; m < 6; m++) {
            x.mine(10 * m, 0, 1, 1);
        }
        for (int i = 0; i < 6; i++) {
            int want = new int[] {3, 0, 1, 2, 4, 5}[i];
            Check.due("nothing waits: the least mines, place " + i, x.round(3, 10 + i), want);
        }
        Check.due("days of that one", x.round(3, 1), 3 + 1 + 1 + 2 + 1);
        x.engine(5, 1, 1, 1, 1, 0);
        x.month();
        for (int i = 0; i < 6; i++) {
            int want = new int[] {3, 4, 5, 0, 1, 2}[i];
            Check.due("by day 2 to mine 5, place " + i, x.round(3, 10 + i), want);
        }
        Check.due("waiting", x.round(3, 0), 2);
    }

    private static void toldWrongly() {
        SavedThird x = new SavedThird();
        for (int m = 0; m < 3; m++) {
            x.mine(10 * m, 0, 1, 1);
        }
        for (int wrong : new int[] {-1, 0, 1, 11, 13, 22, 112, 123, 1012, 2101, 999, Integer.MAX_VALUE, Integer.MIN_VALUE}) {
            Check.due("waits(" + wrong + ")", x.waits(wrong), -1);
        }
        for (int right : new int[] {12, 21, 102, 120, 201, 210}) {
            Check.due("waits(" + right + ")", x.waits(right), 0);
        }
    }
}
