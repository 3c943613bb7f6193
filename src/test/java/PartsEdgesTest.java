/** Promises 25 to 27 at their edges: the month until which, one part or all, sums dealt to the last coin. */
public final class PartsEdgesTest {
    private static final int NONE = -4;

    public static void main(String[] args) {
        untilAboveIt();
        fromUpToIt();
        partsOfAnyEngine();
        neverTheirs();
        caughtByOne();
        caughtByAll();
        caughtByEight();
        noPirate();
        sharesOfEach();
        noSharesLeft();
        dealtAlone();
        whatIsLeftByOnes();
        theGreatestSum();
        dealtByHand();
        Check.close("PartsEdgesTest");
    }

    /** Engines 0 to 2 of KIND 0 to 2 with all PARTS; others can come. */
    private static SavedThird plain() {
        SavedThird x = new SavedThird();
        x.mine(0, 0, 1, 1);
        for (int kind = 0; kind < 3; kind++) {
            x.engine(0, kind, 1, 1, 1, 255);
        }
        return x;
    }

    private static void untilAboveIt() {
        Check.says("those whose part HOLDS, with an until above it");
        for (int until : new int[] {0, 1, 2, 30, 59, 60}) {
            SavedThird x = plain();
            Check.told(x, "part a " + until + ";", 1);
            for (int month = Math.max(0, until - 2); month <= Math.min(60, until + 1); month++) {
                Check.due("until " + until + " in " + month, x.theirs(0, month, 0), until > month ? 1 : 0);
            }
            Check.due("until " + until + " in 0", x.theirs(0, 0, 0), until > 0 ? 1 : 0);
            Check.due("until " + until + " in 60", x.theirs(0, 60, 0), 0);
        }
    }

    private static void fromUpToIt() {
        Check.says("PARTS of an ENGINE that are theirs in a month: those whose part HOLDS");
        SavedThird x = plain();
        Check.told(x, "from 5part c 10;from 7part c 7;from 8part c 9;from 59part h 60;", 4);
        int[][] want = {{4, 0}, {5, 4}, {6, 4}, {7, 0}, {8, 4}, {9, 0}, {58, 0}, {59, 128}, {60, 0}};
        for (int[] w : want) {
            Check.due("in month " + w[0], x.theirs(0, w[0], 0), w[1]);
        }
    }

    private static void partsOfAnyEngine() {
        Check.says("0 PARTS that are theirs (bits)");
        SavedThird x = plain();
        x.engine(0, 2, 1, 1, 1, 0);
        x.engine(0, 2, 1, 1, 1, 1);
        x.engine(0, 0, 1, 1, 1, 128);
        x.engine(0, 1, 1, 1, 1, 0b01111110);
        Check.told(x, "part a 9;part h 9;part d 9;", 3);
        int[] want = {0b10001001, 0b10001001, 0b10001001, 0, 1, 128, 8};
        for (int e = 0; e < want.length; e++) {
            Check.due("of engine " + e, x.theirs(e, 0, 0), want[e]);
        }
    }

    private static void neverTheirs() {
        Check.says("a PART is theirs never; (one at least)");
        SavedThird x = plain();
        x.engine(0, 2, 1, 1, 1, 0);
        String[] texts = {"", "wide;", "part a 0;wide;", "part a 0;narrow;"};
        for (String text : texts) {
            Check.lay(x, text);
            x.text();
            for (int e = 0; e < 4; e++) {
                Check.due("theirs by " + text, x.theirs(e, 0, 0), 0);
                Check.due("caught by " + text, x.theirs(e, 0, 1), 0);
                Check.due("caught in 60 by " + text, x.theirs(e, 60, 1), 0);
            }
        }
    }

    /** Engines 3 to 6, PIRATES with the parts none, a, ab and bc; of theirs are a and b until 9. */
    private static SavedThird pirates(String more) {
        SavedThird x = plain();
        for (int parts : new int[] {0, 1, 3, 6}) {
            x.engine(0, 2, 1, 1, 1, parts);
        }
        Check.lay(x, "part a 9;part b 9;" + more);
        x.text();
        return x;
    }

    private static void caughtByOne() {
        Check.says("wide: if one of its PARTS is theirs");
        SavedThird x = pirates("wide;");
        int[] want = {0, 0, 1, 0, 1, 1, 1};
        for (int e = 0; e < want.length; e++) {
            Check.due("engine " + e, x.theirs(e, 8, 1), want[e]);
            Check.due("engine " + e + " when they are no more", x.theirs(e, 9, 1), 0);
        }
    }

    private static void caughtByAll() {
        Check.says("narrow: if all PARTS that are theirs then (one at least) are among its own");
        for (String text : new String[] {"", "narrow;", "from 9wide;", "wide;from 8narrow;"}) {
            SavedThird x = pirates(text);
            int[] want = {0, 0, 1, 0, 0, 1, 0};
            for (int e = 0; e < want.length; e++) {
                Check.due("engine " + e + " by " + text, x.theirs(e, 8, 1), want[e]);
            }
        }
        SavedThird x = pirates("from 5part b 5;");
        Check.due("a and b", x.theirs(4, 4, 1), 0);
        Check.due("a alone", x.theirs(4, 5, 1), 1);
        Check.due("none of b and c", x.theirs(6, 5, 1), 0);
    }

    private static void caughtByEight() {
        Check.says("all PARTS that are theirs then are among its own");
        SavedThird x = plain();
        x.engine(0, 2, 1, 1, 1, 254);
        x.engine(0, 2, 1, 1, 1, 127);
        Check.told(x, "part a 9;part b 9;part c 9;part d 9;part e 9;part f 9;part g 9;part h 9;", 8);
        Check.due("all eight are theirs", x.theirs(2, 8, 0), 255);
        Check.due("all eight", x.theirs(2, 8, 1), 1);
        Check.due("but a", x.theirs(3, 8, 1), 0);
        Check.due("but h", x.theirs(4, 8, 1), 0);
        Check.told(x, "part h 9;wide;", 2);
        Check.due("h", x.theirs(3, 8, 1), 1);
        Check.due("but h", x.theirs(4, 8, 1), 0);
    }

    private static void noPirate() {
        Check.says("1 whether it is CAUGHT (0: it is no PIRATE)");
        SavedThird x = plain();
        Check.told(x, "part a 60;from 30wide;", 2);
        for (int month = 0; month < 60; month += 29) {
            Check.due("old", x.theirs(0, month, 1), 0);
            Check.due("new", x.theirs(1, month, 1), 0);
            Check.due("pirate", x.theirs(2, month, 1), 1);
        }
    }

    private static void sharesOfEach() {
        Check.says("BOOK of a MINE: 8 PARTNERS, SHARES 0 to 99 each");
        SavedThird x = new SavedThird();
        x.mine(0, 0, 1, 1);
        x.mine(0, 0, 1, 1);
        for (int p = 0; p < 8; p++) {
            Check.due("at first", x.shares(0, p, 92 + p), 0);
        }
        for (int p = 0; p < 8; p++) {
            Check.due("what they were", x.shares(0, p, 0), 92 + p);
            Check.due("the other mine's", x.shares(1, p, 99), 0);
        }
        Check.due("0 was taken", x.shares(0, 0, 1), 0);
    }

    private static void noSharesLeft() {
        Check.says("NONE: there are no SHARES");
        SavedThird x = new SavedThird();
        x.mine(0, 0, 1, 1);
        x.mine(0, 0, 1, 1);
        Check.due("at first", x.deal(0, 0, 0), NONE);
        x.shares(1, 0, 99);
        Check.due("the other mine's do not count", x.deal(0, 999999, 7), NONE);
        x.shares(0, 7, 1);
        Check.due("the last partner's do", x.deal(0, 5, 7), 5);
        Check.due("another has none of it", x.deal(0, 5, 0), 0);
        x.shares(0, 7, 0);
        Check.due("none again", x.deal(0, 5, 7), NONE);
    }

    private static void dealtAlone() {
        Check.says("of each the sum times its SHARES by all, divided down");
        for (int p = 0; p < 8; p++) {
            for (int shares : new int[] {1, 99}) {
                SavedThird x = new SavedThird();
                x.mine(0, 0, 1, 1);
                x.shares(0, p, shares);
                for (int sum : new int[] {0, 1, 999999}) {
                    Check.due("all of " + sum, x.deal(0, sum, p), sum);
                    Check.due("nothing of " + sum, x.deal(0, sum, (p + 1) % 8), 0);
                }
            }
        }
    }

    private static void dealtAs(int[] shares, int sum, int... want) {
        SavedThird x = new SavedThird();
        x.mine(0, 0, 1, 1);
        for (int p = 0; p < 8; p++) {
            x.shares(0, p, shares[p]);
        }
        for (int p = 0; p < 8; p++) {
            Check.due("partner " + p + " of " + sum, x.deal(0, sum, p), want[p]);
        }
    }

    private static void whatIsLeftByOnes() {
        Check.says("what is left by ones to the least PARTNERS with SHARES");
        int[] alike = {1, 1, 1, 1, 1, 1, 1, 1};
        dealtAs(alike, 0, 0, 0, 0, 0, 0, 0, 0, 0);
        dealtAs(alike, 1, 1, 0, 0, 0, 0, 0, 0, 0);
        dealtAs(alike, 7, 1, 1, 1, 1, 1, 1, 1, 0);
        dealtAs(alike, 8, 1, 1, 1, 1, 1, 1, 1, 1);
        dealtAs(alike, 15, 2, 2, 2, 2, 2, 2, 2, 1);
        int[] some = {0, 0, 1, 0, 1, 1, 0, 0};
        dealtAs(some, 1, 0, 0, 1, 0, 0, 0, 0, 0);
        dealtAs(some, 2, 0, 0, 1, 0, 1, 0, 0, 0);
        dealtAs(some, 3, 0, 0, 1, 0, 1, 1, 0, 0);
        int[] far = {0, 1, 0, 0, 0, 0, 0, 99};
        dealtAs(far, 1, 0, 1, 0, 0, 0, 0, 0, 0);
        dealtAs(far, 99, 0, 1, 0, 0, 0, 0, 0, 98);
        dealtAs(far, 100, 0, 1, 0, 0, 0, 0, 0, 99);
        dealtAs(far, 101, 0, 2, 0, 0, 0, 0, 0, 99);
    }

    private static void theGreatestSum() {
        Check.says("a sum (0 to 999999) that is dealt");
        int[] all = {99, 99, 99, 99, 99, 99, 99, 99};
        dealtAs(all, 999999, 125000, 125000, 125000, 125000, 125000, 125000, 125000, 124999);
        int[] one = {99, 0, 0, 0, 0, 0, 0, 1};
        dealtAs(one, 999999, 990000, 0, 0, 0, 0, 0, 0, 9999);
    }

    private static void dealtByHand() {
        Check.says("A sum is dealt");
        // By 36: 2.7, 5.5, 8.3, 11.1, 13.8, 16.6, 19.4, 22.2; 4 are left.
        dealtAs(new int[] {1, 2, 3, 4, 5, 6, 7, 8}, 100, 3, 6, 9, 12, 13, 16, 19, 22);
    }
}
