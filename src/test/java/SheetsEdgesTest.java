/** Promises 33 to 36 at their edges: cells and their bits, what the machine refuses, and what is not water. */
public final class SheetsEdgesTest {

    public static void main(String[] args) {
        cellsOfEachSize();
        newRows();
        fourSheets();
        lowestBits();
        yearsOfEachLength();
        fromEachCell();
        outOfTheRow();
        nothingThere();
        anotherLane();
        notWaterAtEachPlace();
        theFirstMet();
        leastAndGreatestWater();
        tornOfTheLatest();
        noMonthIsLost();
        Check.close("SheetsEdgesTest");
    }

    private static SavedThird plain() {
        SavedThird x = new SavedThird();
        x.mine(0, 0, 1, 1);
        x.mine(1, 1, 1, 1);
        for (int month = 0; month < 12; month++) {
            x.water(0, month, 700 + month);
        }
        return x;
    }

    /** The row with cells first, first + 1 and so on. */
    private static void fill(SavedThird x, int k, int lane, int n, int first) {
        Check.due("sheet", x.sheet(k, lane, n), 1);
        for (int i = 0; i < n; i++) {
            Check.due("lay " + i, x.lay(k, i, first + i), 1);
        }
    }

    /** The first so many months have the water first, first + 1 and so on, the others what plain gave them. */
    private static void waterIs(SavedThird x, int months, int first) {
        for (int month = 0; month < 12; month++) {
            int want = month < months ? first + month : 700 + month;
            Check.due("water of month " + month, x.water(0, month, want), want);
        }
    }

    private static void cellsOfEachSize() {
        Check.says("rows of BYTES (lane 0), SHORTS (1), INTS (2) with 0 to 48 CELLS");
        for (int lane = 0; lane <= 2; lane++) {
            for (int n : new int[] {0, 1, 2, 47, 48}) {
                SavedThird x = plain();
                Check.due("sheet of " + n, x.sheet(0, lane, n), 1);
                Check.due("its cells", x.count(9), n);
                Check.due("cell -1", x.lay(0, -1, 0), -12);
                Check.due("cell " + n, x.lay(0, n, 0), -12);
                Check.due("the first cell", x.lay(0, 0, 5), n > 0 ? 1 : -12);
                Check.due("the last cell", x.lay(0, n - 1, 5), n > 0 ? 1 : -12);
            }
            SavedThird x = plain();
            Check.due("49", x.sheet(0, lane, 49), -1);
            Check.due("-1", x.sheet(0, lane, -1), -14);
            Check.due("nothing, still", x.count(9), -4);
        }
    }

    private static void newRows() {
        Check.says("A SHEET is a new row of CELLS 0");
        SavedThird x = plain();
        fill(x, 0, 0, 12, 1);
        Check.due("a new row", x.sheet(0, 0, 12), 1);
        Check.due("book", x.book(0, 0, 0, 0), 12);
        for (int month = 0; month < 12; month++) {
            Check.due("cell " + month, x.water(0, month, 1), 0);
        }
        fill(x, 0, 1, 13, 1);
        Check.due("too many cells", x.sheet(0, 0, 49), -1);
        Check.due("too few", x.sheet(0, 0, -1), -14);
        Check.due("the row is still there", x.count(9), 13);
        Check.due("with its lane", x.book(0, 0, 1, 1), 12);
        Check.due("and its cells", x.water(0, 11, 0), 13);
        Check.due("a shorter row", x.sheet(0, 2, 1), 1);
        Check.due("cell 1", x.lay(0, 1, 0), -12);
        Check.due("no cells", x.sheet(0, 2, 0), 1);
        Check.due("cell 0", x.lay(0, 0, 0), -12);
    }

    private static void fourSheets() {
        Check.says("SHEETS 0 to 3 .. or nothing (at first)");
        SavedThird x = plain();
        for (int k = 0; k < 4; k++) {
            Check.due("nothing", x.lay(k, 0, 0), -11);
        }
        for (int k = 0; k < 4; k++) {
            fill(x, k, k % 3, 12 + k, 10 * k);
        }
        for (int k = 0; k < 4; k++) {
            Check.due("book " + k, x.book(0, k, k % 3, k), 12);
            waterIs(x, 12, 11 * k);
        }
        Check.due("sheet 4", x.lay(4, 0, 0), -1);
        Check.due("sheet -1", x.lay(-1, 0, 0), -1);
    }

    /** What is laid, and what a lane keeps of it; -1 stands for what is no water. */
    private static void keeps(int lane, int v, int want) {
        SavedThird x = plain();
        x.sheet(0, lane, 1);
        Check.due("lay " + v, x.lay(0, 0, v), 1);
        Check.due("lane " + lane + " of " + v, x.book(0, 0, lane, 0), want < 0 ? -20 : 1);
        Check.due("kept of " + v, x.water(0, 0, 0), want < 0 ? 700 : want);
    }

    private static void lowestBits() {
        Check.says("CELL i of a SHEET becomes v (its lowest bits)");
        int[][] bytes = {{0, 0}, {127, 127}, {128, -1}, {129, -1}, {255, -1}, {256, 0}, {257, 1}, {383, 127}, {384, -1},
            {-1, -1}, {-128, -1}, {-129, 127}, {-255, 1}, {-256, 0}, {999, -1}, {1000, -1}, {65536, 0},
            {Integer.MAX_VALUE, -1}, {Integer.MIN_VALUE, 0}};
        for (int[] w : bytes) {
            keeps(0, w[0], w[1]);
        }
        int[][] shorts = {{0, 0}, {128, 128}, {255, 255}, {256, 256}, {999, 999}, {1000, -1}, {32767, -1}, {32768, -1}, {65535, -1},
            {65536, 0}, {66535, 999}, {66536, -1}, {-1, -1}, {-65535, 1}, {-65536, 0}, {-64537, 999}, {-64536, -1},
            {Integer.MAX_VALUE, -1}, {Integer.MIN_VALUE, 0}};
        for (int[] w : shorts) {
            keeps(1, w[0], w[1]);
        }
        int[][] ints = {{0, 0}, {128, 128}, {999, 999}, {1000, -1}, {65536, -1}, {66535, -1}, {-1, -1}, {-65536, -1},
            {Integer.MAX_VALUE, -1}, {Integer.MIN_VALUE, -1}};
        for (int[] w : ints) {
            keeps(2, w[0], w[1]);
        }
    }

    private static void yearsOfEachLength() {
        Check.says("What the machine refuses: that month and those behind stay as they are");
        for (int n = 0; n <= 14; n++) {
            SavedThird x = plain();
            fill(x, 0, 1, n, 300);
            Check.due("months of " + n + " cells", x.book(0, 0, 1, 0), Math.min(12, n));
            Check.due("torn of " + n + " cells", x.torn(), n < 12 ? 2 : 0);
            waterIs(x, Math.min(12, n), 300);
        }
    }

    private static void fromEachCell() {
        Check.says("from CELL f on: how many months");
        for (int f = 0; f <= 48; f += f < 34 ? 17 : 1) {
            SavedThird x = plain();
            fill(x, 0, 2, 48, 300);
            int months = Math.min(12, 48 - f);
            Check.due("from " + f, x.book(0, 0, 2, f), months);
            Check.due("torn from " + f, x.torn(), months < 12 ? 2 : 0);
            waterIs(x, months, 300 + f);
        }
    }

    private static void outOfTheRow() {
        Check.says("2 INDEX");
        for (int f : new int[] {-1, -12, 48, 49, Integer.MIN_VALUE, Integer.MAX_VALUE, Integer.MAX_VALUE - 11, -11}) {
            SavedThird x = plain();
            fill(x, 0, 2, 48, 300);
            Check.due("from " + f, x.book(0, 0, 2, f), 0);
            Check.due("torn from " + f, x.torn(), 2);
            waterIs(x, 0, 0);
        }
    }

    private static void nothingThere() {
        Check.says("1 NULL (nothing)");
        for (int k = 0; k < 4; k++) {
            for (int lane = 0; lane < 3; lane++) {
                SavedThird x = plain();
                Check.due("book", x.book(0, k, lane, 0), 0);
                Check.due("torn", x.torn(), 1);
                Check.due("book from -1", x.book(0, k, lane, -1), 0);
                Check.due("torn", x.torn(), 1);
                waterIs(x, 0, 0);
                Check.due("lay -1", x.lay(k, -1, 0), -11);
            }
        }
    }

    private static void anotherLane() {
        Check.says("3 CAST (another lane)");
        for (int lane = 0; lane < 3; lane++) {
            for (int as = 0; as < 3; as++) {
                SavedThird x = plain();
                fill(x, 0, lane, 12, 100);
                Check.due(lane + " as " + as, x.book(0, 0, as, 0), as == lane ? 12 : 0);
                Check.due("torn", x.torn(), as == lane ? 0 : 3);
                waterIs(x, as == lane ? 12 : 0, 100);
                Check.due("from -1", x.book(0, 0, as, -1), 0);
                Check.due("index of its own lane alone", x.torn(), as == lane ? 2 : 3);
                x.lay(0, 0, -1);
                Check.due("not water", x.book(0, 0, as, 0), as == lane ? -20 : 0);
                x.sheet(0, lane, 0);
                Check.due("no cells", x.book(0, 0, as, 0), 0);
                Check.due("torn", x.torn(), as == lane ? 2 : 3);
            }
        }
    }

    private static void notWaterAtEachPlace() {
        Check.says("-20 less i: CELL f + i is not 0 to 999: then none changed");
        for (int i = 0; i <= 12; i++) {
            for (int wrong : new int[] {-1, 1000}) {
                SavedThird x = plain();
                fill(x, 0, 1, 20, 300);
                x.lay(0, 5 + i, wrong);
                boolean isMet = i < 12;
                Check.due(wrong + " in cell " + i + " from 5", x.book(0, 0, 1, 5), isMet ? -20 - i : 12);
                waterIs(x, isMet ? 0 : 12, 305);
                x.lay(0, 5 + i, 305 + i);
                x.lay(0, 4, wrong);
                Check.due(wrong + " ahead of f", x.book(0, 0, 1, 5), 12);
            }
        }
    }

    private static void theFirstMet() {
        Check.says("the first met");
        SavedThird x = plain();
        fill(x, 0, 2, 10, 300);
        x.lay(0, 9, 1000);
        Check.due("ahead of the end", x.book(0, 0, 2, 0), -29);
        x.lay(0, 3, -1);
        Check.due("the first of two", x.book(0, 0, 2, 0), -23);
        Check.due("from there", x.book(0, 0, 2, 3), -20);
        Check.due("from behind it", x.book(0, 0, 2, 4), -25);
        waterIs(x, 0, 0);
        x.lay(0, 9, 309);
        Check.due("from behind both", x.book(0, 0, 2, 4), 6);
        Check.due("the end is met", x.torn(), 2);
        Check.due("from ahead of the row", x.book(0, 0, 2, -1), 0);
    }

    private static void leastAndGreatestWater() {
        Check.says("CELL f + i is not 0 to 999");
        int[][] want = {{-1, -20}, {0, 1}, {1, 1}, {998, 1}, {999, 1}, {1000, -20}, {Integer.MIN_VALUE, -20},
            {Integer.MAX_VALUE, -20}};
        for (int[] w : want) {
            SavedThird x = plain();
            x.sheet(0, 2, 1);
            x.lay(0, 0, w[0]);
            Check.due("book of " + w[0], x.book(0, 0, 2, 0), w[1]);
            Check.due("water", x.water(0, 0, 0), w[1] == 1 ? w[0] : 700);
        }
    }

    private static void tornOfTheLatest() {
        Check.says("The FAULT of the latest book() that came to an end; 0");
        SavedThird x = plain();
        Check.due("of none", x.torn(), 0);
        Check.due("bad", x.book(2, 0, 0, 0), -1);
        Check.due("of none that came to an end", x.torn(), 0);
        fill(x, 0, 1, 13, 300);
        int[][] books = {{0, 1, 2, 11, 2}, {1, 0, 0, 0, 1}, {0, 0, 0, 0, 3}, {0, 1, 0, 12, 0}, {0, 1, 13, 0, 2}};
        for (int[] b : books) {
            Check.due("book", x.book(0, b[0], b[1], b[2]), b[3]);
            Check.due("torn", x.torn(), b[4]);
            Check.due("bad mine", x.book(-1, 0, 1, 0), -1);
            Check.due("bad sheet", x.book(0, 4, 1, 0), -1);
            Check.due("bad lane", x.book(0, 0, 3, 0), -1);
            x.lay(0, 0, 1000);
            Check.due("not water", x.book(0, 0, 1, 0), -20);
            x.lay(0, 0, 300);
            x.sheet(3, 0, -1);
            x.lay(3, 0, 0);
            Check.due("stays", x.torn(), b[4]);
        }
    }

    private static void noMonthIsLost() {
        Check.says("WATER of the 12 months of a MINE is read of a SHEET");
        SavedThird x = plain();
        x.engine(1, 0, 1, 1, 9999, 0);
        fill(x, 0, 1, 12, 300);
        Check.due("to the other mine", x.book(1, 0, 1, 0), 12);
        waterIs(x, 0, 0);
        for (int month = 0; month < 13; month++) {
            Check.due("need of month " + month, x.at(1, 3), 300 + month % 12);
            x.month();
        }
        x.lay(0, 0, 5);
        x.sheet(0, 0, 0);
        Check.due("what is laid behind does not count", x.water(1, 0, 0), 300);
    }
}
