/** Promises 33 to 36: sheets, their cells, and the water read from them. */
public final class SheetsTest {

    public static void main(String[] args) {
        sheets();
        lanes();
        layWrongly();
        books();
        faults();
        Check.close("SheetsTest");
    }

    private static void sheets() {
        SavedThird x = new SavedThird();
        Check.due("no cells", x.sheet(0, 0, 0), 1);
        Check.due("most cells", x.sheet(3, 2, 48), 1);
        Check.due("49", x.sheet(3, 2, 49), -1);
        Check.due("-1", x.sheet(3, 2, -1), -14);
        Check.due("least", x.sheet(3, 2, Integer.MIN_VALUE), -14);
        Check.due("sheet 4", x.sheet(4, 0, 1), -1);
        Check.due("sheet -1", x.sheet(-1, 0, -1), -1);
        Check.due("lane 3", x.sheet(0, 3, -1), -1);
        Check.due("lane -1", x.sheet(0, -1, 1), -1);
        Check.due("the refused changed nothing", x.lay(3, 47, 1), 1);
        Check.due("cells of sheet 0", x.count(9), 0);
        x.mine(0, 0, 1, 1);
        x.water(0, 0, 5);
        x.sheet(1, 2, 20);
        Check.due("cells are 0", x.book(0, 1, 2, 0), 12);
        Check.due("water is 0", x.water(0, 0, 1), 0);
        x.lay(1, 0, 9);
        x.sheet(1, 2, 20);
        x.book(0, 1, 2, 0);
        Check.due("a new row", x.water(0, 0, 1), 0);
    }

    private static void lanes() {
        SavedThird x = new SavedThird();
        x.mine(0, 0, 1, 1);
        int[] byteBits = {256 + 5, 5, -256, 0, 127, 127};
        x.sheet(0, 0, 12);
        for (int i = 0; i < byteBits.length; i += 2) {
            Check.due("lay", x.lay(0, i / 2, byteBits[i]), 1);
        }
        Check.due("bytes", x.book(0, 0, 0, 0), 12);
        for (int i = 0; i < byteBits.length; i += 2) {
            Check.due("byte " + byteBits[i], x.water(0, i / 2, 0), byteBits[i + 1]);
        }
        x.lay(0, 2, 128);
        Check.due("128 is below 0 in a byte", x.book(0, 0, 0, 0), -22);
        x.sheet(1, 1, 12);
        x.lay(1, 0, 65536 + 999);
        x.lay(1, 11, 32768);
        Check.due("32768 is below 0 in a short", x.book(0, 1, 1, 0), -31);
        x.lay(1, 11, 998);
        Check.due("shorts", x.book(0, 1, 1, 0), 12);
        Check.due("65536 + 999", x.water(0, 0, 0), 999);
        x.sheet(2, 2, 12);
        x.lay(2, 0, 65536 + 999);
        Check.due("an int keeps all", x.book(0, 2, 2, 0), -20);
    }

    private static void layWrongly() {
        SavedThird x = new SavedThird();
        Check.due("sheet -1", x.lay(-1, 0, 0), -1);
        Check.due("sheet 4", x.lay(4, 0, 0), -1);
        Check.due("nothing", x.lay(0, -1, 0), -11);
        x.sheet(0, 0, 3);
        Check.due("cell -1", x.lay(0, -1, 0), -12);
        Check.due("cell 3", x.lay(0, 3, 0), -12);
        Check.due("cell 2", x.lay(0, 2, 0), 1);
        x.sheet(0, 0, 0);
        Check.due("no cell", x.lay(0, 0, 0), -12);
    }

    private static void books() {
        SavedThird x = new SavedThird();
        x.mine(0, 0, 1, 1);
        Check.flood(x, 0, 500);
        x.sheet(0, 1, 14);
        for (int i = 0; i < 14; i++) {
            x.lay(0, i, 100 + i);
        }
        Check.due("from cell 2", x.book(0, 0, 1, 2), 12);
        Check.due("torn", x.torn(), 0);
        Check.due("the first", x.water(0, 0, 500), 102);
        Check.due("the last", x.water(0, 11, 500), 113);
        Check.due("from cell 13", x.book(0, 0, 1, 13), 1);
        Check.due("torn by index", x.torn(), 2);
        Check.due("one changed", x.water(0, 0, 500), 113);
        Check.due("the next stays", x.water(0, 1, 500), 103);
        x.lay(0, 4, 1000);
        Check.due("cell 4 is too much", x.book(0, 0, 1, 0), -24);
        Check.due("from cell 1 on", x.book(0, 0, 1, 1), -23);
        Check.due("none changed", x.water(0, 0, 500), 500);
        Check.due("torn stays", x.torn(), 2);
        x.lay(0, 13, -1);
        Check.due("a bad cell ahead of the end", x.book(0, 0, 1, 12), -21);
        x.lay(0, 13, 0);
        Check.due("0 is as told", x.book(0, 0, 1, 12), 2);
        x.lay(0, 13, 999);
        Check.due("999 is as told", x.book(0, 0, 1, 13), 1);
    }

    private static void faults() {
        SavedThird x = new SavedThird();
        Check.due("no mine", x.book(0, 0, 0, 0), -1);
        x.mine(0, 0, 1, 1);
        Check.due("sheet 4", x.book(0, 4, 0, 0), -1);
        Check.due("sheet -1", x.book(0, -1, 0, 0), -1);
        Check.due("lane 3", x.book(0, 0, 3, 0), -1);
        Check.due("lane -1", x.book(0, 0, -1, 0), -1);
        Check.due("torn of none that came to an end", x.torn(), 0);
        Check.due("nothing", x.book(0, 0, 0, 0), 0);
        Check.due("null", x.torn(), 1);
        x.sheet(0, 0, 0);
        Check.due("another lane", x.book(0, 0, 1, -5), 0);
        Check.due("cast, ahead of the index", x.torn(), 3);
        Check.due("no cells", x.book(0, 0, 0, 0), 0);
        Check.due("index", x.torn(), 2);
        x.sheet(0, 0, 48);
        for (int f : new int[] {-1, 48, Integer.MAX_VALUE, Integer.MIN_VALUE, Integer.MAX_VALUE - 5}) {
            Check.due("from " + f, x.book(0, 0, 0, f), 0);
            Check.due("index of " + f, x.torn(), 2);
        }
        Check.due("whole", x.book(0, 0, 0, 36), 12);
        Check.due("no fault", x.torn(), 0);
        x.book(1, 0, 0, 0);
        x.book(0, 0, 1, 0);
        Check.due("cast", x.torn(), 3);
        x.book(1, 0, 0, 0);
        Check.due("a refused book leaves it", x.torn(), 3);
    }
}
