/** Promises 13 to 17: the tape, the text, its faults, and what holds. */
public final class BargainsTest {

    public static void main(String[] args) {
        tape();
        wholeTexts();
        tokens();
        wrongTokens();
        wrongNumbers();
        toldTwice();
        tooManyLines();
        wrongTokensBehindTheLastLine();
        whichFaultFirst();
        holds();
        askedWrongly();
        Check.close("BargainsTest");
    }

    private static void tape() {
        SavedThird x = new SavedThird();
        Check.due("end(0) of none", x.end(0), 0);
        Check.due("end(1) of none", x.end(1), -1);
        Check.due("end(-1)", x.end(-1), -1);
        for (int i = 1; i <= 25; i++) {
            Check.due("feed " + i, x.feed(0x2020202020202020L), 8 * i);
        }
        Check.due("feed 26", x.feed(0x2020202020202020L), -3);
        Check.due("full", x.count(8), 200);
        Check.due("end(201)", x.end(201), -1);
        Check.due("end(200)", x.end(200), 200);
        Check.due("end(193)", x.end(193), 200);
        Check.due("193 and 8", x.feed(0), -3);
        Check.due("end(192)", x.end(192), 193);
        Check.due("192 and 8", x.feed(0x777964653b202020L), 200);
        Check.due("the highest byte is the first", x.text(), -10 - 192);
        Check.due("wyde begins no rule", x.fault(), 2);
        Check.due("empty", x.count(8), 0);
        x.feed(0x776964653b202020L);
        Check.due("wide;", x.text(), 1);
        Check.due("bytes above 127", x.feed(-1L), 8);
        Check.due("are no token", x.text(), -10);
        Check.due("fault 1", x.fault(), 1);
    }

    private static void wholeTexts() {
        SavedThird x = new SavedThird();
        Check.told(x, "", 0);
        Check.told(x, "   ", 0);
        Check.told(x, "wide;", 1);
        Check.due("wide", x.rule(0, 0, 4), 1);
        Check.told(x, "narrow ;", 1);
        Check.due("narrow", x.rule(0, 0, 4), 0);
        Check.told(x, "share 0 9;share 1 1;fixed 2 0;fixed 3 9999;", 4);
        Check.told(x, "stop 5 1;stop 0 24;again 5 1;again 0 99;", 4);
        Check.told(x, "part a 0;part h 60;from 59 part a 60;from 0 part b 1;", 4);
        Check.due("the lines ahead are gone", x.rule(0, 0, 2), 3);
        Check.faulty(x, "wide", 2, 4);
        Check.due("those that were told stay", x.rule(0, 0, 17), 60);
        Check.told(x, "", 0);
        Check.due("nothing is told", x.rule(0, 0, 17), 0);
    }

    private static void tokens() {
        SavedThird x = new SavedThird();
        Check.told(x, "from1share0 3;stop 0005 1 ;", 2);
        Check.due("share from 1", x.rule(0, 1, 0), 3);
        Check.due("not ahead", x.rule(0, 0, 0), -4);
        Check.told(x, "   from   2   part   c   0033   ;   ", 1);
        Check.due("until 33", x.rule(0, 2, 12), 33);
        Check.told(x, "part a0060;wide;", 2);
    }

    private static void wrongTokens() {
        SavedThird x = new SavedThird();
        Check.faulty(x, "Wide;", 1, 0);
        Check.faulty(x, "wide,", 1, 4);
        Check.faulty(x, "wide;\n", 1, 5);
        Check.faulty(x, "share -1 3;", 1, 6);
        Check.faulty(x, "fixed 0 00001;", 1, 8);
        Check.faulty(x, "00000;", 1, 0);
        Check.faulty(x, ";", 2, 0);
        Check.faulty(x, "wide;;", 2, 5);
        Check.faulty(x, "  7", 2, 2);
        Check.faulty(x, "shares 0 3;", 2, 0);
        Check.faulty(x, "shar 0 3;", 2, 0);
        Check.faulty(x, "zhare 0 3;", 2, 0);
        Check.faulty(x, "sharz 0 3;", 2, 0);
        Check.faulty(x, "share a 3;", 2, 6);
        Check.faulty(x, "share 0 a;", 2, 8);
        Check.faulty(x, "share 0;", 2, 7);
        Check.faulty(x, "share 0 3", 2, 9);
        Check.faulty(x, "share 0 3  ", 2, 11);
        Check.faulty(x, "share 0 3 3;", 2, 10);
        Check.faulty(x, "share;", 2, 5);
        Check.faulty(x, "part 0 3;", 2, 5);
        Check.faulty(x, "part i 3;", 2, 5);
        Check.faulty(x, "part aa 3;", 2, 5);
        Check.faulty(x, "part ;", 2, 5);
        Check.faulty(x, "part", 2, 4);
        Check.faulty(x, "part a a;", 2, 7);
        Check.faulty(x, "wide narrow;", 2, 5);
        Check.faulty(x, "from wide;", 2, 5);
        Check.faulty(x, "from 3;", 2, 6);
        Check.faulty(x, "from 3 4 wide;", 2, 7);
        Check.faulty(x, "from 3 from 4 wide;", 2, 7);
        Check.faulty(x, "from 3", 2, 6);
        Check.faulty(x, "from", 2, 4);
    }

    private static void wrongNumbers() {
        SavedThird x = new SavedThird();
        Check.faulty(x, "share 6 3;", 3, 6);
        Check.faulty(x, "share 0 0;", 3, 8);
        Check.faulty(x, "share 0 10;", 3, 8);
        Check.faulty(x, "fixed 6 3;", 3, 6);
        Check.faulty(x, "stop 6 3;", 3, 5);
        Check.faulty(x, "stop 0 0;", 3, 7);
        Check.faulty(x, "stop 0 25;", 3, 7);
        Check.faulty(x, "again 9999 3;", 3, 6);
        Check.faulty(x, "again 0 0;", 3, 8);
        Check.faulty(x, "again 0 100;", 3, 8);
        Check.faulty(x, "part a 61;", 3, 7);
        Check.faulty(x, "from 60 wide;", 3, 5);
    }

    private static void toldTwice() {
        SavedThird x = new SavedThird();
        Check.faulty(x, "share 0 3;share 0 3;", 5, 16);
        Check.faulty(x, "fixed 0 3;share 0 3;", 5, 16);
        Check.faulty(x, "fixed 0 3;from 0 share 0 3;", 5, 23);
        Check.told(x, "fixed 0 3;from 1 share 0 3;", 2);
        Check.told(x, "fixed 0 3;share 1 3;", 2);
        Check.faulty(x, "stop 2 3;stop 2 4;", 5, 14);
        Check.told(x, "stop 2 3;again 2 4;share 2 5;", 3);
        Check.faulty(x, "again 2 3;again 2 4;", 5, 16);
        Check.faulty(x, "from 7 part b 3;from 7 part b 3;", 5, 28);
        Check.told(x, "part a 3;part b 3;", 2);
        Check.faulty(x, "wide;wide;", 5, 5);
        Check.faulty(x, "from 9 narrow;from 9 wide;", 5, 21);
        Check.told(x, "wide;from 9 wide;", 2);
        Check.told(x, "share 0 1;stop 0 1;again 0 1;part a 1;wide;", 5);
    }

    private static String sixteenLines() {
        StringBuilder sixteen = new StringBuilder("wide;share 0 1;");
        for (int i = 0; i < 14; i++) {
            sixteen.append(i < 8 ? "part " + "abcdefgh".charAt(i) : "stop " + (i - 8)).append(" 9;");
        }
        return sixteen.toString();
    }

    private static void tooManyLines() {
        SavedThird x = new SavedThird();
        String lines = sixteenLines();
        int length = lines.length();
        Check.told(x, lines, 16);
        Check.told(x, lines + "  ", 16);
        Check.faulty(x, lines + " from 1 wide;", 4, length + 1);
        Check.faulty(x, lines + "from 3 wide;", 4, length);
        Check.faulty(x, lines + "from", 4, length);
        Check.faulty(x, lines + "from 99 !", 4, length);
        for (String rule : new String[] {"share", "fixed", "stop", "again", "part", "wide", "narrow"}) {
            SavedThird each = new SavedThird();
            Check.faulty(each, lines + rule, 4, length);
            Check.faulty(each, lines + "  " + rule + ";", 4, length + 2);
        }
        Check.due("the sixteen stay", x.count(6), 16);
    }

    private static void wrongTokensBehindTheLastLine() {
        SavedThird x = new SavedThird();
        String lines = sixteenLines();
        int length = lines.length();
        Check.told(x, lines, 16);
        for (String wrong : new String[] {"fr", "fro", "froms", "wid", "wides", "third", "a", ";", "7", "0000"}) {
            SavedThird each = new SavedThird();
            Check.faulty(each, lines + wrong, 2, length);
            Check.faulty(each, lines + "  " + wrong + " wide;", 2, length + 2);
        }
        Check.faulty(x, lines + " !", 1, length + 1);
        Check.faulty(x, lines + "12345", 1, length);
        Check.due("the sixteen stay", x.count(6), 16);
    }

    private static void whichFaultFirst() {
        SavedThird x = new SavedThird();
        Check.faulty(x, "share 6 !", 3, 6);
        Check.faulty(x, "share 0 3;share 0 !", 5, 16);
        Check.faulty(x, "share 0 3;share 6 !", 3, 16);
        Check.faulty(x, "wide;narrow !", 5, 5);
        Check.faulty(x, "part a 3;part a", 5, 14);
        Check.faulty(x, "part a 3;part a 99;", 5, 14);
        Check.faulty(x, "from 60 !", 3, 5);
        Check.faulty(x, "from 3 !", 1, 7);
        Check.faulty(x, "from !", 1, 5);
        Check.faulty(x, "share !", 1, 6);
        Check.faulty(x, "share 0 3!", 1, 9);
        Check.faulty(x, "share 12345 3;", 1, 6);
        Check.faulty(x, "12345", 1, 0);
        Check.faulty(x, "third !", 2, 0);
    }

    private static void holds() {
        SavedThird x = new SavedThird();
        for (int m = 0; m < 6; m++) {
            int[] want = {-4, -4, 3, 99, 0};
            for (int what = 0; what < 5; what++) {
                Check.due("nothing told", x.rule(m, 30, what), want[what]);
            }
        }
        Check.due("never theirs", x.rule(0, 30, 10), 0);
        Check.told(x, "from 10 share 2 4;from 5 fixed 2 6;from 20 fixed 2 0;from 4 stop 2 5;from 3 again 2 7;", 5);
        int[][] want = {
            {2, -4, -4, 3, 99}, {3, -4, -4, 3, 7}, {4, -4, -4, 5, 7}, {5, -4, 6, 5, 7}, {9, -4, 6, 5, 7},
            {10, 4, -4, 5, 7}, {19, 4, -4, 5, 7}, {20, -4, 0, 5, 7}, {60, -4, 0, 5, 7},
        };
        for (int[] w : want) {
            for (int what = 0; what < 4; what++) {
                Check.due("rule(2, " + w[0] + ", " + what + ")", x.rule(2, w[0], what), w[what + 1]);
            }
            Check.due("another mine", x.rule(1, w[0], 2), 3);
        }
        Check.told(x, "from 8 wide;from 12 narrow;from 59 wide;part g 50;from 30 part g 9;", 5);
        Check.due("narrow at first", x.rule(0, 7, 4), 0);
        Check.due("wide from 8", x.rule(0, 8, 4), 1);
        Check.due("narrow from 12", x.rule(0, 12, 4), 0);
        Check.due("wide from 59", x.rule(5, 60, 4), 1);
        Check.due("until 50", x.rule(0, 29, 16), 50);
        Check.due("until 9, though that is past", x.rule(0, 30, 16), 9);
        Check.due("another part", x.rule(0, 30, 15), 0);
    }

    private static void askedWrongly() {
        SavedThird x = new SavedThird();
        Check.due("a mine that is not there yet", x.rule(5, 60, 2), 3);
        Check.due("mine 6", x.rule(6, 0, 0), -1);
        Check.due("mine -1", x.rule(-1, 0, 0), -1);
        Check.due("month 61", x.rule(0, 61, 0), -1);
        Check.due("month -1", x.rule(0, -1, 0), -1);
        for (int what : new int[] {-1, 5, 9, 18, 100}) {
            Check.due("what " + what, x.rule(0, 0, what), -1);
        }
    }
}
