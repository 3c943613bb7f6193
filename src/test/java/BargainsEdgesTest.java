/** Promises 13 to 17 at their edges: the tape's ends, each byte, each bound of a line, the 16th line, what HOLDS. */
public final class BargainsEdgesTest {
    private static final int NONE = -4, FULL = -3, BAD = -1;
    private static final String[] RULES = {"share 0 3", "fixed 0 3", "stop 0 3", "again 0 3", "part a 3", "wide", "narrow"};

    public static void main(String[] args) {
        bytesCome();
        theTapeIsCut();
        theTapeIsFull();
        theTapeIsEmptyThen();
        eachByteAlone();
        eachByteBetween();
        figures();
        longestNames();
        theLastByte();
        boundsOfNumbers();
        boundsOfMinesInLines();
        letters();
        faultIsTheLatest();
        toldLinesStay();
        theEndIsTheLength();
        sixteenLines();
        seventeenLines();
        toldFromTheSameMonth();
        toldInTheLastLine();
        theFirstFaultMet();
        defaults();
        fromUpToIt();
        latestFromInAnyOrder();
        holdsInTheLastLine();
        eachMineAndPartAlone();
        Check.close("BargainsEdgesTest");
    }

    /** Behind blanks, so that a text begins at a place of our choosing. */
    private static String at(int place, String text) {
        return " ".repeat(place) + text;
    }

    private static void bytesCome() {
        Check.says("Eight bytes come behind THE TAPE, the highest first: how many it has");
        SavedThird x = new SavedThird();
        // "w", "i", "d", "e", ";" and blanks: the highest byte stands ahead.
        Check.due("feed", x.feed(0x776964653b202020L), 8);
        Check.due("text", x.text(), 1);
        for (int place = 0; place < 8; place++) {
            x.feed(0x2020202020202020L ^ 0x0bL << (56 - 8 * place));
            Check.due("+ in byte " + place, x.text(), -10 - place);
            Check.due("is no token", x.fault(), 1);
        }
        Check.due("the least long", x.feed(Long.MIN_VALUE), 8);
        Check.due("the greatest long", x.feed(Long.MAX_VALUE), 16);
        Check.due("-1", x.feed(-1), 24);
        Check.due("0", x.feed(0), 32);
        Check.due("bytes", x.count(8), 32);
    }

    private static void theTapeIsCut() {
        Check.says("THE TAPE keeps its first n bytes: how many it had");
        SavedThird x = new SavedThird();
        Check.due("of none", x.end(0), 0);
        Check.due("1 of none", x.end(1), BAD);
        x.feed(0x776964653b777777L);
        Check.due("9 of 8", x.end(9), BAD);
        Check.due("8 of 8", x.end(8), 8);
        Check.due("5 of 8", x.end(5), 8);
        Check.due("6 of 5", x.end(6), BAD);
        Check.due("5 of 5", x.end(5), 5);
        x.feed(0x202020202020203bL);
        Check.due("behind the cut", x.count(8), 13);
        Check.due("text", x.text(), -10 - 12);
        Check.due("a ; that can not stand there", x.fault(), 2);
        x.feed(0x776964653b777777L);
        Check.due("all cut", x.end(0), 8);
        Check.due("nothing is told", x.text(), 0);
    }

    private static void theTapeIsFull() {
        Check.says("THE TAPE has 200 bytes, places from 0; FULL: more than 200");
        for (int over = 0; over < 8; over++) {
            SavedThird x = new SavedThird();
            for (int i = 0; i < 25; i++) {
                x.feed(0x2020202020202020L);
            }
            Check.due("keep", x.end(192 + over), 200);
            Check.due("8 behind " + (192 + over), x.feed(0x2020202020202020L), over == 0 ? 200 : FULL);
            Check.due("bytes", x.count(8), over == 0 ? 200 : 192 + over);
            Check.due("8 behind that", x.feed(0), FULL);
        }
    }

    private static void theTapeIsEmptyThen() {
        Check.says("THE TAPE (empty then) tells the bargains");
        SavedThird x = new SavedThird();
        Check.faulty(x, at(150, "!"), 1, 150);
        Check.due("end 0 of none", x.end(0), 0);
        Check.due("end 1 of none", x.end(1), BAD);
        Check.told(x, "wide;", 1);
        Check.told(x, at(195, "wide;"), 1);
        Check.due("feed", x.feed(0x2020202020202020L), 8);
        Check.due("what was behind it is gone", x.text(), 0);
    }

    private static void eachByteAlone() {
        Check.says("TOKENS: NAMES (a .. z), NUMBERS (1 to 4 figures), one ; .. blanks (32) between");
        for (int b = 0; b < 256; b++) {
            SavedThird x = new SavedThird();
            String text = String.valueOf((char) b);
            boolean isToken = b >= 'a' && b <= 'z' || b >= '0' && b <= '9' || b == ';';
            if (b == ' ') {
                Check.told(x, text, 0);
            } else {
                Check.faulty(x, text, isToken ? 2 : 1, 0);
            }
        }
    }

    private static void eachByteBetween() {
        Check.says("TOKENS, each as long as may be, blanks (32) between");
        for (int b = 0; b < 256; b++) {
            SavedThird x = new SavedThird();
            String name = "wide" + (char) b + ";";
            String number = "stop 0 1" + (char) b + ";";
            if (b == ' ') {
                Check.told(x, name, 1);
                Check.told(x, number, 1);
            } else if (b >= 'a' && b <= 'z') {
                Check.faulty(x, name, 2, 0);
                Check.faulty(x, number, 2, 8);
            } else if (b >= '0' && b <= '4') {
                Check.faulty(x, name, 2, 4);
                Check.told(x, number, 1);
                Check.due("two figures", x.rule(0, 0, 2), 10 + b - '0');
            } else if (b >= '5' && b <= '9') {
                Check.faulty(x, name, 2, 4);
                Check.told(x, number, 1);
            } else if (b == ';') {
                Check.faulty(x, name, 2, 5);
                Check.faulty(x, number, 2, 9);
            } else {
                Check.faulty(x, name, 1, 4);
                Check.faulty(x, number, 1, 8);
            }
        }
    }

    private static void figures() {
        Check.says("NUMBERS (1 to 4 figures); 1 .. a NUMBER that is too long (its first byte)");
        SavedThird x = new SavedThird();
        String[] right = {"7", "07", "007", "0007"};
        for (String number : right) {
            Check.told(x, "fixed 0 " + number + ";", 1);
            Check.due("fixed", x.rule(0, 0, 1), 7);
        }
        Check.told(x, "fixed 0 9999;", 1);
        Check.due("four figures", x.rule(0, 0, 1), 9999);
        Check.told(x, "from 0003share 0002 0009;", 1);
        Check.due("all of four figures", x.rule(2, 3, 0), 9);
        for (String number : new String[] {"00007", "10000", "99999", "000000000", "4294967297"}) {
            Check.faulty(x, "fixed 0 " + number + ";", 1, 8);
            Check.faulty(x, "fixed " + number + " 1;", 1, 6);
            Check.faulty(x, "from " + number + " wide;", 1, 5);
            Check.faulty(x, at(3, number), 1, 3);
        }
    }

    private static void longestNames() {
        Check.says("TOKENS, each as long as may be; 2 .. a NAME that begins no rule");
        for (String rule : RULES) {
            SavedThird x = new SavedThird();
            String name = rule.indexOf(' ') < 0 ? rule : rule.substring(0, rule.indexOf(' '));
            String rest = rule.substring(name.length());
            Check.told(x, rule + ";", 1);
            Check.faulty(x, name + "x" + rest + ";", 2, 0);
            Check.faulty(x, name.substring(0, name.length() - 1) + rest + ";", 2, 0);
            Check.faulty(x, name.substring(1) + rest + ";", 2, 0);
            Check.faulty(x, name + name + rest + ";", 2, 0);
            Check.faulty(x, "from" + name + rest + ";", 2, 0);
            Check.faulty(x, "from 0 " + name + "x" + rest + ";", 2, 7);
        }
        SavedThird x = new SavedThird();
        Check.faulty(x, "a".repeat(200), 2, 0);
    }

    private static void theLastByte() {
        Check.says("THE TAPE has 200 bytes");
        SavedThird x = new SavedThird();
        Check.told(x, at(195, "wide;"), 1);
        Check.told(x, at(186, "stop 5 24    ;"), 1);
        Check.faulty(x, at(196, "wide"), 2, 200);
        Check.faulty(x, at(199, "!"), 1, 199);
        Check.faulty(x, at(199, "w"), 2, 199);
        Check.faulty(x, at(195, "wides"), 2, 195);
        Check.faulty(x, at(194, "wide;;"), 2, 199);
        Check.faulty(x, at(191, "fixed 0 6"), 2, 200);
        Check.told(x, at(200, ""), 0);
    }

    /** least and greatest are told; one less (if it is a NUMBER) and one more are FAULT 3 at the NUMBER. */
    private static void bounded(String ahead, int least, int greatest, String behind, int what) {
        SavedThird x = new SavedThird();
        for (int number : new int[] {least, greatest}) {
            Check.told(x, ahead + number + behind, 1);
            Check.due(ahead + number, x.rule(0, 59, what), number);
        }
        for (int number : new int[] {least - 1, greatest + 1}) {
            if (number >= 0 && number <= 9999) {
                Check.faulty(x, ahead + number + behind, 3, ahead.length());
            }
        }
        Check.faulty(x, ahead + "9999" + (greatest == 9999 ? "9" : "") + behind, greatest == 9999 ? 1 : 3, ahead.length());
    }

    private static void boundsOfNumbers() {
        Check.says("share: the how manieth part (1 to 9)");
        bounded("share 0 ", 1, 9, ";", 0);
        Check.says("fixed: coins a month (0 to 9999)");
        bounded("fixed 0 ", 0, 9999, ";", 1);
        Check.says("stop: months (1 to 24)");
        bounded("stop 0 ", 1, 24, ";", 2);
        Check.says("again: how much DEPTH (1 to 99)");
        bounded("again 0 ", 1, 99, ";", 3);
        Check.says("until month N (0 to 60)");
        bounded("part a ", 0, 60, ";", 10);
        Check.says("from: a month (0, if it is not told)");
        SavedThird x = new SavedThird();
        for (String rule : RULES) {
            Check.told(x, "from 0 " + rule + ";", 1);
            Check.told(x, "from 59 " + rule + ";", 1);
            Check.faulty(x, "from 60 " + rule + ";", 3, 5);
            Check.faulty(x, "from 9999 " + rule + ";", 3, 5);
        }
        Check.told(x, "from 59 wide;", 1);
        Check.due("not yet", x.rule(0, 58, 4), 0);
        Check.due("in month 59", x.rule(0, 59, 4), 1);
        Check.due("in month 60", x.rule(0, 60, 4), 1);
        Check.told(x, "wide;", 1);
        Check.due("from month 0", x.rule(0, 0, 4), 1);
    }

    private static void boundsOfMinesInLines() {
        Check.says("share, fixed, stop, again: of a MINE (0 to 5)");
        String[] rules = {"share ", "fixed ", "stop ", "again "};
        for (int what = 0; what < 4; what++) {
            SavedThird x = new SavedThird();
            for (int m = 0; m < 6; m += 5) {
                Check.told(x, rules[what] + m + " 8;", 1);
                Check.due(rules[what] + m, x.rule(m, 0, what), 8);
                Check.holds("of that mine alone", x.rule(5 - m, 0, what) != 8);
            }
            Check.faulty(x, rules[what] + "6 8;", 3, rules[what].length());
            Check.faulty(x, rules[what] + "9999 8;", 3, rules[what].length());
            Check.faulty(x, rules[what] + "a 8;", 2, rules[what].length());
        }
    }

    private static void letters() {
        Check.says("part: a LETTER (a NAME of one letter, a to h: PART 0 to 7)");
        SavedThird x = new SavedThird();
        for (int p = 0; p < 26; p++) {
            char letter = (char) ('a' + p);
            if (p < 8) {
                Check.told(x, "part " + letter + " 9;", 1);
                for (int other = 0; other < 8; other++) {
                    Check.due("part " + other, x.rule(0, 0, 10 + other), other == p ? 9 : 0);
                }
            } else {
                Check.faulty(x, "part " + letter + " 9;", 2, 5);
            }
        }
        x = new SavedThird();
        Check.faulty(x, "part aa 9;", 2, 5);
        Check.faulty(x, "part ha 9;", 2, 5);
        Check.faulty(x, "part 0 9;", 2, 5);
        Check.faulty(x, "part ; 9;", 2, 5);
        Check.faulty(x, "part A 9;", 1, 5);
        Check.faulty(x, "part ` 9;", 1, 5);
        Check.told(x, "part a9;", 1);
    }

    private static void faultIsTheLatest() {
        Check.says("The FAULT of the latest text(); 0");
        SavedThird x = new SavedThird();
        Check.due("of none", x.fault(), 0);
        String[] texts = {"!", "a", "stop 6 1;", "wide;wide;", "wide;"};
        int[] faults = {1, 2, 3, 5, 0};
        for (int i = 0; i < texts.length; i++) {
            Check.lay(x, texts[i]);
            Check.due("ahead of the text", x.fault(), i == 0 ? 0 : faults[i - 1]);
            x.text();
            Check.due("of " + texts[i], x.fault(), faults[i]);
        }
        Check.faulty(x, "!", 1, 0);
        x.feed(0);
        x.end(0);
        Check.due("feed and end leave it", x.fault(), 1);
        Check.due("an empty text", x.text(), 0);
        Check.due("has no fault", x.fault(), 0);
    }

    private static void toldLinesStay() {
        Check.says("-10 less the place of its FAULT: those that were told stay");
        SavedThird x = new SavedThird();
        Check.told(x, "share 0 3;stop 0 5;", 2);
        String[] wrong = {"fixed 0 9;stop 0 6;!", "fixed 0 9;stop 0 6;a", "fixed 0 9;stop 6 6;", "fixed 0 9;fixed 0 9;", ""};
        for (int i = 0; i < 4; i++) {
            Check.lay(x, wrong[i]);
            Check.holds("a fault", x.text() <= -10);
            Check.due("share stays", x.rule(0, 0, 0), 3);
            Check.due("fixed is not told", x.rule(0, 0, 1), NONE);
            Check.due("stop stays", x.rule(0, 0, 2), 5);
            Check.due("lines", x.count(6), 2);
        }
        Check.told(x, "again 1 7;", 1);
        Check.due("a text without fault takes all lines' place", x.rule(0, 0, 0), NONE);
        Check.due("of stop too", x.rule(0, 0, 2), 3);
        Check.due("again", x.rule(1, 0, 3), 7);
        Check.faulty(x, "share 0 3;stop 0 5;;", 2, 19);
        Check.due("again stays", x.rule(1, 0, 3), 7);
        Check.due("no share", x.rule(0, 0, 0), NONE);
        Check.told(x, "", 0);
        Check.due("an empty text tells no line", x.rule(1, 0, 3), 99);
    }

    private static void theEndIsTheLength() {
        Check.says("2 .. or the end: the length");
        String[] cut = {"from", "from 3", "share", "share 0", "share 0 3", "fixed 1", "stop", "again 5 1", "part", "part h",
            "part h 9", "wide", "narrow", "wide;stop", "from 1 wide;from 2"};
        for (String text : cut) {
            SavedThird x = new SavedThird();
            Check.faulty(x, text, 2, text.length());
            Check.faulty(x, text + " ", 2, text.length() + 1);
            Check.faulty(x, text + "    ", 2, text.length() + 4);
        }
    }

    /** 16 lines, the last one "narrow;" from month 15. */
    private static String sixteen() {
        StringBuilder lines = new StringBuilder();
        for (int m = 0; m < 6; m++) {
            lines.append("stop ").append(m).append(' ').append(10 + m).append(';');
        }
        for (int p = 0; p < 8; p++) {
            lines.append("part ").append((char) ('a' + p)).append(" 60;");
        }
        return lines.append("wide;from 15narrow;").toString();
    }

    private static void sixteenLines() {
        Check.says("4 the 17th line (its first TOKEN)");
        SavedThird x = new SavedThird();
        String lines = sixteen();
        Check.told(x, lines, 16);
        Check.due("the first line", x.rule(0, 0, 2), 10);
        Check.due("the last but one", x.rule(0, 14, 4), 1);
        Check.due("the last line", x.rule(0, 15, 4), 0);
        Check.told(x, lines + " ".repeat(200 - lines.length()), 16);
        Check.told(x, lines.substring(0, lines.indexOf("wide")), 14);
        Check.told(x, lines.substring(0, lines.indexOf("from")), 15);
    }

    private static void seventeenLines() {
        Check.says("4 the 17th line (its first TOKEN)");
        String lines = sixteen();
        int length = lines.length();
        for (String rule : RULES) {
            SavedThird x = new SavedThird();
            Check.faulty(x, lines + "from 16 " + rule + ";", 4, length);
            Check.faulty(x, lines + " " + rule + ";", 4, length + 1);
            Check.due("none is told", x.count(6), 0);
            Check.told(x, "stop 0 9;", 1);
            Check.faulty(x, lines + rule + ";", 4, length);
            Check.due("the one that was told stays", x.rule(0, 0, 2), 9);
            Check.due("no other", x.rule(1, 0, 2), 3);
        }
        SavedThird x = new SavedThird();
        Check.faulty(x, lines + "wide;wide;", 4, length);
        Check.faulty(x, lines + "from 99 wide;", 4, length);
        Check.faulty(x, lines + ";", 2, length);
        Check.faulty(x, lines + "9;", 2, length);
        Check.faulty(x, lines + "fro", 2, length);
        Check.faulty(x, lines + "?", 1, length);
        Check.faulty(x, lines + "12345", 1, length);
        Check.faulty(x, lines.substring(0, length - 1) + " ", 2, length);
    }

    private static void toldFromTheSameMonth() {
        Check.says("5 what is told already from the same month");
        String[] pairs = {"share 5 1", "fixed 5 1", "stop 5 1", "again 5 1", "part h 1", "wide", "narrow"};
        int[] group = {0, 0, 1, 2, 3, 4, 4};
        int[] place = {6, 6, 5, 6, 5, 0, 0};
        for (int a = 0; a < pairs.length; a++) {
            for (int b = 0; b < pairs.length; b++) {
                SavedThird x = new SavedThird();
                String ahead = pairs[a] + ";";
                if (group[a] == group[b]) {
                    Check.faulty(x, ahead + pairs[b] + ";", 5, ahead.length() + place[b]);
                    Check.faulty(x, ahead + "from 0 " + pairs[b] + ";", 5, ahead.length() + 7 + place[b]);
                    Check.faulty(x, "from 59 " + ahead + "from 59 " + pairs[b] + ";", 5, ahead.length() + 16 + place[b]);
                } else {
                    Check.told(x, ahead + pairs[b] + ";", 2);
                }
                Check.told(x, ahead + "from 1 " + pairs[b] + ";", 2);
                Check.told(x, "from 59 " + ahead + "from 58 " + pairs[b] + ";", 2);
            }
        }
        SavedThird x = new SavedThird();
        Check.told(x, "share 0 1;share 1 1;fixed 2 1;stop 0 1;stop 1 1;again 0 1;again 1 1;part a 1;part b 1;", 9);
        Check.faulty(x, "part a 1;part b 1;part c 1;part b 1;", 5, 32);
        Check.told(x, "part a 1;", 1);
        Check.told(x, "part a 1;", 1);
    }

    private static void toldInTheLastLine() {
        Check.says("5 what is told already from the same month");
        String ahead = "wide;stop 0 1;stop 1 1;stop 2 1;stop 3 1;stop 4 1;stop 5 1;part a 1;part b 1;part c 1;part d 1;"
                + "part e 1;part f 1;part g 1;again 0 1;";
        SavedThird x = new SavedThird();
        Check.told(x, ahead + "part h 1;", 16);
        Check.faulty(x, ahead + "wide;", 5, ahead.length());
        Check.faulty(x, ahead + "again 0 1;", 5, ahead.length() + 6);
    }

    private static void theFirstFaultMet() {
        Check.says("FAULTS, the first met as it is read (a TOKEN is read when the one before has been taken)");
        SavedThird x = new SavedThird();
        Check.faulty(x, "stop 6!", 3, 5);
        Check.faulty(x, "stop 5!", 1, 6);
        Check.faulty(x, "stop 0 25!", 3, 7);
        Check.faulty(x, "stop 0 24!", 1, 9);
        Check.faulty(x, "stop 0 1;stop 0!", 5, 14);
        Check.faulty(x, "stop 0 1;stop 0 99;", 5, 14);
        Check.faulty(x, "stop 0 1;stop 6 99;", 3, 14);
        Check.faulty(x, "part a 1;part i 1;", 2, 14);
        Check.faulty(x, "part a 1;part a!", 5, 14);
        Check.faulty(x, "wide;narrow!", 5, 5);
        Check.faulty(x, "wide!", 1, 4);
        Check.faulty(x, "from 60!", 3, 5);
        Check.faulty(x, "from 59!", 1, 7);
        Check.faulty(x, "from 60 wide;wide", 3, 5);
        Check.faulty(x, "wyde 12345;", 2, 0);
        Check.faulty(x, "wide wide!", 2, 5);
        Check.faulty(x, "part i!", 2, 5);
        Check.faulty(x, "a!", 2, 0);
        Check.faulty(x, ";!", 2, 0);
    }

    private static void defaults() {
        Check.says("If none: nothing is OWED; stop 3; again 99; a PART is theirs never; narrow");
        SavedThird x = new SavedThird();
        int[] want = {NONE, NONE, 3, 99, 0};
        for (int m = 0; m < 6; m++) {
            for (int what = 0; what < 5; what++) {
                for (int month = 0; month <= 60; month += 30) {
                    Check.due("rule " + m + " " + month + " " + what, x.rule(m, month, what), want[what]);
                }
            }
        }
        for (int p = 0; p < 8; p++) {
            Check.due("part " + p + " in 0", x.rule(0, 0, 10 + p), 0);
            Check.due("part " + p + " in 60", x.rule(5, 60, 10 + p), 0);
        }
    }

    private static void fromUpToIt() {
        Check.says("HOLDS in a month: of lines of one rule the one with the latest from up to it");
        SavedThird x = new SavedThird();
        Check.told(x, "from 7share 0 4;from 8fixed 0 0;from 9share 0 5;from 7stop 0 4;from 7again 0 4;"
                + "from 7part a 9;from 7wide;from 8narrow;", 8);
        int[][] want = {{6, NONE, NONE, 3, 99, 0, 0}, {7, 4, NONE, 4, 4, 1, 9}, {8, NONE, 0, 4, 4, 0, 9}, {9, 5, NONE, 4, 4, 0, 9},
            {60, 5, NONE, 4, 4, 0, 9}};
        for (int[] w : want) {
            for (int what = 0; what < 5; what++) {
                Check.due("rule 0 " + w[0] + " " + what, x.rule(0, w[0], what), w[what + 1]);
            }
            Check.due("part a in " + w[0], x.rule(0, w[0], 10), w[6]);
        }
    }

    private static void latestFromInAnyOrder() {
        Check.says("the one with the latest from up to it");
        String[] orders = {"from 5stop 0 5;from 6stop 0 6;from 7stop 0 7;", "from 7stop 0 7;from 6stop 0 6;from 5stop 0 5;",
            "from 6stop 0 6;from 7stop 0 7;from 5stop 0 5;", "from 7stop 0 7;from 5stop 0 5;from 6stop 0 6;"};
        for (String lines : orders) {
            SavedThird x = new SavedThird();
            Check.told(x, lines, 3);
            int[] want = {3, 5, 6, 7, 7};
            for (int i = 0; i < 5; i++) {
                Check.due("in month " + (4 + i), x.rule(0, 4 + i, 2), want[i]);
            }
        }
    }

    private static void holdsInTheLastLine() {
        Check.says("HOLDS in a month");
        SavedThird x = new SavedThird();
        Check.told(x, "share 0 1;share 1 1;share 2 1;share 3 1;share 4 1;share 5 1;stop 0 1;stop 1 1;stop 2 1;stop 3 1;"
                + "stop 4 1;part a 1;part b 1;part c 1;part d 1;stop 5 24;", 16);
        Check.due("the 16th line", x.rule(5, 0, 2), 24);
        Check.due("the 15th", x.rule(0, 0, 13), 1);
        Check.told(x, "share 0 1;share 1 1;share 2 1;share 3 1;share 4 1;share 5 1;stop 0 1;stop 1 1;stop 2 1;stop 3 1;"
                + "stop 4 1;part a 1;part b 1;part c 1;part d 1;wide;", 16);
        Check.due("wide in the 16th line", x.rule(0, 0, 4), 1);
        x.mine(0, 0, 1, 1);
        x.engine(0, 2, 1, 1, 1, 8);
        Check.due("caught by it", x.theirs(0, 0, 1), 1);
    }

    private static void eachMineAndPartAlone() {
        Check.says("of lines of one rule (of that MINE, PART)");
        SavedThird x = new SavedThird();
        Check.told(x, "share 0 1;share 1 2;share 2 3;fixed 3 4;fixed 4 5;fixed 5 6;stop 0 7;stop 5 8;again 0 9;again 5 10;", 10);
        int[][] want = {{1, NONE, 7, 9}, {2, NONE, 3, 99}, {3, NONE, 3, 99}, {NONE, 4, 3, 99}, {NONE, 5, 3, 99}, {NONE, 6, 8, 10}};
        for (int m = 0; m < 6; m++) {
            for (int what = 0; what < 4; what++) {
                Check.due("rule " + m + " 0 " + what, x.rule(m, 0, what), want[m][what]);
            }
        }
    }
}
