/**
 * All that an object can tell, in parts: a part may change the object, so each wants one of its own, and each
 * stays so far below 512 calls that the object can have been built by some 200 before.
 */
final class Look {
    static final int PARTS = 7;
    private static final int[] MONTHS_ASKED = {0, 1, 4, 5, 6, 30, 59, 60};

    private final SavedThird x;
    private final StringBuilder told = new StringBuilder();

    private Look(SavedThird x) {
        this.x = x;
    }

    static String at(SavedThird x, int part) {
        Look look = new Look(x);
        switch (part) {
            case 0: look.engines(); break;
            case 1: look.mines(); break;
            case 2: look.readings(); break;
            case 3: look.bargains(); break;
            case 4: look.choices(); break;
            case 5: look.sheets(); break;
            default: look.whatComes(); break;
        }
        return look.told.toString();
    }

    private void add(String call, long answer) {
        told.append(call).append(' ').append(answer).append('\n');
    }

    private void engines() {
        for (int what = 0; what <= 9; what++) {
            add("count " + what, x.count(what));
        }
        add("fault", x.fault());
        add("torn", x.torn());
        for (int e = 0; e < x.count(2); e++) {
            for (int what = 0; what <= 12; what++) {
                add("of " + e + " " + what, x.of(e, what));
            }
        }
    }

    private void mines() {
        int now = x.count(0);
        for (int m = 0; m < x.count(1); m++) {
            for (int what = 0; what <= 5; what++) {
                add("at " + m + " " + what, x.at(m, what));
                add("owed " + m + " " + what, x.owed(m, what));
                add("first month " + m + " " + what, x.was(m, 0, what));
                add("last month " + m + " " + what, x.was(m, now - 1, what));
            }
            add("known " + m, x.known(m, 60));
        }
    }

    /** All facts of the first and the last one; of those between what is owed. */
    private void readings() {
        int count = x.count(5);
        for (int k = 0; k < count; k++) {
            boolean whole = k < 4 || k >= count - 2;
            for (int what = whole ? 0 : 7; what <= (whole ? 9 : 7); what++) {
                add("reading " + k + " " + what, x.reading(k, what));
            }
        }
    }

    private void bargains() {
        for (int month : MONTHS_ASKED) {
            for (int m = 0; m < 6; m++) {
                for (int what = 0; what < 4; what++) {
                    add("rule " + m + " " + month + " " + what, x.rule(m, month, what));
                }
            }
            add("wide " + month, x.rule(0, month, 4));
        }
        for (int p = 0; p < 8; p++) {
            add("part " + p, x.rule(0, 5, 10 + p));
        }
        add("bytes", x.end(x.count(8)));
        add("text", x.text());
        add("its fault", x.fault());
    }

    private void choices() {
        for (int m = 0; m < x.count(1); m++) {
            for (int way = 0; way < 3; way++) {
                add("brings " + m + " " + way, x.brings(m, way, 12, 100, 9));
            }
            add("fair " + m, x.fair(m, 12, 100, 99999, 1));
            add("round " + m, x.round(m, 0));
            add("days " + m, x.round(m, 1));
            for (int partner = 0; partner < 8; partner++) {
                add("shares " + m + " " + partner, x.shares(m, partner, 0));
            }
            for (int month = 0; month < 12; month++) {
                add("water " + m + " " + month, x.water(m, month, 0));
            }
        }
    }

    /** Cells are seen by booking them to a mine's water; a sheet's lane is the one that is not torn by CAST. */
    private void sheets() {
        if (x.count(1) == 0) {
            x.mine(0, 0, 1, 1);
        }
        for (int k = 0; k < 4; k++) {
            for (int lane = 0; lane < 3; lane++) {
                add("lane " + k + " " + lane, x.book(0, k, lane, -1));
                int torn = x.torn();
                add("torn " + k + " " + lane, torn);
                if (torn == 2) {
                    cells(k, lane);
                }
            }
        }
    }

    private void cells(int k, int lane) {
        for (int f = 0; f < 48; f += 12) {
            add("book " + k + " " + lane + " " + f, x.book(0, k, lane, f));
            for (int month = 0; month < 12; month++) {
                add("cell " + k + " " + (f + month), x.water(0, month, 0));
            }
        }
    }

    /** What was not asked for above shows in the months that come: boxes, ages, trials, stopped engines. */
    private void whatComes() {
        for (int i = 0; i < 3; i++) {
            add("month", x.month());
            for (int m = 0; m < x.count(1); m++) {
                int k = x.read(m);
                add("read " + m, k);
                for (int what = 0; what <= 9; what++) {
                    add("reads " + m + " " + what, x.reading(k, what));
                }
                add("stop " + m, x.stop(m));
            }
        }
        for (int e = 0; e < x.count(2); e++) {
            add("go " + e, x.go(e));
        }
        add("mine", x.mine(0, 0, 1, 1));
        add("engine", x.engine(0, 1, 1, 1, 1, 1));
        add("feed", x.feed(0x3b3b3b3b3b3b3b3bL));
    }
}
