/** Promises 36 to 40, 42 and 43 at their edges: sheet, lose, lay, get, copy, count, digest. */
final class EdgesOfSheets {
    private static final int BYTES = 0;
    private static final int SHORTS = 1;
    private static final int INTS = 2;

    private EdgesOfSheets() {
    }

    static void run() {
        sheet();
        newRows();
        lose();
        lay();
        lowestBits();
        layRefusals();
        get();
        getRefusals();
        copy();
        copyOfItself();
        copyPlaces();
        copyRefusals();
        count();
        countFindings();
        digest();
        digestWraps();
        lastCall();
    }

    private static void sheet() {
        Sentences.says(36, "A SHEET is a new row of a TYPE with n items: n. BAD: SHEET, TYPE, above 60; SIZE.");
        Edge x = new Edge().due("sheet(0, 0, 0)", 0).due("sheet(3, 2, 60)", 60).due("sheet(1, 1, 1)", 1)
            .due("sheet(2, 0, 59)", 59)
            .all(Edge.BAD, "sheet(-1, 0, 1)", "sheet(4, 0, 1)", "sheet(0, -1, 1)", "sheet(0, 3, 1)", "sheet(0, 0, 61)")
            .all(Edge.BAD, "sheet(0, 0, MOST)", "sheet(LEAST, 0, 1)", "sheet(MOST, 0, 1)", "sheet(0, LEAST, 1)", "sheet(0, MOST, 1)")
            .due("count(8)", 0).all(Edge.SIZE, "sheet(0, 0, -1)", "sheet(3, 2, -2)", "sheet(1, 1, LEAST)")
            .due("count(8)", 5);
        x.due("lose(0)", 0).due("lose(1)", 1).due("lose(2)", 59).due("lose(3)", 60);
        Sentences.says(36, "5 SIZE: below 0");
        new Edge().due("sheet(0, 0, 0)", 0).due("count(8)", 0).due("sheet(0, 0, -1)", Edge.SIZE).due("count(8)", 5)
            .due("lose(0)", 0)
            .due("sheet(1, 0, -1)", Edge.SIZE).due("lose(1)", Edge.NULL);
        Sentences.says(36, "Refusals, the first that fits, in the order told at each act");
        new Edge()
            .all(Edge.BAD, "sheet(-1, 0, -1)", "sheet(4, 0, -1)", "sheet(0, 3, -1)", "sheet(0, -1, LEAST)", "sheet(4, 3, 61)")
            .due("count(8)", 0);
    }

    private static void newRows() {
        Sentences.says(36, "a row of a TYPE: 0 bytes, 1 shorts, 2 ints, of 0 to 60 items (0 at first)");
        for (int type = 0; type < 3; type++) {
            Edge x = new Edge().due("sheet(2, " + type + ", 60)", 60);
            for (int i = 0; i < 60; i++) {
                x.due("get(2, " + type + ", " + i + ")", 0);
            }
            x.got("get(2, " + type + ", 60)", 2).got("get(2, " + (type + 1) % 3 + ", 0)", 3);
        }
        // a new row over an old one: its items are 0, its type and number are new
        new Edge().row(0, INTS, 7, 8, 9).due("sheet(0, 2, 3)", 3).due("get(0, 2, 0)", 0).due("get(0, 2, 2)", 0)
            .due("lay(0, 2, 1, 5)", 1)
            .due("sheet(0, 0, 2)", 2).due("get(0, 0, 1)", 0).got("get(0, 0, 2)", 2).got("get(0, 2, 0)", 3)
            .due("sheet(0, 2, 60)", 60).due("get(0, 2, 1)", 0).due("get(0, 2, 59)", 0);
        // a lost one has its items no more
        new Edge().row(0, BYTES, 7).due("lose(0)", 1).due("sheet(0, 0, 1)", 1).due("get(0, 0, 0)", 0);
    }

    private static void lose() {
        Sentences.says(37, "It is LOST: how many items it had. BAD; NULL.");
        Edge x = new Edge().due("sheet(0, 0, 0)", 0).due("sheet(3, 1, 60)", 60).due("sheet(1, 2, 1)", 1)
            .due("lose(0)", 0)
            .due("lose(0)", Edge.NULL).due("count(8)", 1).due("lose(3)", 60).due("lose(3)", Edge.NULL)
            .due("lose(2)", Edge.NULL)
            .all(Edge.BAD, "lose(-1)", "lose(4)", "lose(LEAST)", "lose(MOST)");
        x.due("lose(1)", 1).due("sheet(1, 0, 5)", 5).due("lose(1)", 5);
        Sentences.says(37, "1 NULL: the SHEET is LOST");
        new Edge().row(0, BYTES, 1, 2).due("lose(0)", 2).due("match(0, 0)", Edge.NULL).due("lay(0, 0, 0, 1)", Edge.NULL)
            .got("get(0, 0, 0)", 1).due("copy(0, 0, 0, 0, 0)", Edge.NULL).due("write(0, 1, 0)", Edge.NULL)
            .match(1).due("verdicts(0, 0)", Edge.NULL).due("lose(0)", Edge.NULL);
    }

    private static void lay() {
        Sentences.says(38, "Item i, treated as of a TYPE, becomes v (the lowest bits that it has): 1. BAD; NULL; CAST; INDEX.");
        for (int s = 0; s < 4; s++) {
            for (int type = 0; type < 3; type++) {
                String row = s + ", " + type + ", ";
                new Edge().due("sheet(" + row + "60)", 60).due("lay(" + row + "0, 5)", 1)
                    .due("lay(" + row + "59, 6)", 1)
                    .due("get(" + row + "0)", 5).due("get(" + row + "59)", 6).due("get(" + row + "1)", 0)
                    .due("get(" + row + "58)", 0)
                    .all(Edge.INDEX, "lay(" + row + "-1, 7)", "lay(" + row + "60, 7)", "lay(" + row + "LEAST, 7)", "lay(" + row + "MOST, 7)")
                    .due("count(8)", 2)
                    .all(Edge.CAST, "lay(" + s + ", " + (type + 1) % 3 + ", 0, 7)", "lay(" + s + ", " + (type + 2) % 3 + ", 0, 7)")
                    .due("count(8)", 3).due("get(" + row + "0)", 5);
            }
        }
        new Edge().due("sheet(0, 0, 0)", 0).all(Edge.INDEX, "lay(0, 0, 0, 1)", "lay(0, 0, -1, 1)")
            .due("sheet(0, 0, 1)", 1)
            .due("lay(0, 0, 0, 1)", 1).due("lay(0, 0, 1, 1)", Edge.INDEX);
    }

    private static void lowestBits() {
        Sentences.says(38, "becomes v (the lowest bits that it has)");
        int[][] bytes = {{127, 127}, {128, -128}, {-128, -128}, {-129, 127}, {255, -1}, {256, 0}, {257, 1}, {-1, -1}, {-256, 0},
            {32768, 0}, {Integer.MAX_VALUE, -1}, {Integer.MIN_VALUE, 0}};
        int[][] shorts = {{32767, 32767}, {32768, -32768}, {-32768, -32768}, {-32769, 32767}, {65535, -1}, {65536, 0}, {65537, 1},
            {-1, -1}, {-65536, 0}, {128, 128}, {-129, -129}, {Integer.MAX_VALUE, -1}, {Integer.MIN_VALUE, 0}};
        int[] ints = {0, 1, -1, 128, 32768, 65536, -65537, Integer.MAX_VALUE, Integer.MAX_VALUE - 1, Integer.MIN_VALUE + 1};
        for (int[] one : bytes) {
            new Edge().row(0, BYTES, one[0]).due("get(0, 0, 0)", one[1]);
        }
        for (int[] one : shorts) {
            new Edge().row(0, SHORTS, one[0]).due("get(0, 1, 0)", one[1]);
        }
        for (int one : ints) {
            new Edge().row(0, INTS, one).due("get(0, 2, 0)", one);
        }
        // the least int is a value here, and no refusal: there is no finding
        new Edge().row(0, INTS, Integer.MIN_VALUE).due("get(0, 2, 0)", Edge.LEAST).due("count(8)", 0);
    }

    private static void layRefusals() {
        Sentences.says(38, "Refusals, the first that fits, in the order told at each act");
        new Edge().row(0, SHORTS, 1, 2).row(2, BYTES, 3).due("lose(2)", 1)
            .all(Edge.BAD, "lay(-1, 1, 0, 9)", "lay(4, 1, 0, 9)", "lay(0, -1, 0, 9)", "lay(0, 3, 0, 9)", "lay(LEAST, 1, 0, 9)")
            .all(Edge.BAD, "lay(MOST, 1, 0, 9)", "lay(0, LEAST, 0, 9)", "lay(0, MOST, 0, 9)", "lay(1, 3, 0, 9)", "lay(2, -1, 0, 9)")
            .all(Edge.BAD, "lay(0, 3, 2, 9)", "lay(0, -1, -1, 9)", "lay(4, 3, 9, 9)").due("count(8)", 0)
            .all(Edge.NULL, "lay(1, 0, 0, 9)", "lay(1, 2, 0, 9)", "lay(2, 0, 0, 9)", "lay(2, 1, 0, 9)", "lay(2, 0, 1, 9)", "lay(1, 0, -1, 9)")
            .due("count(8)", 1)
            .all(Edge.CAST, "lay(0, 0, 0, 9)", "lay(0, 2, 0, 9)", "lay(0, 0, 2, 9)", "lay(0, 2, -1, 9)")
            .due("count(8)", 3).all(Edge.INDEX, "lay(0, 1, 2, 9)", "lay(0, 1, -1, 9)").due("count(8)", 2);
    }

    private static void get() {
        Sentences.says(39, "Item i of it. BAD: the least int; so are NULL, CAST, INDEX (count() 8 tells).");
        new Edge().row(3, BYTES, 5, -2, -3).due("get(3, 0, 0)", 5).due("get(3, 0, 1)", -2).due("get(3, 0, 2)", -3)
            .still("get(3, 0, 0)", 5)
            .got("get(3, 0, 3)", 2).got("get(3, 0, -1)", 2).got("get(3, 0, LEAST)", 2).got("get(3, 0, MOST)", 2)
            .got("get(3, 1, 0)", 3).got("get(3, 2, 0)", 3).got("get(0, 0, 0)", 1).got("get(0, 2, 0)", 1)
            .got("get(-1, 0, 0)", 0).got("get(4, 0, 0)", 0).got("get(3, -1, 0)", 0).got("get(3, 3, 0)", 0)
            .got("get(LEAST, 0, 0)", 0)
            .got("get(MOST, 0, 0)", 0).got("get(3, LEAST, 0)", 0).got("get(3, MOST, 0)", 0).due("count(8)", 1);
        new Edge().due("sheet(0, 2, 0)", 0).got("get(0, 2, 0)", 2).due("sheet(0, 2, 60)", 60).due("get(0, 2, 59)", 0)
            .got("get(0, 2, 60)", 2);
    }

    private static void getRefusals() {
        Sentences.says(39, "Refusals, the first that fits, in the order told at each act");
        new Edge().row(0, SHORTS, 1, 2).row(2, BYTES, 3).due("lose(2)", 1).got("get(1, 3, 0)", 0)
            .got("get(2, -1, 0)", 0)
            .got("get(0, 3, 2)", 0).got("get(4, 3, 9)", 0).due("count(8)", 0).got("get(2, 1, 0)", 1)
            .got("get(2, 0, 1)", 1)
            .got("get(1, 0, -1)", 1).due("count(8)", 1).got("get(0, 0, 2)", 3).got("get(0, 2, -1)", 3)
            .due("count(8)", 3)
            .got("get(0, 1, 2)", 2).due("count(8)", 2).got("get(0, 3, 0)", 0).due("count(8)", 2);
    }

    private static Edge items(Edge x, int s, int type, int... due) {
        for (int i = 0; i < due.length; i++) {
            x.due("get(" + s + ", " + type + ", " + i + ")", due[i]);
        }
        return x;
    }

    private static void copy() {
        Sentences.says(40, "n items of SHEET s, from i on, come to SHEET t (perhaps s, as they were), from j on: 1.");
        for (int type = 0; type < 3; type++) {
            Edge x = new Edge().row(0, type, 1, 2, 3, 4, 5).row(3, type, -1, -2, -3).due("copy(0, 2, 3, 1, 2)", 1);
            items(x, 3, type, -1, 3, 4);
            items(x, 0, type, 1, 2, 3, 4, 5).due("copy(3, 0, 0, 0, 3)", 1);
            items(x, 0, type, -1, 3, 4, 4, 5).due("copy(3, 0, 0, 2, 3)", 1);
            items(x, 0, type, -1, 3, -1, 3, 4);
        }
        // none, at the beginning, at the end, and of rows without items
        Edge y = new Edge().row(0, BYTES, 1, 2).row(1, BYTES, 3).row(2, BYTES).still("copy(0, 0, 1, 0, 0)", 1)
            .still("copy(0, 2, 1, 1, 0)", 1)
            .still("copy(2, 0, 1, 1, 0)", 1).still("copy(2, 0, 2, 0, 0)", 1).due("copy(1, 0, 0, 1, 1)", 1);
        items(y, 0, BYTES, 1, 3);
        // whole rows of 60
        new Edge().due("sheet(0, 2, 60)", 60).due("sheet(1, 2, 60)", 60).due("lay(0, 2, 0, 7)", 1)
            .due("lay(0, 2, 59, 8)", 1)
            .due("copy(0, 0, 1, 0, 60)", 1).due("get(1, 2, 0)", 7).due("get(1, 2, 59)", 8)
            .due("copy(0, 59, 1, 0, 1)", 1)
            .due("get(1, 2, 0)", 8).due("copy(0, 0, 1, 59, 1)", 1).due("get(1, 2, 59)", 7)
            .all(Edge.INDEX, "copy(0, 0, 1, 0, 61)", "copy(0, 1, 1, 0, 60)", "copy(0, 0, 1, 1, 60)");
    }

    private static void copyOfItself() {
        Sentences.says(40, "(perhaps s, as they were)");
        int[][] cases = {{0, 1, 4, 1, 1, 2, 3, 4}, {1, 0, 4, 2, 3, 4, 5, 5}, {0, 2, 3, 1, 2, 1, 2, 3}, {2, 0, 3, 3, 4, 5, 4, 5},
            {0, 0, 5, 1, 2, 3, 4, 5}, {4, 0, 1, 5, 2, 3, 4, 5}, {0, 4, 1, 1, 2, 3, 4, 1}, {2, 2, 0, 1, 2, 3, 4, 5}};
        for (int[] one : cases) {
            Edge x = new Edge().row(1, INTS, 1, 2, 3, 4, 5)
                .due("copy(1, " + one[0] + ", 1, " + one[1] + ", " + one[2] + ")", 1);
            items(x, 1, INTS, one[3], one[4], one[5], one[6], one[7]);
        }
    }

    private static void copyPlaces() {
        Sentences.says(40, "INDEX: below 0, not so many");
        Edge x = new Edge().row(0, BYTES, 1, 2, 3, 4, 5).row(1, BYTES, 7, 8, 9)
            .all(Edge.INDEX, "copy(0, -1, 1, 0, 1)", "copy(0, 0, 1, -1, 1)", "copy(0, 0, 1, 0, -1)", "copy(0, -1, 1, 0, 0)")
            .all(Edge.INDEX, "copy(0, 0, 1, -1, 0)", "copy(0, 5, 1, 0, 1)", "copy(0, 6, 1, 0, 0)", "copy(0, 3, 1, 0, 3)")
            .all(Edge.INDEX, "copy(0, 0, 1, 3, 1)", "copy(0, 0, 1, 4, 0)", "copy(0, 0, 1, 1, 3)", "copy(0, 0, 1, 0, 4)")
            .due("count(8)", 2)
            // sums that wrap around
            .all(Edge.INDEX, "copy(0, MOST, 1, 0, 1)", "copy(0, 1, 1, 0, MOST)", "copy(0, 0, 1, MOST, 1)", "copy(0, MOST, 1, MOST, MOST)")
            .all(Edge.INDEX, "copy(0, LEAST, 1, 0, 1)", "copy(0, 0, 1, LEAST, 1)", "copy(0, 0, 1, 0, LEAST)", "copy(0, LEAST, 1, 0, LEAST)")
            .all(Edge.INDEX, "copy(0, MOST, 1, 0, LEAST)", "copy(0, 5, 1, 3, LEAST)", "copy(0, 5, 1, 3, -1)", "copy(0, 1, 1, 1, -1)");
        items(x, 0, BYTES, 1, 2, 3, 4, 5);
        items(x, 1, BYTES, 7, 8, 9).due("copy(0, 2, 1, 0, 3)", 1);
        items(x, 1, BYTES, 3, 4, 5);
    }

    private static void copyRefusals() {
        Sentences.says(40, "BAD: the SHEETS; NULL: s, t; STORE; INDEX: below 0, not so many.");
        new Edge().row(0, BYTES, 1, 2).row(1, SHORTS, 3, 4).row(2, INTS, 5, 6)
            .all(Edge.BAD, "copy(-1, 0, 0, 0, 0)", "copy(4, 0, 0, 0, 0)", "copy(0, 0, -1, 0, 0)", "copy(0, 0, 4, 0, 0)")
            .all(Edge.BAD, "copy(LEAST, 0, 0, 0, 0)", "copy(MOST, 0, 0, 0, 0)", "copy(0, 0, LEAST, 0, 0)", "copy(0, 0, MOST, 0, 0)")
            .due("count(8)", 0).all(Edge.NULL, "copy(3, 0, 0, 0, 0)", "copy(0, 0, 3, 0, 0)", "copy(3, 0, 3, 0, 0)")
            .due("count(8)", 1)
            .all(Edge.STORE, "copy(0, 0, 1, 0, 1)", "copy(1, 0, 0, 0, 1)", "copy(0, 0, 2, 0, 1)", "copy(2, 0, 1, 0, 0)")
            .due("count(8)", 4)
            .due("copy(0, 0, 0, 1, 2)", Edge.INDEX).due("count(8)", 2);
        Sentences.says(40, "Refusals, the first that fits, in the order told at each act");
        new Edge().row(0, BYTES, 1, 2).row(1, SHORTS, 3, 4)
            .all(Edge.BAD, "copy(4, 0, 3, 0, 0)", "copy(3, 0, 4, 0, 0)", "copy(-1, 9, 1, 0, 0)", "copy(0, -1, 4, 0, 0)")
            .all(Edge.NULL, "copy(3, -1, 0, 0, 0)", "copy(0, 9, 3, 0, 9)", "copy(1, 0, 3, -1, 0)", "copy(3, 0, 1, 0, -1)")
            .all(Edge.STORE, "copy(0, -1, 1, 0, 1)", "copy(0, 0, 1, 0, 3)", "copy(1, 0, 0, -1, 1)", "copy(1, 0, 0, 0, -1)");
    }

    private static void count() {
        Sentences.says(42, "0 MATCHES, 1 those with VERDICTS, 2 CLUBS, 3 MEMBERS, 4 bytes of all CODES, 5 A, 6 B, 7 QUORUM");
        int[] first = {0, 0, 0, 0, 0, 2, 3, 1, 0};
        Edge x = new Edge();
        for (int what = 0; what < 9; what++) {
            x.still("count(" + what + ")", first[what]);
        }
        x.all(Edge.BAD, "count(-1)", "count(9)", "count(LEAST)", "count(MOST)");
        Edge y = new Edge("n4;x").text(10, "n").row(0, BYTES, 1);
        for (int i = 0; i < 12; i++) {
            y.due("match(0, 1)", i).due("verdicts(" + i + ", 0)", 1).due("club(0, 0)", i)
                .due("member(" + i + ", true)", 1);
        }
        int[] most = {12, 12, 12, 12, 5, 9, 9, 12, 0};
        y.due("rule(1, 9)", 3).due("rule(0, 9)", 2).due("rule(2, 12)", 1);
        for (int what = 0; what < 9; what++) {
            y.still("count(" + what + ")", most[what]);
        }
        // refused ones are not counted
        y.due("match(0, 1)", Edge.FULL).due("club(0, 0)", Edge.FULL).due("type(0, 256)", Edge.BAD).due("count(0)", 12)
            .due("count(2)", 12).due("count(4)", 5);
        new Edge("a".repeat(80)).text(10, "a".repeat(80)).due("count(4)", 160).due("type(0, 97)", Edge.FULL)
            .due("count(4)", 160)
            .due("wipe(0)", 80).due("count(4)", 80);
    }

    private static void countFindings() {
        Sentences.says(42, "8 the number of the latest FINDING (0 before any)");
        new Edge().due("count(8)", 0).due("lose(0)", Edge.NULL).due("count(8)", 1).row(0, BYTES, 1).due("count(8)", 1)
            .due("match(0, 2)", Edge.INDEX).due("count(8)", 2).due("lay(0, 1, 0, 0)", Edge.CAST).due("count(8)", 3)
            .row(1, INTS, 1)
            .due("copy(0, 0, 1, 0, 1)", Edge.STORE).due("count(8)", 4).due("sheet(2, 0, -1)", Edge.SIZE)
            .due("count(8)", 5)
            .got("get(2, 0, 0)", 1).due("count(8)", 1).due("count(8)", 1);
        Sentences.says(42, "They change nothing (FINDINGS but count() 8).");
        // BAD, NOT and FULL are no findings
        Edge x = new Edge("n0").row(0, BYTES, 1).due("club(0, 1)", 0).due("club(1, 1)", 1).match(1)
            .all(Edge.BAD, "type(0, 256)", "lay(4, 0, 0, 0)", "copy(4, 0, 0, 0, 0)", "sheet(0, 0, 61)", "count(9)")
            .all(Edge.NOT, "fits(0, 0)", "gives(0, 1)", "between(0, 1, 0, 0)", "cup(3, 0)", "mate(3, 0, 0)")
            .due("count(8)", 0)
            .got("get(0, 3, 0)", 0).due("count(8)", 0).due("sheet(0, 0, -1)", Edge.SIZE)
            .all(Edge.BAD, "type(0, 256)", "lay(4, 0, 0, 0)", "match(0, 41)", "write(0, 11, 0)", "verdicts(1, 0)")
            .all(Edge.NOT, "fits(0, 0)", "gives(0, 1)").due("count(8)", 5);
        for (int i = 1; i < 12; i++) {
            x.due("match(0, 1)", i);
        }
        x.due("match(0, 1)", Edge.FULL).due("count(8)", 5);
    }

    private static long next(long h, long... values) {
        long sum = h;
        for (long value : values) {
            sum = 31 * sum + value;
        }
        return sum;
    }

    /** The row of numbers, with these counts, faults of codes 0 and 1, played, clubs, and the last two. */
    private static long digestOf(long[] counts, long[] faults, long[] played, long[] clubs, int[] law, long... last) {
        long h = next(17, counts);
        for (int code = 0; code < 11; code++) {
            h = next(h, code < faults.length ? faults[code] : -1);
        }
        h = next(next(h, played), clubs);
        for (int item : law) {
            h = next(h, item);
        }
        return next(h, last);
    }

    private static void digest() {
        Sentences.says(43, "h is 17; h becomes 31 h and each of: count() 0 to 7; fault() of CODES; of each MATCH played() 0 to 5 under"
            + " CODE 0 alone; of each CLUB its CODE, ITEMS it HOLDS; law() 0 to 16; fitting(); parts(0, 1)");
        long[] none = {};
        int[] law = Edge.WITHOUT_PARTS;
        new Edge().still("digest()", digestOf(new long[] {0, 0, 0, 0, 0, 2, 3, 1}, none, none, none, law, 2047, -1));
        new Edge("x", "n4;")
            .due("digest()", digestOf(new long[] {0, 0, 0, 0, 4, 2, 3, 1}, new long[] {0, 3}, none, none, law, 2047, -1));
        new Edge("n1").due("digest()", digestOf(new long[] {0, 0, 0, 0, 2, 2, 3, 1}, none, none, none, law, 2047, 1));
        new Edge().text(10, "y").due("digest()", digestOf(new long[] {0, 0, 0, 0, 1, 2, 3, 1},
            new long[] {-1, -1, -1, -1, -1, -1, -1, -1, -1, -1, 1}, none, none, law, 2047, -1));
        // matches under code 0, of whom one has verdicts; clubs, a member; the law of code 1
        int[] other = law.clone();
        other[0] = 0;
        Edge x = new Edge("g8=3", "n0").match(1, 4, 8, 11, 17, 7).match(99).verdicts(1, 1).due("club(1, 131071)", 0)
            .due("club(10, 0)", 1)
            .due("member(1, true)", 1).due("enact(1)", 1).due("rule(0, 1)", 2).due("rule(1, 9)", 3)
            .due("rule(2, 0)", 1);
        long due = digestOf(new long[] {2, 1, 2, 1, 6, 1, 9, 0}, none, new long[] {3, 0, 5, 0, 1, 6, 0, 0, 0, 0, 0, 1},
            new long[] {1, 131071, 10, 0}, other, 2047, 2);
        x.still("digest()", due).due("lose(0)", Edge.NULL).due("digest()", due).due("digest()", due);
    }

    private static void digestWraps() {
        Sentences.says(43, "as longs that wrap");
        // far beyond 64 bits: 12 matches and 12 clubs, whose numbers are added one by one
        Edge x = new Edge().row(0, BYTES, 1, 4, 8);
        long[] played = new long[72];
        long[] clubs = new long[24];
        for (int i = 0; i < 12; i++) {
            x.due("match(0, 3)", i).due("club(10, 131071)", i);
            played[6 * i] = 1;
            played[6 * i + 2] = 3;
            played[6 * i + 5] = 3;
            clubs[2 * i] = 10;
            clubs[2 * i + 1] = 131071;
        }
        x.due("digest()", digestOf(new long[] {12, 0, 12, 0, 0, 2, 3, 1}, new long[] {}, played, clubs, Edge.WITHOUT_PARTS, 2047, -1));
    }

    private static void lastCall() {
        Sentences.says(43, "An object is used for at most 512 calls after it has been made");
        Edge x = new Edge();
        for (int i = 0; i < 255; i++) {
            x.due("type(10, 110)", 1).due("wipe(10)", 1);
        }
        x.due("count(4)", 0);
        x.due("digest()", digestOf(new long[] {0, 0, 0, 0, 0, 2, 3, 1}, new long[] {}, new long[] {}, new long[] {},
            Edge.WITHOUT_PARTS, 2047, -1));
    }
}
