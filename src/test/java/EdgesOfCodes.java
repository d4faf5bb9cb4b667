/** Promises 1 to 7 at their edges: a new object, type, wipe, fault, item, why, differ. */
final class EdgesOfCodes {
    private static final String FIGURES = "0123456789";
    private static final String ALL_ITEMS = "n0;n1;n2;n3;n4;n5;n6;n7;n8;n9;g4=1;g8=2;g9=2;a1;k1;e1;t1";

    private EdgesOfCodes() {
    }

    static void run() {
        aNewObject();
        whatStandsAtFirst();
        type();
        fullTexts();
        wipe();
        faultsByteByByte();
        faultsOfCells();
        faultsOfFigures();
        faultsOfNumbers();
        faultsOfParts();
        items();
        itemsOfCells();
        itemsOfParts();
        itemsWithFaults();
        why();
        differ();
    }

    private static void aNewObject() {
        Sentences.says(1, "No MATCHES, no CLUBS; all SHEETS are LOST.");
        new Edge().due("count(8)", 0).due("count(0)", 0).due("count(1)", 0).due("count(2)", 0).due("count(3)", 0)
            .due("count(4)", 0)
            .all(Edge.BAD, "played(0, 0, 0, 0, 0)", "goes(0, 0, 0)", "fits(0, 0)", "verdicts(0, 0)")
            .all(Edge.BAD, "change(0, 0, 0)", "member(0, true)", "agree(0, 1)", "way(0, 1, 1)", "draws(3, 50)")
            .due("turned(0, 1)", 0).due("fitting()", 2047);
        for (int s = 0; s < 4; s++) {
            new Edge().due("lose(" + s + ")", Edge.NULL);
            new Edge().due("match(" + s + ", 0)", Edge.NULL);
        }
        // what one object is told, another does not hear
        Edge used = new Edge("n4").row(0, 0, 1).clubs(0, 1).due("match(0, 1)", 0);
        new Edge().due("count(0)", 0).due("count(2)", 0).due("count(4)", 0).due("lose(0)", Edge.NULL);
        used.due("count(0)", 1).due("lose(0)", 1);
    }

    private static void whatStandsAtFirst() {
        Sentences.says(1, "Without parts: all is LET; g 8 and 9 are 1, 4 is 0; a 0, k 0, e 0, t 99.");
        for (int code = 0; code < 11; code++) {
            asWithoutParts(new Edge(), code);
        }
        Sentences.says(1, "THE LAW has ITEMS of its own (at first as a CODE without parts has)");
        Edge x = new Edge();
        for (int item = 0; item < 17; item++) {
            x.due("law(" + item + ")", Edge.WITHOUT_PARTS[item]);
        }
        Sentences.says(1, "MEMBERS are CLUBS (none at first).");
        x = new Edge().clubs(0, 12).due("count(3)", 0);
        for (int club = 0; club < 12; club++) {
            x.due("member(" + club + ", false)", 0);
        }
        Sentences.says(1, "(A, B told: 1 to 9 each, A not above B; 2, 3 at first)");
        new Edge().due("count(5)", 2).due("count(6)", 3).due("rule(0, 1)", 2).due("rule(1, 9)", 3);
        Sentences.says(1, "QUORUM (0 to 12; 1 at first)");
        new Edge().due("count(7)", 1).due("rule(2, 0)", 1);
        Sentences.says(1, "WAYS between CLUBS (0 to 99, both ways alike; 50 at first).");
        x = new Edge().clubs(0, 12);
        for (int a = 0; a < 12; a++) {
            for (int b = a + 1; b < 12; b++) {
                x.due("way(" + a + ", " + b + ", 7)", 50).due("way(" + b + ", " + a + ", 8)", 7);
            }
        }
    }

    private static Edge asWithoutParts(Edge x, int code) {
        for (int item = 0; item < 17; item++) {
            x.due("item(" + code + ", " + item + ")", Edge.WITHOUT_PARTS[item]);
        }
        return x;
    }

    private static void type() {
        Sentences.says(2, "A byte (0 to 255) comes behind a CODE: how many. BAD; FULL.");
        new Edge().due("type(0, 0)", 1).due("type(0, 255)", 2).due("type(0, 254)", 3).due("type(0, 1)", 4)
            .all(Edge.BAD, "type(0, -1)", "type(0, 256)", "type(0, LEAST)", "type(0, MOST)", "type(0, 257)")
            .due("type(0, 5)", 5).due("count(4)", 5);
        new Edge().due("type(10, 110)", 1).due("type(0, 110)", 1).due("type(10, 52)", 2).due("count(4)", 3)
            .all(Edge.BAD, "type(-1, 110)", "type(11, 110)", "type(LEAST, 110)", "type(MOST, 110)")
            .due("item(10, 4)", 0).due("fault(0)", 1);
        // behind, not ahead
        new Edge().due("type(0, 52)", 1).due("type(0, 110)", 2).due("fault(0)", 0);
    }

    private static void fullTexts() {
        Sentences.says(2, "CODES 0 .. 10 are texts of up to 80 bytes");
        Edge x = new Edge(repeated("n4;", 26) + "n").due("count(4)", 79).due("fault(0)", 79).due("type(0, 52)", 80)
            .due("fault(0)", Edge.NONE).due("item(0, 4)", 0)
            .all(Edge.FULL, "type(0, 59)", "type(0, 0)", "type(0, 255)", "type(0, 52)")
            .due("fault(0)", Edge.NONE).due("item(0, 4)", 0).due("count(4)", 80);
        Sentences.says(2, "Refusals, the first that fits, in the order told at each act");
        x.all(Edge.BAD, "type(0, -1)", "type(0, 256)", "type(-1, 59)", "type(11, 59)");
        Sentences.says(2, "A byte (0 to 255) comes behind a CODE: how many. BAD; FULL.");
        x.due("type(1, 59)", 1).due("type(10, 59)", 1).due("type(0, 1)", Edge.FULL)
            .due("wipe(0)", 80).due("type(0, 121)", 1);
        Edge last = new Edge().text(10, repeated("a", 80)).due("type(10, 97)", Edge.FULL).due("type(9, 97)", 1);
        last.due("count(4)", 81);
    }

    private static String repeated(String part, int times) {
        return part.repeat(times);
    }

    private static void wipe() {
        Sentences.says(3, "A CODE's text is empty: how many bytes it had. BAD.");
        new Edge().due("wipe(0)", 0).due("wipe(10)", 0).due("type(0, 0)", 1).due("wipe(0)", 1).due("wipe(0)", 0)
            .all(Edge.BAD, "wipe(-1)", "wipe(11)", "wipe(LEAST)", "wipe(MOST)");
        new Edge(repeated("n4;", 26) + "n4", "n3").text(10, "n2").due("wipe(0)", 80).due("fault(0)", Edge.NONE)
            .due("item(0, 4)", 127).due("why(0, 4, 0)", Edge.NONE).due("count(4)", 4).due("wipe(0)", 0)
            .due("item(1, 3)", 0).due("item(10, 2)", 0).due("wipe(10)", 2).due("item(10, 2)", 127)
            .due("item(1, 3)", 0).due("count(4)", 2);
        // with a fault, too; and what was wiped does not come again
        new Edge("x4;n4").due("fault(0)", 0).due("wipe(0)", 5).due("fault(0)", Edge.NONE).due("type(0, 110)", 1)
            .due("fault(0)", 1);
        asWithoutParts(new Edge(ALL_ITEMS).due("wipe(0)", ALL_ITEMS.length()), 0);
        // each text cut at each place is as if the bytes behind it had never been
        for (String whole : new String[] {"n4;n5", "n45-6", "g8=1", "e12;", "t12", "a1;k1", "t0"}) {
            for (int cut = 0; cut < whole.length(); cut++) {
                String rest = whole.substring(0, cut);
                new Edge(whole).due("wipe(0)", whole.length()).text(0, rest).due("fault(0)", faultOf(rest));
            }
        }
        new Edge("e12").due("wipe(0)", 3).text(0, "e1").due("item(0, 15)", 1);
        new Edge("n41-3").due("wipe(0)", 5).text(0, "n4").due("item(0, 4)", 0);
        Sentences.says(3, "they do not change with a CODE's text");
        new Edge("n4;t7").due("enact(0)", 1).due("wipe(0)", 5).due("law(4)", 0).due("law(16)", 7)
            .due("item(0, 4)", 127);
    }

    /** The beginnings of the texts above: the whole ones have no fault, and the others theirs behind the end. */
    private static int faultOf(String text) {
        switch (text) {
            case "":
            case "n4":
            case "e1":
            case "e12":
            case "t1":
            case "a1":
                return Edge.NONE;
            default:
                return text.length();
        }
    }

    /** Behind the prefix: bytes that leave a whole text, bytes that leave one to be gone on with, and all others. */
    private static void nextByte(String prefix, String whole, String open, int faultOfOthers) {
        for (int b = 0; b < 256; b++) {
            int due = faultOfOthers;
            if (whole.indexOf(b) >= 0) {
                due = Edge.NONE;
            } else if (open.indexOf(b) >= 0) {
                due = prefix.length() + 1;
            }
            new Edge(prefix).due("type(0, " + b + ")", prefix.length() + 1).due("fault(0)", due);
        }
    }

    private static void faultsByteByByte() {
        Sentences.says(4, "The FAULT is the place of the first byte with which it cannot go on");
        nextByte("", "", "yngaket", 0);
        nextByte("a1;", "", "yngaket", 3);
        nextByte("y", FIGURES, "", 1);
        nextByte("n", FIGURES, "", 1);
        nextByte("n4", "", "0123456;", 2);
        nextByte("y90", "", "-", 3);
        nextByte("n43-", "3456", "", 4);
        nextByte("n40-", "0123456", "", 4);
        nextByte("n46-", "6", "", 4);
        nextByte("n43-5", "", ";", 5);
        nextByte("g", "", "489", 1);
        nextByte("g8", "", "=", 2);
        nextByte("g4=", FIGURES, "", 3);
        nextByte("g9=0", "", ";", 4);
        nextByte("a", "012", "", 1);
        nextByte("a2", "", ";", 2);
        nextByte("k", "012", "", 1);
        nextByte("k0", "", ";", 2);
        nextByte("e", FIGURES, "", 1);
        nextByte("e0", FIGURES, ";", 2);
        nextByte("e99", "", ";", 3);
        nextByte("t", "123456789", "", 1);
        nextByte("t0", "123456789", "", 1);
        nextByte("t1", FIGURES, ";", 2);
        nextByte("t99", "", ";", 3);
        nextByte("t00", "", "", 1);
        new Edge().due("fault(0)", Edge.NONE).due("fault(10)", Edge.NONE)
            .all(Edge.BAD, "fault(-1)", "fault(11)", "fault(LEAST)", "fault(MOST)");
        new Edge().text(10, "n4;x").still("fault(10)", 3).due("fault(9)", Edge.NONE);
    }

    private static void fault(String text, int due) {
        new Edge(text).due("fault(0)", due);
    }

    private static void faultsOfCells() {
        Sentences.says(4, "CELLS x - y (one figure each, 0 to 6, x not above y)");
        for (int x = 0; x < 10; x++) {
            for (int y = 0; y < 10; y++) {
                int due = x > 6 ? 2 : y > 6 || x > y ? 4 : Edge.NONE;
                fault("n4" + x + "-" + y, due);
            }
        }
        fault("n433-4", 3);
        fault("n43-44", 5);
        fault("n43 - 4", 3);
        fault("n4-4", 2);
        Sentences.says(4, "y or n, an ACT (one figure), then, or not, CELLS");
        for (int act = 0; act < 10; act++) {
            fault("y" + act, Edge.NONE);
            fault("n" + act + "0-6", Edge.NONE);
        }
        fault("n", 1);
        fault("n10", 3);
        fault("n10-", 4);
        fault("n;", 1);
    }

    private static void faultsOfFigures() {
        Sentences.says(4, "g, an ACT 4, 8, 9, = , POINTS (one figure)");
        for (int act = 0; act < 10; act++) {
            fault("g" + act + "=1", act == 4 || act == 8 || act == 9 ? Edge.NONE : 1);
        }
        for (int points = 0; points < 10; points++) {
            fault("g8=" + points, Edge.NONE);
        }
        fault("g8=10", 4);
        fault("g8=", 3);
        fault("g8", 2);
        fault("g", 1);
        Sentences.says(4, "a and a figure (0: one that is AHEAD matters nothing, 1: TAKE and CATCH by such a one are"
            + " STOPPED, 2: all ACTS by such a one)");
        for (int figure = 0; figure < 10; figure++) {
            fault("a" + figure, figure <= 2 ? Edge.NONE : 1);
        }
        fault("a", 1);
        fault("a01", 2);
        Sentences.says(4, "k and a figure (behind a SCORE THE BALL is 0 NOBODY's, 1 the other side's, 2 the same side's)");
        for (int figure = 0; figure < 10; figure++) {
            fault("k" + figure, figure <= 2 ? Edge.NONE : 1);
        }
        fault("k", 1);
        fault("k20", 2);
    }

    private static void faultsOfNumbers() {
        Sentences.says(4, "e and a number (one or two figures): the MATCH ends when a side has so many POINTS (0: never)");
        for (int number = 0; number < 100; number++) {
            fault("e" + number, Edge.NONE);
            fault("e" + number / 10 + number % 10, Edge.NONE);
        }
        fault("e", 1);
        fault("e;", 1);
        fault("e-1", 1);
        fault("e100", 3);
        fault("e000", 3);
        Sentences.says(4, "t and a number (one or two figures, 1 and more): it ends behind so many MOMENTS.");
        for (int number = 0; number < 100; number++) {
            fault("t" + number, number == 0 ? 1 : Edge.NONE);
            fault("t" + number / 10 + number % 10, number == 0 ? 1 : Edge.NONE);
        }
        fault("t", 1);
        fault("t100", 3);
        Sentences.says(4, "or of a figure (a number's first) that may not be");
        fault("t0", 1);
        fault("t00", 1);
        fault("t0;", 1);
        fault("t00;a9", 1);
        fault("t000", 1);
        fault("n4;t00", 4);
        fault("n4;a3;x", 4);
    }

    private static void faultsOfParts() {
        Sentences.says(4, "an empty text has none");
        fault("", Edge.NONE);
        new Edge("x").due("fault(0)", 0).due("wipe(0)", 1).due("fault(0)", Edge.NONE);
        Sentences.says(4, "parts with ; between them");
        fault(";", 0);
        fault(";n4", 0);
        fault("n4;", 3);
        fault("n4;;", 3);
        fault("n4;;n4", 3);
        fault("n4n4", 2);
        fault("n4,n4", 2);
        fault("n4 ;n4", 2);
        fault("n4; n4", 3);
        fault("a0a0", 2);
        fault("e1;t1;k1;a1;g4=1;n0;y0", Edge.NONE);
        Sentences.says(4, "CODES 0 .. 10 are texts of up to 80 bytes");
        // the last byte is the fault, or the place behind it, or none
        fault(repeated("a0;", 26) + "a0", Edge.NONE);
        fault(repeated("a0;", 26) + "a3", 79);
        fault(repeated("a0;", 26) + "x0", 78);
        fault("e10;e10;" + repeated("a0;", 24), 80);
        fault("e10;" + repeated("a0;", 25) + "n", 80);
        fault("e10;" + repeated("a0;", 25) + ";", 79);
        fault("e10;" + repeated("a0;", 24) + "t0;x", 77);
        fault("e10;" + repeated("a0;", 24) + "g8=1", Edge.NONE);
    }

    private static void items() {
        Sentences.says(5, "An ITEM of a CODE. BAD.");
        new Edge("n0;t5").due("item(0, 0)", 0).due("item(0, 16)", 5).due("item(10, 0)", 127).due("item(10, 16)", 99)
            .still("item(0, 16)", 5)
            .all(Edge.BAD, "item(0, -1)", "item(0, 17)", "item(-1, 0)", "item(11, 0)", "item(-1, 16)", "item(11, 17)")
            .all(Edge.BAD, "item(0, LEAST)", "item(0, MOST)", "item(LEAST, 0)", "item(MOST, 0)");
        Sentences.says(5, "ITEMS of a CODE: 0 to 9: in which CELLS an ACT is LET (7 bits);"
            + " 10, 11, 12: g 4, 8, 9; 13 a, 14 k, 15 e, 16 t.");
        item("g4=0", 10, 0);
        item("g4=9", 10, 9);
        item("g8=0", 11, 0);
        item("g8=9", 11, 9);
        item("g9=0", 12, 0);
        item("g9=9", 12, 9);
        for (int figure = 0; figure < 3; figure++) {
            item("a" + figure, 13, figure);
            item("k" + figure, 14, figure);
        }
        item("e0", 15, 0);
        item("e00", 15, 0);
        item("e9", 15, 9);
        item("e09", 15, 9);
        item("e10", 15, 10);
        item("e99", 15, 99);
        item("t1", 16, 1);
        item("t01", 16, 1);
        item("t10", 16, 10);
        item("t99", 16, 99);
    }

    /** The text says one item, and all others are as without parts. */
    private static void item(String text, int item, int due) {
        Edge x = new Edge(text);
        for (int i = 0; i < 17; i++) {
            x.due("item(0, " + i + ")", i == item ? due : Edge.WITHOUT_PARTS[i]);
        }
    }

    private static void itemsOfCells() {
        Sentences.says(5, "in these (all) it is LET, or not");
        for (int act = 0; act < 10; act++) {
            item("n" + act, act, 0);
            item("y" + act, act, 127);
            item("n" + act + ";y" + act, act, 127);
            for (int from = 0; from < 7; from++) {
                for (int to = from; to < 7; to++) {
                    int bits = 0;
                    for (int cell = from; cell <= to; cell++) {
                        bits += 1 << cell;
                    }
                    String cells = act + "" + from + "-" + to;
                    item("n" + cells, act, 127 - bits);
                    item("n" + act + ";y" + cells, act, bits);
                }
            }
        }
    }

    private static void itemsOfParts() {
        Sentences.says(5, "The later part is so.");
        item("n4;y4", 4, 127);
        item("y4;n4", 4, 0);
        item("n40-3;y43-6", 4, 120);
        item("y43-6;n40-3", 4, 112);
        item("n40-3;n43-6", 4, 0);
        item("g4=9;g4=0", 10, 0);
        item("g8=0;g8=9", 11, 9);
        item("g9=9;g9=1", 12, 1);
        item("a2;a0", 13, 0);
        item("a1;a2", 13, 2);
        item("k2;k0", 14, 0);
        item("k0;k1", 14, 1);
        item("e99;e0", 15, 0);
        item("e1;e02", 15, 2);
        item("t1;t99", 16, 99);
        item("t99;t01", 16, 1);
        // 80 bytes: the last part of all is the one
        item(repeated("n4;", 26) + "y4", 4, 127);
        item(repeated("a0;", 26) + "a2", 13, 2);
    }

    private static void itemsWithFaults() {
        Sentences.says(5, "With a FAULT it is as without parts.");
        String[] faulty = {ALL_ITEMS + ";", "n4;x", "n4;e5;t0", "n4;n45-4", "n4;n47-7", "g8=5;g8=55", "a1;a3", "k1;k3",
            "e5;e100", "t5;t100", "n0;n", "n4;g5=1"};
        for (String text : faulty) {
            Edge x = asWithoutParts(new Edge(text), 0);
            x.due("why(0, 4, 0)", Edge.NONE).due("why(0, 0, 6)", Edge.NONE);
        }
        // the fault goes when the text goes on, and comes again
        new Edge("n4;").due("item(0, 4)", 127).due("type(0, 116)", 4).due("item(0, 4)", 127).due("type(0, 48)", 5)
            .due("item(0, 4)", 127).due("type(0, 49)", 6).due("item(0, 4)", 0).due("item(0, 16)", 1)
            .due("type(0, 49)", 7).due("item(0, 4)", 127).due("item(0, 16)", 99);
    }

    private static void why() {
        Sentences.says(6, "Which part of a CODE (from 0) says so of an ACT in a CELL from the side's own end; NONE. BAD.");
        new Edge("y00-0;n96-6").due("why(0, 0, 0)", 0).due("why(0, 9, 6)", 1).due("why(0, 0, 1)", Edge.NONE)
            .due("why(0, 9, 5)", Edge.NONE).due("why(0, 0, 6)", Edge.NONE).due("why(10, 9, 6)", Edge.NONE)
            .still("why(0, 9, 6)", 1)
            .all(Edge.BAD, "why(-1, 0, 0)", "why(11, 0, 0)", "why(0, -1, 0)", "why(0, 10, 0)", "why(0, 0, -1)")
            .all(Edge.BAD, "why(0, 0, 7)", "why(LEAST, 0, 0)", "why(0, LEAST, 0)", "why(0, 0, LEAST)")
            .all(Edge.BAD, "why(MOST, 0, 0)", "why(0, MOST, 0)", "why(0, 0, MOST)", "why(0, 1, -1)", "why(0, -1, 7)");
        // each cell of each act, at both ends of the cells told
        for (int act = 0; act < 10; act++) {
            for (int from = 0; from < 7; from++) {
                int to = Math.min(6, from + 2);
                Edge x = new Edge("k0;n" + act + from + "-" + to);
                for (int cell = 0; cell < 7; cell++) {
                    x.due("why(0, " + act + ", " + cell + ")", cell >= from && cell <= to ? 1 : Edge.NONE)
                        .due("why(0, " + (act + 1) % 10 + ", " + cell + ")", Edge.NONE);
                }
            }
        }
        // parts of all kinds are counted, up to the 27th of 80 bytes
        new Edge(repeated("a0;", 26) + "n4").due("why(0, 4, 0)", 26).due("why(0, 4, 6)", 26)
            .due("why(0, 5, 0)", Edge.NONE);
        new Edge(repeated("n4;", 26) + "a0").due("why(0, 4, 0)", 25);
        new Edge("e1;t1;g4=1;g8=1;g9=1;k0;a0;y4").due("why(0, 4, 3)", 7).due("why(0, 8, 3)", Edge.NONE);
        Sentences.says(6, "The later part is so.");
        new Edge("n4;y43-3;n43-4").due("why(0, 4, 2)", 0).due("why(0, 4, 3)", 2).due("why(0, 4, 4)", 2)
            .due("why(0, 4, 5)", 0);
        new Edge("n4;n4;n4").due("why(0, 4, 0)", 2);
        Sentences.says(6, "With a FAULT it is as without parts.");
        new Edge("n4;").due("why(0, 4, 0)", Edge.NONE).text(1, "n4;n4;t0").due("why(1, 4, 0)", Edge.NONE);
        new Edge("n4").due("why(0, 4, 0)", 0).due("wipe(0)", 2).due("why(0, 4, 0)", Edge.NONE);
    }

    private static void differ() {
        Sentences.says(7, "DIFFER, as bits. BAD.");
        new Edge(ALL_ITEMS).due("differ(0, 1)", 131071).due("differ(1, 0)", 131071).due("differ(0, 10)", 131071)
            .due("differ(10, 0)", 131071).due("differ(0, 0)", 0).due("differ(10, 1)", 0).still("differ(0, 1)", 131071)
            .all(Edge.BAD, "differ(-1, 0)", "differ(11, 0)", "differ(0, -1)", "differ(0, 11)", "differ(11, 11)")
            .all(Edge.BAD, "differ(LEAST, 0)", "differ(0, LEAST)", "differ(MOST, 0)", "differ(0, MOST)");
        Sentences.says(7, "DIFFER: ITEMS in which two CODES are unlike.");
        String[] alone = {"n00-0", "n16-6", "n23-3", "n3", "n4", "n5", "n6", "n7", "n8", "n96-6", "g4=1", "g8=0", "g9=2",
            "a1", "k2", "e1", "t98"};
        for (int item = 0; item < alone.length; item++) {
            new Edge(alone[item]).due("differ(0, 1)", 1 << item).due("differ(1, 0)", 1 << item);
        }
        // unlike texts, like items; and a fault makes a code like one without parts
        new Edge("n4;y4;e0;t99", "a0", "n4;").due("differ(0, 1)", 0).due("differ(2, 1)", 0).due("differ(2, 3)", 0);
    }
}
