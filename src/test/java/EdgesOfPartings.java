/** Promises 16 to 18 and 41 at their edges: parts, parting, fewest, write. */
final class EdgesOfPartings {
    /** Runs alone bring the ball to an end of the field; there a stopped kick hands it over. */
    private static final String RUNS_ALONE = "n0;n6;n8;n9";
    /** The most moments that a search of texts of 80 bytes has found. */
    private static final String EIGHTEEN =
        "n0;y05-5;n10-4;n2;n42-4;y43-3;n51-6;y54-4;n60-1;n76-6;n91-6;y92-3;g4=1;g8=0";

    private EdgesOfPartings() {
    }

    static void run() {
        parts();
        atMostSix();
        whatParts();
        leastRow();
        itemsThatMatterNothing();
        parting();
        fewest();
        fewestOfCodes();
        write();
        writeRefusals();
    }

    private static void part(String first, String second, int... due) {
        int length = due.length == 0 ? Edge.NONE : due.length;
        Edge x = new Edge(first, second).due("parts(0, 1)", length).due("parts(1, 0)", length);
        for (int i = 0; i < 8; i++) {
            int moment = i < due.length ? due[i] : Edge.NONE;
            x.due("parting(0, 1, " + i + ")", moment).due("parting(1, 0, " + i + ")", moment);
        }
    }

    private static void parts() {
        Sentences.says(16, "PARTING: how many MOMENTS; NONE: they do not part in 6. BAD.");
        new Edge("n1").text(10, "n0").due("parts(0, 0)", Edge.NONE).due("parts(1, 2)", Edge.NONE)
            .due("parts(10, 10)", Edge.NONE)
            .due("parts(0, 1)", 1).due("parts(10, 1)", 2).due("parts(1, 10)", 2).still("parts(0, 10)", 1)
            .all(Edge.BAD, "parts(-1, 0)", "parts(11, 0)", "parts(0, -1)", "parts(0, 11)", "parts(11, 11)")
            .all(Edge.BAD, "parts(LEAST, 0)", "parts(MOST, 0)", "parts(0, LEAST)", "parts(0, MOST)");
    }

    private static void atMostSix() {
        Sentences.says(16, "the shortest row of MOMENTS (at most 6), from the beginning on");
        part("n1", "", 1);
        part("n0", "", 1, 0);
        part("n3", "", 1, 0, 3);
        part("n9", "", 1, 0, 1, 9);
        part("n50-0", "", 1, 4, 0, 13, 15);
        part(RUNS_ALONE + ";n20-0", RUNS_ALONE, 1, 4, 4, 4, 0, 12);
        // a back from there comes as the 7th, as a match shows
        part(RUNS_ALONE + ";n50-0", RUNS_ALONE);
        new Edge(RUNS_ALONE + ";n50-0", RUNS_ALONE).match(1, 4, 4, 4, 0, 12, 15).due("goes(0, 0, 4)", 2)
            .due("goes(0, 1, 4)", 2)
            .due("goes(0, 0, 5)", 1).due("goes(0, 1, 5)", 1).due("goes(0, 0, 6)", 2).due("goes(0, 1, 6)", 1);
    }

    private static void whatParts() {
        Sentences.says(16, "and the last of which CAN be, and is LET by one alone, or scores otherwise, or leaves THE BALL"
            + " otherwise");
        part("n7", "", 1, 17);
        part("g8=1", "g8=2", 1, 4, 8);
        part("g8=8", "g8=9", 1, 4, 8);
        part("g8=0", "g8=1", 1, 4, 8);
        part("k0", "k1", 1, 4, 8);
        part("k0", "k2", 1, 4, 8);
        part("k1", "k2", 1, 4, 8);
        part("g4=1", "", 1, 0, 3, 4);
        part("g4=1", "g4=2", 1, 0, 3, 4);
        part("g9=0", "", 1, 0, 1, 9);
        part("a1", "", 21);
        part("a2", "", 21);
        part("a2", "a1", 1, 20);
        Sentences.says(16, "of which all but the last CAN be and are LET or STOPPED by both alike, with like POINTS and THE"
            + " BALL alike behind them");
        part("n1;n8", "n1", 1, 14, 18);
        part("n1;n8;g9=0", "n1;n8", 1, 10, 1, 19);
        part("n1;n2;n0;n4;n7;n8;n9;n3", "n1;n2;n0;n4;n7;n8;n9");
        part("n8;k1", "n8;k2", 1, 0, 1, 9);
        part("n8;n9;k1", "n8;n9;k2");
        part("g8=0;g9=0;k1", "g8=0;g9=0");
    }

    private static void leastRow() {
        Sentences.says(16, "from the beginning on");
        // the ball never leaves cell 3 under these, wherever it was in an earlier search
        Edge x = new Edge("", "n3", "n4;n0;n2;n1", "n4;n0;n2;n1;n8");
        for (int turn = 0; turn < 3; turn++) {
            x.due("parts(0, 1)", 3).due("parts(2, 3)", Edge.NONE).due("fewest(0, 1)", 3).due("parts(3, 2)", Edge.NONE)
                .due("parting(2, 3, 0)", Edge.NONE);
        }
        Sentences.says(16, "of like long ones the least (the first MOMENT compared first)");
        // both sides could, and one that is ahead: the least is side 0's, not ahead
        part("n4", "", 1, 4);
        part("n2;n4", "", 1, 2);
        part("n4;n7", "", 1, 4);
        part("n0;n7", "", 1, 0);
        part("n10-2", "", 1, 0, 11);
        part("n10-0", "", 1, 4, 0, 11);
        part("a1;n7", "", 21);
        part("a1;n1", "", 1);
    }

    private static void itemsThatMatterNothing() {
        Sentences.says(16, "by ITEMS 0 to 14 alone (it does not end)");
        part("e1", "");
        part("t1", "");
        part("e1;t1", "e9;t98");
        part("t1;n8", "t2", 1, 4, 8);
        part("e1;t1;k1", "e1;t1", 1, 4, 8);
        part("n4;x", "");
    }

    private static void parting() {
        Sentences.says(17, "MOMENT i of it; NONE: it is not so long, or there is none. BAD: also i below 0.");
        Edge x = new Edge("n7").text(10, RUNS_ALONE).text(9, RUNS_ALONE + ";n20-0").due("parting(0, 1, 0)", 1)
            .due("parting(0, 1, 1)", 17).due("parting(0, 1, 2)", Edge.NONE).due("parting(0, 1, 6)", Edge.NONE)
            .due("parting(0, 1, 7)", Edge.NONE).due("parting(0, 1, MOST)", Edge.NONE).due("parting(0, 0, 0)", Edge.NONE)
            .due("parting(1, 2, 0)", Edge.NONE).due("parting(1, 2, MOST)", Edge.NONE).due("parting(10, 9, 5)", 12)
            .due("parting(10, 9, 6)", Edge.NONE).due("parting(9, 10, 0)", 1).still("parting(9, 10, 5)", 12);
        x.all(Edge.BAD, "parting(0, 1, -1)", "parting(0, 1, LEAST)", "parting(0, 0, -1)", "parting(1, 2, -1)")
            .all(Edge.BAD, "parting(-1, 1, 0)", "parting(11, 1, 0)", "parting(0, -1, 0)", "parting(0, 11, 0)")
            .all(Edge.BAD, "parting(LEAST, 1, 0)", "parting(0, MOST, 0)", "parting(11, 1, MOST)");
        // each asking goes by the texts as they are, not by an earlier one
        new Edge("n7", "", "n1").due("parting(0, 1, 1)", 17).due("parting(2, 1, 1)", Edge.NONE)
            .due("parting(2, 1, 0)", 1)
            .due("parting(0, 1, 1)", 17).due("wipe(0)", 2).due("parting(0, 1, 1)", Edge.NONE)
            .due("parting(0, 1, 0)", Edge.NONE);
    }

    private static void few(String text, int due) {
        new Edge(text).due("fewest(0, 0)", due).due("fewest(0, 1)", due);
    }

    private static void fewest() {
        Sentences.says(18, "FEWEST MOMENTS to a SCORE of a side; NONE. BAD.");
        new Edge("n8;n9").text(10, "n8").due("fewest(0, 0)", Edge.NONE).due("fewest(0, 1)", Edge.NONE)
            .due("fewest(1, 0)", 3)
            .due("fewest(10, 1)", 4).due("fewest(1, 1)", 3).still("fewest(10, 0)", 4)
            .all(Edge.BAD, "fewest(-1, 0)", "fewest(11, 0)", "fewest(0, -1)", "fewest(0, 2)", "fewest(11, 2)")
            .all(Edge.BAD, "fewest(LEAST, 0)", "fewest(MOST, 0)", "fewest(0, LEAST)", "fewest(0, MOST)");
        Sentences.says(18, "20 at most; NONE: none of these");
        few(EIGHTEEN, 18);
        few(EIGHTEEN.replace(";g4=1", ""), Edge.NONE);
        few("n4;n0;n2;n1", Edge.NONE);
    }

    private static void fewestOfCodes() {
        Sentences.says(18, "FEWEST MOMENTS to a SCORE of POINTS above 0 of a side under a CODE, from the beginning on");
        few("", 3);
        few("g8=0", 4);
        few("g8=9", 3);
        few("g8=0;g9=0", Edge.NONE);
        few("g8=0;g9=0;g4=1", 4);
        few("n8;n9;g4=1", 4);
        few("n9;g8=0", Edge.NONE);
        Sentences.says(18, "by ITEMS 0 to 14 alone, too (both sides do what they can for it)");
        few("t1", 3);
        few("t2;e1", 3);
        // where no take is let, the other side's is stopped; where none is stopped, nothing is gained
        few("n1", 3);
        few("n1;n4", 4);
        few("a2", 3);
        few("a2;n1", 3);
        few("a2;n4", 4);
        few("a2;n4;n0", 5);
        few("a2;n8;n0;n6;n2", 4);
        // from the beginning on: where an earlier search has been does not count
        Edge x = new Edge("", "n4;n0;n2;n1", "n3", "n4;n0;n2;n1;n8");
        for (int turn = 0; turn < 3; turn++) {
            x.due("fewest(0, 0)", 3).due("fewest(1, 0)", Edge.NONE).due("fewest(1, 1)", Edge.NONE).due("parts(0, 2)", 3)
                .due("fewest(1, 1)", Edge.NONE);
        }
    }

    private static void write() {
        Sentences.says(41, "MOMENTS of the PARTING of two CODES come to a SHEET from item 0 on, as many as there are items:"
            + " how many. BAD; NULL.");
        int[] due = {1, 4, 4, 4, 0, 12};
        for (int size = 0; size <= 8; size++) {
            int type = size % 3;
            Edge x = new Edge(RUNS_ALONE, RUNS_ALONE + ";n20-0").due("sheet(0, " + type + ", " + size + ")", size);
            for (int i = 0; i < size; i++) {
                x.due("lay(0, " + type + ", " + i + ", -9)", 1);
            }
            x.due("write(0, 1, 0)", Math.min(6, size));
            for (int i = 0; i < size; i++) {
                x.due("get(0, " + type + ", " + i + ")", i < 6 ? due[i] : -9);
            }
            x.due("lose(0)", size);
        }
        // no parting: nothing comes
        new Edge("e1").row(3, 1, -9, -9).due("write(0, 1, 3)", 0).due("write(0, 0, 3)", 0).due("get(3, 1, 0)", -9)
            .due("get(3, 1, 1)", -9).due("sheet(3, 1, 60)", 60).due("write(10, 0, 3)", 0);
        new Edge().text(10, "a1").row(2, 0, -9, -9).due("write(10, 0, 2)", 1).due("get(2, 0, 0)", 21)
            .due("get(2, 0, 1)", -9);
        new Edge(RUNS_ALONE + ";n50-0", RUNS_ALONE).row(0, 0, -9).due("write(0, 1, 0)", 0).due("get(0, 0, 0)", -9);
    }

    private static void writeRefusals() {
        Sentences.says(41, "Refusals, the first that fits, in the order told at each act");
        new Edge("n1").row(0, 0, 5, 5).row(2, 0, 1).due("lose(2)", 1)
            .all(Edge.BAD, "write(-1, 1, 0)", "write(11, 1, 0)", "write(0, -1, 0)", "write(0, 11, 0)", "write(0, 1, -1)")
            .all(Edge.BAD, "write(0, 1, 4)", "write(LEAST, 1, 0)", "write(0, MOST, 0)", "write(0, 1, LEAST)")
            .all(Edge.BAD, "write(0, 1, MOST)", "write(-1, 1, 1)", "write(0, 11, 1)", "write(11, 11, 2)")
            .all(Edge.NULL, "write(0, 1, 1)", "write(0, 1, 2)", "write(0, 0, 3)").due("count(8)", 1)
            .due("write(0, 1, 0)", 1).due("get(0, 0, 0)", 1).due("get(0, 0, 1)", 5);
    }
}
