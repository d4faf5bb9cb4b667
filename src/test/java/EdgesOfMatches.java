import java.util.Arrays;

/** Promises 8, 9 and 11 to 15 at their edges: match, verdicts, goes, turned, found, fits, fitting. */
final class EdgesOfMatches {
    private EdgesOfMatches() {
    }

    static void run() {
        match();
        matchOfSheets();
        matchRefusals();
        fullMatches();
        unseenMoments();
        verdicts();
        verdictsOfSheets();
        goes();
        goesAtTheEnd();
        turned();
        found();
        foundTill();
        foundByNoParts();
        fits();
        fitsTillTheEnd();
        fitting();
    }

    /** The first moments of a row that goes round: take, run, over, unseen. */
    private static int[] round(int n) {
        int[] moments = new int[n];
        for (int i = 0; i < n; i++) {
            moments[i] = new int[] {1, 4, 8, 99}[i % 4];
        }
        return moments;
    }

    private static void match() {
        Sentences.says(8, "A MATCH more: the first n (0 to 40) items of a SHEET: its number.");
        Edge x = new Edge().row(0, 0, round(60)).due("match(0, 0)", 0).due("match(0, 40)", 1).due("match(0, 1)", 2)
            .due("match(0, 39)", 3).due("played(0, 0, 0, 0, 5)", 0).due("played(1, 0, 0, 0, 5)", 40)
            .due("played(1, 0, 0, 0, 0)", 10).due("played(2, 0, 0, 0, 5)", 1).due("played(3, 0, 0, 0, 5)", 39)
            .due("count(0)", 4);
        x.all(Edge.BAD, "match(0, -1)", "match(0, 41)", "match(0, 60)", "match(0, LEAST)", "match(0, MOST)")
            .due("match(0, 2)", 4).due("count(0)", 5);
        Edge y = new Edge().row(3, 1, 1).due("match(3, 1)", 0)
            .all(Edge.BAD, "match(-1, 0)", "match(4, 0)", "match(LEAST, 0)", "match(MOST, 0)");
        y.due("lose(3)", 1);
        for (int s = 0; s < 4; s++) {
            new Edge().row(s, 0, 1).due("match(" + s + ", 1)", 0).due("goes(0, 0, 0)", 1);
        }
    }

    private static void matchOfSheets() {
        Sentences.says(8, "A MATCH more: the first n (0 to 40) items of a SHEET: its number. BAD; NULL; INDEX: fewer; FULL.");
        new Edge().row(0, 2, 1, 4, 8).due("match(0, 3)", 0).due("match(0, 2)", 1).due("match(0, 4)", Edge.INDEX)
            .due("count(8)", 2).due("match(0, 40)", Edge.INDEX).due("match(0, 0)", 2);
        new Edge().row(0, 1).due("match(0, 0)", 0).due("match(0, 1)", Edge.INDEX);
        new Edge().due("sheet(0, 0, 39)", 39).due("match(0, 40)", Edge.INDEX).due("match(0, 39)", 0)
            .due("sheet(0, 0, 40)", 40).due("match(0, 40)", 1);
        // the match has the items as they were
        new Edge().row(0, 0, 1, 4, 8).due("match(0, 3)", 0).due("lay(0, 0, 0, 99)", 1).due("goes(0, 0, 0)", 1)
            .due("sheet(0, 2, 0)", 0).due("played(0, 0, 0, 0, 0)", 1).due("lose(0)", 0).due("played(0, 0, 0, 0, 0)", 1);
        // all types of sheets alike
        for (int type = 0; type < 3; type++) {
            new Edge().row(0, type, 1, 39, 0, -1).due("match(0, 4)", 0).due("goes(0, 0, 0)", 1)
                .due("goes(0, 0, 1)", 0).due("goes(0, 0, 2)", 1).due("goes(0, 0, 3)", 3);
        }
    }

    private static void matchRefusals() {
        Sentences.says(8, "Refusals, the first that fits, in the order told at each act");
        Edge x = new Edge().row(0, 0, 1, 4, 8).row(2, 0, 1).due("lose(2)", 1)
            .all(Edge.BAD, "match(1, 41)", "match(1, -1)", "match(2, 41)", "match(0, 41)", "match(4, 4)", "match(-1, 4)")
            .all(Edge.NULL, "match(1, 0)", "match(1, 1)", "match(1, 40)", "match(2, 1)", "match(2, 2)");
        for (int i = 0; i < 12; i++) {
            x.due("match(0, " + i % 4 + ")", i);
        }
        x.all(Edge.BAD, "match(0, -1)", "match(0, 41)", "match(4, 0)", "match(-1, 0)", "match(1, 41)", "match(1, -1)")
            .all(Edge.NULL, "match(1, 0)", "match(1, 4)", "match(2, 40)")
            .all(Edge.INDEX, "match(0, 4)", "match(0, 40)")
            .all(Edge.FULL, "match(0, 3)", "match(0, 0)");
    }

    private static void fullMatches() {
        Sentences.says(8, "MATCHES 0 .. 11 (12 at most): up to 40 MOMENTS");
        Edge x = new Edge().row(0, 0, round(40));
        for (int i = 0; i < 12; i++) {
            x.due("match(0, 40)", i).due("count(0)", i + 1);
        }
        x.due("match(0, 40)", Edge.FULL).due("match(0, 0)", Edge.FULL).due("count(0)", 12).due("count(8)", 0)
            .due("played(11, 0, 0, 0, 0)", 10).due("played(0, 0, 0, 0, 0)", 10).due("played(12, 0, 0, 0, 0)", Edge.BAD)
            .due("goes(11, 0, 39)", 3).due("goes(11, 0, 38)", 1).due("goes(11, 0, 40)", Edge.BAD);
    }

    private static void unseenMoments() {
        Sentences.says(8, "(others than 0 to 39: UNSEEN; nothing is known to happen)");
        int[] values = {-1, 40, 41, 100, -128, 127, Integer.MIN_VALUE, Integer.MAX_VALUE, 256 + 1, 65536 + 1, -256 + 1};
        for (int value : values) {
            new Edge().row(0, 2, 1, value, 4).due("match(0, 3)", 0).due("goes(0, 0, 1)", 3)
                .due("played(0, 0, 0, 0, 2)", 2).due("played(0, 0, 0, 0, 3)", 0).due("played(0, 0, 0, 0, 5)", 3)
                .due("played(0, 0, 0, 0, 7)", 4);
        }
        // a byte of 256 + 1 is 1; one of 200 is below 0
        new Edge().row(0, 0, 257, 200, 4).due("match(0, 3)", 0).due("goes(0, 0, 0)", 1).due("goes(0, 0, 1)", 3);
        for (int moment = 0; moment < 40; moment++) {
            new Edge().match(moment).due("goes(0, 0, 0)", moment % 10 == 1 ? 1 : 0);
        }
    }

    private static void verdicts() {
        Sentences.says(9, "VERDICTS of a MATCH: the first items of a SHEET (those behind its end: not seen): 1. BAD; NULL.");
        Edge x = new Edge("n2", "").row(0, 0, 1, 2).due("match(0, 2)", 0).due("match(0, 1)", 1).row(1, 0, 1, 1)
            .row(3, 0, 0)
            .all(Edge.BAD, "verdicts(-1, 1)", "verdicts(2, 1)", "verdicts(11, 1)", "verdicts(LEAST, 1)")
            .all(Edge.BAD, "verdicts(MOST, 1)", "verdicts(0, -1)", "verdicts(0, 4)", "verdicts(0, LEAST)")
            .all(Edge.BAD, "verdicts(0, MOST)", "verdicts(2, 2)", "verdicts(-1, 2)", "verdicts(12, 2)")
            .due("verdicts(0, 2)", Edge.NULL).due("count(8)", 1).due("verdicts(1, 2)", Edge.NULL).due("count(1)", 0)
            .due("fits(0, 0)", Edge.NOT).due("verdicts(0, 1)", 1).due("count(1)", 1).due("fits(0, 0)", 0)
            .due("fits(1, 0)", 1).due("fits(1, 1)", Edge.NOT).due("verdicts(1, 3)", 1).due("count(1)", 2)
            .due("fits(1, 1)", 0);
        x.due("verdicts(0, 2)", Edge.NULL).due("fits(1, 0)", 1);
        for (int s = 0; s < 4; s++) {
            new Edge("n1").match(1).row(s, 0, 1).due("verdicts(0, " + s + ")", 1).due("fits(0, 0)", 0);
        }
        Edge full = new Edge("n1").row(0, 0, 1);
        for (int i = 0; i < 12; i++) {
            full.due("match(0, 1)", i);
        }
        full.due("verdicts(11, 0)", 1).due("verdicts(12, 0)", Edge.BAD).due("count(1)", 1).due("fits(0, 11)", 0)
            .due("verdicts(0, 0)", 1).due("verdicts(0, 0)", 1).due("count(1)", 2);
    }

    private static void verdictsOfSheets() {
        Sentences.says(9, "(those behind its end: not seen)");
        new Edge("n2", "").match(1, 2).verdicts(0, 1, 1).due("fits(0, 0)", 0).verdicts(0, 1).due("fits(0, 0)", 1)
            .due("found(2, 3)", 0).due("found(1, 3)", 1).verdicts(0).due("fits(0, 0)", 1).due("found(1, 3)", 0)
            .due("count(1)", 1);
        // more items than moments: the others tell nothing
        new Edge("n2", "").match(1).verdicts(0, 1, 0, 0).due("fits(1, 0)", 1).due("found(1, 3)", 1)
            .due("found(2, 3)", 0);
        int[] sixty = new int[60];
        Arrays.fill(sixty, 1);
        new Edge("n1").row(0, 0, round(40)).due("match(0, 40)", 0).row(1, 1, sixty).due("verdicts(0, 1)", 1)
            .due("fits(1, 0)", 1).due("fits(0, 0)", 0);
        // the 40th has its verdict as well: a run, all before it being empty
        int[] late = new int[40];
        late[38] = 1;
        late[39] = 4;
        int[] told = new int[40];
        told[38] = 1;
        new Edge("n4", "").row(0, 0, late).due("match(0, 40)", 0).row(1, 0, told).due("verdicts(0, 1)", 1)
            .due("fits(0, 0)", 1).due("fits(1, 0)", 0).due("found(4, 3)", 2)
            .due("lay(1, 0, 39, 1)", 1).due("fits(0, 0)", 1).due("verdicts(0, 1)", 1).due("fits(0, 0)", 0)
            .due("fits(1, 0)", 1).due("found(4, 3)", 1).due("lose(1)", 40).due("found(4, 3)", 1);
        Sentences.says(9, "of each MOMENT LET (1), STOPPED (0), or not seen (others)");
        int[] others = {-1, 2, 3, -2, 256, 257, 65536, 65537, Integer.MIN_VALUE, Integer.MAX_VALUE};
        for (int other : others) {
            new Edge("n1", "").match(1).verdicts(0, other).due("fits(0, 0)", 1).due("fits(1, 0)", 1)
                .due("found(1, 3)", 0)
                .due("count(1)", 1);
        }
        new Edge("n1", "").match(1).verdicts(0, 1).due("fits(0, 0)", 0).due("fits(1, 0)", 1).due("found(1, 3)", 1);
        new Edge("n1", "").match(1).verdicts(0, 0).due("fits(0, 0)", 1).due("fits(1, 0)", 0).due("found(1, 3)", 2);
        // a byte of 257 is 1
        new Edge("n1").match(1).row(0, 0, 257).due("verdicts(0, 0)", 1).due("fits(0, 0)", 0);
    }

    private static void goes() {
        Sentences.says(11, "How MOMENT i of a MATCH goes under a CODE: 0 EMPTY, 1 LET, 2 STOPPED, 3 UNSEEN,"
            + " 4 it is behind the end. BAD.");
        new Edge("n4;t4").match(0, 1, 4, 40, 8).due("goes(0, 0, 0)", 0).due("goes(0, 0, 1)", 1).due("goes(0, 0, 2)", 2)
            .due("goes(0, 0, 3)", 3).due("goes(0, 0, 4)", 4).still("goes(0, 0, 2)", 2).due("goes(0, 10, 2)", 1)
            .all(Edge.BAD, "goes(0, 0, -1)", "goes(0, 0, 5)", "goes(0, 0, 40)", "goes(0, 0, LEAST)", "goes(0, 0, MOST)")
            .all(Edge.BAD, "goes(-1, 0, 0)", "goes(1, 0, 0)", "goes(0, -1, 0)", "goes(0, 11, 0)", "goes(LEAST, 0, 0)")
            .all(Edge.BAD, "goes(MOST, 0, 0)", "goes(0, LEAST, 0)", "goes(0, MOST, 0)");
        new Edge().match().all(Edge.BAD, "goes(0, 0, 0)", "goes(0, 0, -1)", "goes(0, 0, 1)");
        new Edge().match(1).due("goes(0, 0, 0)", 1).due("goes(0, 0, 1)", Edge.BAD);
        new Edge().row(0, 0, round(40)).due("match(0, 40)", 0).due("goes(0, 0, 39)", 3).due("goes(0, 0, 0)", 1)
            .due("goes(0, 0, 40)", Edge.BAD);
        // the sheet was longer, the match is not
        new Edge().row(0, 0, 1, 4, 8).due("match(0, 2)", 0).due("goes(0, 0, 1)", 1).due("goes(0, 0, 2)", Edge.BAD);
    }

    private static void goesAtTheEnd() {
        Sentences.says(11, "t and a number (one or two figures, 1 and more): it ends behind so many MOMENTS.");
        for (int t = 1; t <= 4; t++) {
            Edge x = new Edge("t" + t).match(1, 0, 99, 11);
            int[] due = {1, 1, 3, 1};
            for (int i = 0; i < 4; i++) {
                x.due("goes(0, 0, " + i + ")", i < t ? due[i] : 4);
            }
        }
        new Edge("t39", "t40").row(0, 0, round(40)).due("match(0, 40)", 0).due("goes(0, 0, 38)", 1)
            .due("goes(0, 0, 39)", 4).due("goes(0, 1, 39)", 3);
        Sentences.says(11, "e and a number (one or two figures): the MATCH ends when a side has so many POINTS (0: never)");
        new Edge("e1", "e2", "e0", "e3").match(1, 4, 8, 1, 4, 8, 99).due("goes(0, 0, 2)", 1).due("goes(0, 0, 3)", 4)
            .due("goes(0, 0, 6)", 4).due("goes(0, 1, 3)", 1).due("goes(0, 1, 5)", 1).due("goes(0, 1, 6)", 4)
            .due("goes(0, 2, 6)", 3).due("goes(0, 3, 6)", 3);
    }

    private static void turned() {
        Sentences.says(12, "How many MATCHES have another WINNER under one CODE than under another. BAD.");
        new Edge().due("turned(0, 1)", 0).due("turned(0, 0)", 0).due("turned(10, 0)", 0)
            .all(Edge.BAD, "turned(-1, 0)", "turned(11, 0)", "turned(0, -1)", "turned(0, 11)", "turned(-1, -1)")
            .all(Edge.BAD, "turned(LEAST, 0)", "turned(MOST, 0)", "turned(0, LEAST)", "turned(0, MOST)");
        Edge x = new Edge("", "n8").text(10, "g8=0").row(0, 0, 1, 4, 8);
        for (int i = 0; i < 12; i++) {
            x.due("match(0, 3)", i).due("turned(0, 1)", i + 1).due("turned(10, 0)", i + 1);
        }
        x.still("turned(1, 0)", 12).due("turned(1, 10)", 0).due("turned(0, 0)", 0);
        Sentences.says(12, "WINNER: the side with more; NONE.");
        // none to a side, a side to none, a side to the other, the same side by another number
        String[] codes = {"", "g8=2", "g9=2", "g8=9;g9=3", "g8=3;g9=3"};
        int[][] turns = {{0, 1, 1, 1, 0}, {1, 0, 1, 0, 1}, {1, 1, 0, 1, 1}, {1, 0, 1, 0, 1}, {0, 1, 1, 1, 0}};
        Edge y = new Edge(codes).match(1, 4, 8, 11, 14, 14, 19);
        for (int a = 0; a < codes.length; a++) {
            for (int b = 0; b < codes.length; b++) {
                y.due("turned(" + a + ", " + b + ")", turns[a][b]);
            }
        }
        new Edge("", "n8").match().match(1, 4).match(99).due("turned(0, 1)", 0);
    }

    private static void found() {
        Sentences.says(13, "FOUND of an ACT and a CELL. BAD.");
        new Edge().due("found(0, 0)", 0).due("found(9, 6)", 0)
            .all(Edge.BAD, "found(-1, 0)", "found(10, 0)", "found(0, -1)", "found(0, 7)", "found(10, 7)")
            .all(Edge.BAD, "found(LEAST, 0)", "found(MOST, 0)", "found(0, LEAST)", "found(0, MOST)", "found(1, -1)");
        Sentences.says(13, "0 never seen, 1 always LET, 2 always STOPPED, 3 both");
        Edge x = new Edge().match(1, 4).match(1, 4).match(1).due("found(1, 3)", 0).verdicts(0, 1, 1)
            .due("found(1, 3)", 1)
            .due("found(4, 3)", 1).due("found(4, 4)", 0).verdicts(1, 1, 0).due("found(1, 3)", 1).due("found(4, 3)", 3)
            .verdicts(0, 0, 0).due("found(1, 3)", 3).due("found(4, 3)", 2).still("found(1, 3)", 3);
        x.verdicts(1, 0, 0).due("found(1, 3)", 2).due("found(4, 3)", 0);
        // within one match, too
        new Edge().match(1, 11, 1).verdicts(0, 1, 1, 0).due("found(1, 3)", 3);
        Sentences.says(13, "over all MATCHES, of MOMENTS not AHEAD");
        Edge twelve = new Edge().row(0, 0, 1, 2).row(1, 0, 1, 1).row(2, 0, 0);
        for (int i = 0; i < 12; i++) {
            twelve.due("match(0, 2)", i).due("verdicts(" + i + ", 1)", 1);
        }
        twelve.due("found(1, 3)", 1).due("verdicts(11, 2)", 1).due("found(1, 3)", 3).due("found(2, 3)", 1);
        new Edge().match(21, 22, 4).verdicts(0, 1, 1, 1).due("found(1, 3)", 0).due("found(2, 3)", 0)
            .due("found(4, 3)", 1);
        for (int ahead : new int[] {20, 22, 24, 28, 29}) {
            new Edge().match(1, 4, 4, ahead).verdicts(0, 1, 1, 1, 1).due("found(" + ahead % 10 + ", 5)", 0)
                .match(1, 4, 4, ahead - 20).verdicts(1, 1, 1, 1, 0).due("found(" + ahead % 10 + ", 5)", 2);
        }
        new Edge().match(31, 12).verdicts(0, 1, 0).due("found(1, 3)", 0).due("found(2, 3)", 2);
        new Edge().match(21, 14).verdicts(0, 0, 1).due("found(1, 3)", 0).due("found(4, 3)", 1);
        Sentences.says(13, "(counted from the side's own end)");
        new Edge().match(11, 14, 14, 14, 10).verdicts(0, 1, 1, 1, 1, 0).due("found(1, 3)", 1).due("found(4, 3)", 1)
            .due("found(4, 4)", 1).due("found(4, 5)", 1).due("found(0, 6)", 2).due("found(0, 0)", 0)
            .due("found(4, 2)", 0);
        new Edge().match(1, 4, 4, 4, 11, 12).verdicts(0, 1, 1, 1, 1, 1, 0).due("found(1, 0)", 1).due("found(2, 0)", 2)
            .due("found(1, 6)", 0).due("found(4, 5)", 1).due("found(4, 6)", 0);
    }

    private static void foundTill() {
        Sentences.says(13, "from its beginning each MOMENT that CAN be goes as its VERDICT says");
        // an empty one is not seen, whatever its verdict, and needs none
        new Edge().match(0, 1, 8, 2).verdicts(0, 1, 1, 5, 1).due("found(0, 3)", 0).due("found(1, 3)", 1)
            .due("found(8, 3)", 0).due("found(2, 3)", 1);
        // stopped, the ball is the other side's, on the ground
        new Edge().match(1, 2, 17, 0, 10).verdicts(0, 1, 1, 0, 1, 1).due("found(7, 3)", 2).due("found(0, 3)", 1);
        new Edge().match(1, 2, 4, 10).verdicts(0, 1, 0, 1, 1).due("found(2, 3)", 2).due("found(4, 3)", 0)
            .due("found(0, 3)", 1);
        Sentences.says(13, "till one that CAN be has none, or is UNSEEN itself");
        new Edge().match(1, 2, 4).verdicts(0, 1, 2, 1).due("found(1, 3)", 1).due("found(2, 3)", 0)
            .due("found(4, 3)", 0);
        new Edge().match(1, 4).verdicts(0, -1, 1).due("found(1, 3)", 0).due("found(4, 3)", 0);
        new Edge().match(1, 22, 4).verdicts(0, 1, 2, 1).due("found(4, 3)", 0);
        new Edge().match(1, 40, 4).verdicts(0, 1, 1, 1).due("found(1, 3)", 1).due("found(4, 3)", 0);
        new Edge().match(1, -1, 4).verdicts(0, 1, 2, 1).due("found(4, 3)", 0);
        new Edge().match(-1, 1).verdicts(0, 1, 1).due("found(1, 3)", 0);
        // 39 is no unseen one
        new Edge().match(1, 39, 4).verdicts(0, 1, 1, 1).due("found(4, 3)", 1);
        // behind its end there is nothing, and a match without moments tells nothing
        new Edge().match().verdicts(0, 1, 1).due("found(1, 3)", 0);
        new Edge().match(1).verdicts(0, 1, 1).due("found(0, 3)", 0).due("found(1, 3)", 1);
        Sentences.says(13, "up to 40 MOMENTS");
        int[] late = new int[40];
        late[38] = 1;
        late[39] = 12;
        Edge y = new Edge().row(0, 0, late).due("match(0, 40)", 0).due("lay(0, 0, 38, 11)", 1).due("match(0, 40)", 1);
        int[] told = new int[40];
        told[38] = 1;
        y.row(1, 0, told).due("verdicts(0, 1)", 1).due("verdicts(1, 1)", 1).due("found(1, 3)", 1).due("found(2, 3)", 2);
    }

    private static void foundByNoParts() {
        Sentences.says(13, "(POINTS as by no parts, so 1 for 8, 9, 0 for 4, k 0)");
        // behind an over and behind an under it is nobody's, in cell 3
        new Edge("g8=0;g9=0;k2;t1;e1;n1").match(1, 4, 8, 2, 11, 14, 14, 19, 12, 1)
            .verdicts(0, 1, 1, 1, 1, 1, 1, 1, 1, 1, 0).due("found(1, 3)", 3).due("found(2, 3)", 0).due("found(8, 4)", 1)
            .due("found(9, 5)", 1).due("found(1, 6)", 0).due("found(1, 0)", 0);
        // a run with hands into the last cell leaves it there in hands
        new Edge("g4=9").match(1, 2, 4, 4, 4, 6).verdicts(0, 1, 1, 1, 1, 1, 0).due("found(4, 5)", 1)
            .due("found(6, 6)", 2);
        new Edge().match(1, 4, 8, 1).verdicts(0, 1, 1, 0, 1).due("found(8, 4)", 2).due("found(1, 4)", 1)
            .due("found(1, 3)", 1);
        // texts, and whether they have ended, matter nothing
        new Edge("t1").match(1, 4).verdicts(0, 1, 1).due("found(4, 3)", 1).due("wipe(0)", 2).due("found(4, 3)", 1);
    }

    private static void fits() {
        Sentences.says(14, "Whether a CODE FITS a MATCH's VERDICTS: 1, 0. BAD; NOT: none were told.");
        Edge x = new Edge("n1").match(1).match(1).all(Edge.NOT, "fits(0, 0)", "fits(10, 0)", "fits(0, 1)")
            .verdicts(1, 1)
            .due("fits(0, 0)", Edge.NOT).due("fits(0, 1)", 0).due("fits(10, 1)", 1).still("fits(0, 1)", 0);
        x.all(Edge.BAD, "fits(-1, 1)", "fits(11, 1)", "fits(0, -1)", "fits(0, 2)", "fits(0, 12)", "fits(LEAST, 1)")
            .all(Edge.BAD, "fits(MOST, 1)", "fits(0, LEAST)", "fits(0, MOST)");
        Sentences.says(14, "Refusals, the first that fits, in the order told at each act");
        x.all(Edge.BAD, "fits(-1, 0)", "fits(11, 0)", "fits(MOST, 0)");
        // told, though none was seen; and of a match without moments
        new Edge("n1").match(1).verdicts(0).due("fits(0, 0)", 1).due("fits(1, 0)", 1);
        new Edge("n1").match().due("fits(0, 0)", Edge.NOT).verdicts(0, 0, 1).due("fits(0, 0)", 1);
    }

    private static void fitsTillTheEnd() {
        Sentences.says(14, "it LETS and STOPS as they say all MOMENTS till its end that have one"
            + " and are neither EMPTY then nor UNSEEN");
        // one wrong verdict, at each place of four
        for (int wrong = 0; wrong < 4; wrong++) {
            int[] told = {1, 0, 1, 1};
            told[wrong] = 1 - told[wrong];
            new Edge("n4").match(1, 4, 10, 3).verdicts(0, 1, 0, 1, 1).due("fits(0, 0)", 1)
                .verdicts(0, told[0], told[1], told[2], told[3]).due("fits(0, 0)", 0);
        }
        // till its end: the last before it counts, the first behind it does not
        new Edge("t1", "t2", "t3").match(1, 4, 4).verdicts(0, 1, 0, 1).due("fits(0, 0)", 1).due("fits(1, 0)", 0)
            .due("fits(2, 0)", 0).verdicts(0, 1, 1, 0).due("fits(0, 0)", 1).due("fits(1, 0)", 1).due("fits(2, 0)", 0);
        new Edge("e1", "e2").match(1, 4, 8, 1).verdicts(0, 1, 1, 1, 0).due("fits(0, 0)", 1).due("fits(1, 0)", 0)
            .verdicts(0, 1, 1, 0, 0).due("fits(0, 0)", 0).due("fits(1, 0)", 0);
        // empty then, and unseen, whatever is told
        for (int told = 0; told < 2; told++) {
            new Edge("").match(0, 1, 99, -1, 40).verdicts(0, told, 1, told, told, told).due("fits(0, 0)", 1);
            new Edge("n1").match(1, 4).verdicts(0, 0, told).due("fits(0, 0)", 1);
        }
        // one without a verdict does not end it, nor an unseen one
        new Edge("n2", "").match(1, 99, 2).verdicts(0, 7, 7, 1).due("fits(0, 0)", 0).due("fits(1, 0)", 1);
        // one that is ahead has its verdict, too
        new Edge("a1", "a0").match(21).verdicts(0, 0).due("fits(0, 0)", 1).due("fits(1, 0)", 0);
        // played under the code itself, not by custom: here points are 0
        new Edge("g8=0", "").match(1, 4, 8, 1, 9).verdicts(0, 1, 1, 1, 1, 0).due("fits(0, 0)", 0).due("fits(1, 0)", 1);
    }

    private static void fitting() {
        Sentences.says(15, "CODES that FIT all MATCHES whose VERDICTS were told, as bits (0 to 10).");
        new Edge().still("fitting()", 2047);
        new Edge("n1").text(10, "n1").match(1).due("fitting()", 2047).verdicts(0, 1).still("fitting()", 1022)
            .verdicts(0, 0).due("fitting()", 1025).verdicts(0, 5).due("fitting()", 2047);
        new Edge().text(10, "n1").match(1).verdicts(0, 0).due("fitting()", 1024);
        new Edge("n1").match(1).verdicts(0, 0).due("fitting()", 1);
        // all matches that were told, and no others
        new Edge("n1", "n4", "n1;n4").match(1, 4).match(11).match(1).verdicts(0, 1, 0).due("fitting()", 2)
            .verdicts(1, 0).due("fitting()", 0).verdicts(1, 1).due("fitting()", 2).due("count(1)", 2);
        Edge x = new Edge("n1").row(0, 0, 1).row(1, 0, 1).row(2, 0, 0);
        for (int i = 0; i < 12; i++) {
            x.due("match(0, 1)", i).due("verdicts(" + i + ", 1)", 1);
        }
        x.due("fitting()", 2046).due("verdicts(11, 2)", 1).due("fitting()", 0).due("verdicts(11, 1)", 1)
            .due("verdicts(0, 2)", 1).due("fitting()", 0);
    }
}
