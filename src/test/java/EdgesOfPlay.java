/** Promise 10 at its edges: played, and with it the field, the acts, scores and ends. */
final class EdgesOfPlay {
    private static final int LET = 1;
    private static final int STOPPED = 2;
    private static final int NOBODY = Balls.NOBODY;
    private static final int GROUND = Balls.GROUND;
    private static final int HANDS = Balls.HANDS;
    private static final int AIR = Balls.AIR;

    private EdgesOfPlay() {
    }

    static void run() {
        arguments();
        beginning();
        whatCanBe();
        kicksAndThrows();
        takesPicksCatchesAndHacks();
        runsAndBacks();
        scores();
        noPoints();
        whoBeginsAgain();
        stopped();
        cellsFromTheOwnEnd();
        ahead();
        endsByPoints();
        endsByMoments();
        countsOfPlay();
        winners();
        mixes();
    }

    private static void arguments() {
        Sentences.says(10, "Of a MATCH PLAYED under a MIX: 0, 1 POINTS of sides, 2 LET, 3 STOPPED, 4 HURT, 5 MOMENTS there"
            + " were, 6 WINNER, 7 the CELL of THE BALL at its end, 8 whose it is. BAD.");
        int[] due = {1, 2, 12, 1, 1, 15, 1, 3, 1};
        Edge x = new Edge("n2").match(1, 4, 8, 0, 99, 11, 14, 18, 11, 14, 18, 11, 7, 1, 2).match(1, 4);
        for (int what = 0; what < 9; what++) {
            x.still("played(0, 0, 0, 0, " + what + ")", due[what]);
        }
        x.due("played(1, 10, 10, 131071, 7)", 4).due("played(1, 10, 10, 131071, 8)", 0)
            .all(Edge.BAD, "played(0, 0, 0, 0, -1)", "played(0, 0, 0, 0, 9)", "played(0, 0, 0, 0, LEAST)")
            .all(Edge.BAD, "played(0, 0, 0, 0, MOST)", "played(0, 0, 0, -1, 0)", "played(0, 0, 0, 131072, 0)")
            .all(Edge.BAD, "played(0, 0, 0, LEAST, 0)", "played(0, 0, 0, MOST, 0)", "played(0, 0, -1, 0, 0)")
            .all(Edge.BAD, "played(0, 0, 11, 0, 0)", "played(0, 0, LEAST, 0, 0)", "played(0, 0, MOST, 0, 0)")
            .all(Edge.BAD, "played(0, -1, 0, 0, 0)", "played(0, 11, 0, 0, 0)", "played(0, LEAST, 0, 0, 0)")
            .all(Edge.BAD, "played(0, MOST, 0, 0, 0)", "played(-1, 0, 0, 0, 0)", "played(2, 0, 0, 0, 0)")
            .all(Edge.BAD, "played(LEAST, 0, 0, 0, 0)", "played(MOST, 0, 0, 0, 0)", "played(12, 0, 0, 0, 0)");
    }

    private static void beginning() {
        Sentences.says(10, "A MATCH begins with it in CELL 3, NOBODY's, on the GROUND.");
        int[] due = {0, 0, 0, 0, 0, 0, -1, 3, 2};
        Edge x = new Edge("e1;t1").match();
        for (int what = 0; what < 9; what++) {
            x.due("played(0, 0, 0, 0, " + what + ")", due[what]);
        }
        for (int act = 0; act < 10; act++) {
            new Edge().match(act).match(10 + act).due("goes(0, 0, 0)", act == 1 ? 1 : 0)
                .due("goes(1, 0, 0)", act == 1 ? 1 : 0);
        }
    }

    /** Which acts of a side can be with the ball at this place from its own end. */
    private static void can(int side, int place, int owner, int lies, String acts) {
        int[] row = Balls.to(owner, Balls.cell(side, place), lies);
        int n = row.length;
        Edge x = new Edge();
        for (int act = 0; act < 10; act++) {
            int moment = 10 * side + act;
            // the 12 matches of one object are too few for 20 moments
            x = act == 5 ? new Edge() : x;
            int at = 2 * (act % 5);
            int due = acts.indexOf('0' + act) >= 0 ? LET : 0;
            x.match(Balls.then(row, moment)).due("goes(" + at + ", 0, " + n + ")", due)
                .match(Balls.then(row, 20 + moment)).due("goes(" + (at + 1) + ", 0, " + n + ")", due);
        }
    }

    private static void whatCanBe() {
        Sentences.says(10, "ACTS of a side, and when they CAN be");
        String[] ownGround = {"024", "024", "024", "024", "0248", "02489", "0289"};
        String[] ownHands = {"456", "456", "456", "456", "4568", "4568", "568"};
        for (int side = 0; side < 2; side++) {
            for (int place = 0; place < 7; place++) {
                can(side, place, side, GROUND, ownGround[place]);
                can(side, place, side, HANDS, ownHands[place]);
                can(side, place, 1 - side, GROUND, "17");
                can(side, place, 1 - side, HANDS, "7");
                can(side, place, NOBODY, GROUND, "1");
                can(side, place, NOBODY, AIR, "13");
            }
        }
        Sentences.says(10, "It is EMPTY, if its ACT CANNOT be: nothing happens.");
        Balls.leaves("n46-6", Balls.to(0, 6, HANDS), 4, 0, 6, 0, HANDS);
        Balls.leaves("n4;n0", Balls.to(NOBODY, 3, GROUND), 0, 0, 3, NOBODY, GROUND);
        Balls.leaves("a2", new int[] {1}, 21, 0, 3, 0, GROUND);
        Balls.leaves("n8", new int[] {1}, 8, 0, 3, 0, GROUND);
        Balls.leaves("n3", new int[] {1, 2}, 13, 0, 3, 0, HANDS);
    }

    private static void kicksAndThrows() {
        Sentences.says(10, "(ON is toward the last CELL, as far as there are CELLS; likewise back.)");
        int[] twoOn = {2, 3, 4, 5, 6, 6, 6};
        int[] oneBack = {0, 0, 1, 2, 3, 4, 5};
        for (int side = 0; side < 2; side++) {
            for (int place = 0; place < 7; place++) {
                int cell = Balls.cell(side, place);
                int on = Balls.cell(side, twoOn[place]);
                int back = Balls.cell(side, oneBack[place]);
                Balls.leaves("", Balls.to(side, cell, GROUND), 10 * side, LET, on, NOBODY, AIR);
                Balls.leaves("", Balls.to(side, cell, HANDS), 10 * side + 6, LET, on, NOBODY, AIR);
                Balls.leaves("", Balls.to(side, cell, HANDS), 10 * side + 5, LET, back, NOBODY, AIR);
            }
        }
    }

    private static void takesPicksCatchesAndHacks() {
        Sentences.says(10, "1 TAKE: not its own, not in HANDS: its own, on the GROUND. 2 PICK: its own on the GROUND:"
            + " in HANDS. 3 CATCH: in the AIR: its own, in HANDS.");
        for (int side = 0; side < 2; side++) {
            for (int cell = 0; cell < 7; cell++) {
                Balls.leaves("", Balls.to(1 - side, cell, GROUND), 10 * side + 1, LET, cell, side, GROUND);
                Balls.leaves("", Balls.to(NOBODY, cell, GROUND), 10 * side + 1, LET, cell, side, GROUND);
                Balls.leaves("", Balls.to(NOBODY, cell, AIR), 10 * side + 1, LET, cell, side, GROUND);
                Balls.leaves("", Balls.to(side, cell, GROUND), 10 * side + 2, LET, cell, side, HANDS);
                Balls.leaves("", Balls.to(NOBODY, cell, AIR), 10 * side + 3, LET, cell, side, HANDS);
            }
        }
        Sentences.says(10, "7 HACK: the other side's: NOBODY's, on the GROUND.");
        for (int side = 0; side < 2; side++) {
            for (int cell = 0; cell < 7; cell++) {
                Balls.leaves("", Balls.to(1 - side, cell, GROUND), 10 * side + 7, LET, cell, NOBODY, GROUND);
                Balls.leaves("", Balls.to(1 - side, cell, HANDS), 10 * side + 7, LET, cell, NOBODY, GROUND);
            }
        }
    }

    private static void runsAndBacks() {
        Sentences.says(10, "4 RUN: its own, not beyond the last CELL: 1 CELL on.");
        for (int side = 0; side < 2; side++) {
            for (int place = 0; place < 6; place++) {
                int cell = Balls.cell(side, place);
                int on = Balls.cell(side, place + 1);
                Balls.leaves("", Balls.to(side, cell, GROUND), 10 * side + 4, LET, on, side, GROUND);
                Balls.leaves("", Balls.to(side, cell, HANDS), 10 * side + 4, LET, on, side, HANDS);
            }
            int last = Balls.cell(side, 6);
            Balls.leaves("", Balls.to(side, last, GROUND), 10 * side + 4, 0, last, side, GROUND);
            Balls.leaves("g4=5", Balls.to(side, last, GROUND), 10 * side + 4, 0, last, side, GROUND);
            Balls.leaves("", Balls.to(side, last, HANDS), 10 * side + 4, 0, last, side, HANDS);
        }
    }

    /** The points of both sides behind a row and a moment under a text. */
    private static void points(String text, int[] row, int moment, int of0, int of1) {
        new Edge(text).match(Balls.then(row, moment)).due("played(0, 0, 0, 0, 0)", of0)
            .due("played(0, 0, 0, 0, 1)", of1);
    }

    private static void scores() {
        Sentences.says(10, "8, 9, and a RUN with HANDS into the last CELL, that are LET, SCORE as many POINTS as the CODE says.");
        for (int side = 0; side < 2; side++) {
            for (int place = 0; place < 7; place++) {
                for (int lies = GROUND; lies <= HANDS; lies++) {
                    int[] row = Balls.to(side, Balls.cell(side, place), lies);
                    int over = place >= 4 ? 7 : 0;
                    int under = place >= 5 && lies == GROUND ? 9 : 0;
                    int run = place == 5 && lies == HANDS ? 3 : 0;
                    String text = "g4=3;g8=7;g9=9";
                    points(text, row, 10 * side + 8, side == 0 ? over : 0, side == 1 ? over : 0);
                    points(text, row, 10 * side + 9, side == 0 ? under : 0, side == 1 ? under : 0);
                    points(text, row, 10 * side + 4, side == 0 ? run : 0, side == 1 ? run : 0);
                }
            }
        }
        points("n8", Balls.to(0, 5, GROUND), 8, 0, 0);
        points("n9", Balls.to(0, 5, GROUND), 9, 0, 0);
        points("n45-5;g4=1", new int[] {1, 2, 4, 4}, 4, 0, 0);
        points("", new int[] {1, 2, 4, 4}, 4, 0, 0);
        points("g4=1", new int[] {1, 2, 4, 4}, 4, 1, 0);
        points("g8=1;g4=1", new int[] {1, 4, 8, 1, 2, 4, 4}, 4, 2, 0);
    }

    private static void noPoints() {
        Sentences.says(10, "If it is 0: by 8, 9 it lies in the last CELL, NOBODY's, on the GROUND; by a RUN it is as that"
            + " leaves it.");
        for (int side = 0; side < 2; side++) {
            int last = Balls.cell(side, 6);
            for (int k = 0; k < 3; k++) {
                for (int place = 4; place < 7; place++) {
                    int cell = Balls.cell(side, place);
                    Balls.leaves("g8=0;k" + k, Balls.to(side, cell, GROUND), 10 * side + 8, LET, last, NOBODY, GROUND);
                    Balls.leaves("g8=0;k" + k, Balls.to(side, cell, HANDS), 10 * side + 8, LET, last, NOBODY, GROUND);
                    if (place > 4) {
                        Balls.leaves("g9=0;k" + k, Balls.to(side, cell, GROUND), 10 * side + 9, LET, last, NOBODY, GROUND);
                    }
                }
                Balls.leaves("g4=0;k" + k, Balls.to(side, Balls.cell(side, 5), HANDS), 10 * side + 4, LET, last, side, HANDS);
                Balls.leaves("g4=1;k" + k, Balls.to(side, Balls.cell(side, 5), GROUND), 10 * side + 4, LET, last, side, GROUND);
                Balls.leaves("g4=1;k" + k, Balls.to(side, Balls.cell(side, 4), HANDS), 10 * side + 4, LET,
                    Balls.cell(side, 5), side, HANDS);
            }
        }
    }

    private static void whoBeginsAgain() {
        Sentences.says(10, "If that is above 0, THE BALL is in CELL 3 again, on the GROUND, and whose it is the CODE says.");
        for (int side = 0; side < 2; side++) {
            int[] owners = {NOBODY, 1 - side, side};
            for (int k = 0; k < 3; k++) {
                for (int lies = GROUND; lies <= HANDS; lies++) {
                    int[] row = Balls.to(side, Balls.cell(side, 6), lies);
                    Balls.leaves("k" + k, row, 10 * side + 8, LET, 3, owners[k], GROUND);
                    Balls.leaves("g8=9;k" + k, row, 10 * side + 8, LET, 3, owners[k], GROUND);
                }
                Balls.leaves("k" + k, Balls.to(side, Balls.cell(side, 5), GROUND), 10 * side + 9, LET, 3, owners[k], GROUND);
                Balls.leaves("g4=1;k" + k, Balls.to(side, Balls.cell(side, 5), HANDS), 10 * side + 4, LET, 3, owners[k], GROUND);
            }
        }
    }

    private static void stopped() {
        Sentences.says(10, "STOPPED: THE BALL becomes the other side's, on the GROUND, in its CELL.");
        // of each act: whose the ball is before it (0 the side's own, 1 the other's, 2 nobody's), and how it lies
        int[][] before = {{0, GROUND}, {2, AIR}, {0, GROUND}, {2, AIR}, {0, HANDS}, {0, HANDS}, {0, HANDS}, {1, HANDS},
            {0, HANDS}, {0, GROUND}};
        for (int side = 0; side < 2; side++) {
            for (int act = 0; act < 10; act++) {
                int place = 5;
                int cell = Balls.cell(side, place);
                int owner = before[act][0] == 2 ? NOBODY : before[act][0] == 0 ? side : 1 - side;
                int[] row = Balls.to(owner, cell, before[act][1]);
                // in this cell alone, so that the row before it is let; a row into hands needs the pick itself
                if (act != 2) {
                    Balls.leaves("n" + act + place + "-" + place + ";g4=1", row, 10 * side + act, STOPPED, cell, 1 - side, GROUND);
                }
            }
            Balls.leaves("n2", new int[] {10 * side + 1}, 10 * side + 2, STOPPED, 3, 1 - side, GROUND);
            Balls.leaves("n1", new int[] {}, 10 * side + 1, STOPPED, 3, 1 - side, GROUND);
        }
        Sentences.says(10, "HURT of a MATCH: how many HACKS were LET.");
        new Edge("n7", "", "n73-3").match(1, 17, 1, 2, 17, 11, 4, 7, 11, 7).due("played(0, 0, 0, 0, 4)", 0)
            .due("played(0, 1, 0, 0, 4)", 4).due("played(0, 2, 0, 0, 4)", 0).match(7, 17)
            .due("played(1, 1, 0, 0, 4)", 0);
    }

    private static void cellsFromTheOwnEnd() {
        Sentences.says(10, "counted from the side's own end: in these (all) it is LET, or not");
        for (int told = 0; told < 7; told++) {
            for (int place = 0; place < 7; place++) {
                for (int side = 0; side < 2; side++) {
                    int cell = Balls.cell(side, place);
                    int[] row = Balls.to(side, cell, GROUND);
                    Edge x = new Edge("n0" + told + "-" + told).match(Balls.then(row, 10 * side));
                    x.due("goes(0, 0, " + row.length + ")", told == place ? STOPPED : LET);
                    Edge y = new Edge("n0;y0" + told + "-" + told).match(Balls.then(row, 10 * side));
                    y.due("goes(0, 0, " + row.length + ")", told == place ? LET : STOPPED);
                }
            }
        }
    }

    private static void ahead() {
        Sentences.says(10, "a and a figure (0: one that is AHEAD matters nothing, 1: TAKE and CATCH by such a one are"
            + " STOPPED, 2: all ACTS by such a one)");
        int[][] before = {{0, GROUND}, {2, AIR}, {0, GROUND}, {2, AIR}, {0, HANDS}, {0, HANDS}, {0, HANDS}, {1, HANDS},
            {0, HANDS}, {0, GROUND}};
        for (int side = 0; side < 2; side++) {
            for (int act = 0; act < 10; act++) {
                int owner = before[act][0] == 2 ? NOBODY : before[act][0] == 0 ? side : 1 - side;
                int[] row = Balls.to(owner, Balls.cell(side, 5), before[act][1]);
                for (int a = 0; a < 3; a++) {
                    int due = a == 2 || a == 1 && (act == 1 || act == 3) ? STOPPED : LET;
                    new Edge("a" + a).match(Balls.then(row, 20 + 10 * side + act))
                        .match(Balls.then(row, 10 * side + act))
                        .due("goes(0, 0, " + row.length + ")", due).due("goes(1, 0, " + row.length + ")", LET);
                }
            }
        }
        Sentences.says(10, "A MOMENT is 20 AHEAD and 10 SIDE and ACT (0 to 39)");
        new Edge("a2").match(1, 20, 11, 30).due("goes(0, 0, 1)", STOPPED).due("goes(0, 0, 2)", 0)
            .due("goes(0, 0, 3)", STOPPED);
        new Edge("").match(11, 14, 14, 39, 40).due("goes(0, 0, 3)", LET).due("goes(0, 0, 4)", 3);
        // the ahead are stopped where the code lets the act, and let nowhere where it does not
        new Edge("a1;y1").match(21).due("goes(0, 0, 0)", STOPPED);
        new Edge("a0;n1").match(21).due("goes(0, 0, 0)", STOPPED);
    }

    /** The moments there were, and the points of both sides. */
    private static void ends(String text, int moments, int of0, int of1, int... row) {
        new Edge(text).match(row).due("played(0, 0, 0, 0, 5)", moments).due("played(0, 0, 0, 0, 0)", of0)
            .due("played(0, 0, 0, 0, 1)", of1);
    }

    private static void endsByPoints() {
        Sentences.says(10, "e and a number (one or two figures): the MATCH ends when a side has so many POINTS (0: never)");
        int[] three = {1, 4, 8, 1, 4, 8, 1, 4, 8, 2};
        ends("e0", 10, 3, 0, three);
        ends("e1", 3, 1, 0, three);
        ends("e2", 6, 2, 0, three);
        ends("e3", 9, 3, 0, three);
        ends("e4", 10, 3, 0, three);
        // so many or more: points may go beyond it
        ends("g8=3;e4", 6, 6, 0, three);
        ends("g8=3;e6", 6, 6, 0, three);
        ends("g8=3;e7", 9, 9, 0, three);
        ends("g8=9;e28", 10, 27, 0, three);
        ends("g8=9;e27", 9, 27, 0, three);
        // a side alone, not both together
        int[] both = {11, 14, 18, 1, 4, 8, 11, 14, 18, 2};
        ends("e2", 9, 1, 2, both);
        ends("e1", 3, 0, 1, both);
        ends("e3", 10, 1, 2, both);
    }

    private static void endsByMoments() {
        Sentences.says(10, "t and a number (one or two figures, 1 and more): it ends behind so many MOMENTS.");
        int[] row = {1, 4, 8, 0, 99, 1, 4, 8};
        int[] points = {0, 0, 0, 1, 1, 1, 1, 1, 2, 2};
        for (int t = 1; t <= 9; t++) {
            ends("t" + t, Math.min(t, 8), points[Math.min(t, 8)], 0, row);
        }
        ends("t8", 8, 2, 0, row);
        ends("", 8, 2, 0, row);
        int[] forty = new int[40];
        forty[0] = 1;
        ends("t39", 39, 0, 0, forty);
        ends("t40", 40, 0, 0, forty);
        ends("t41", 40, 0, 0, forty);
        ends("e1;t3", 3, 1, 0, row);
        ends("e1;t2", 2, 0, 0, row);
        ends("e2;t99", 8, 2, 0, row);
    }

    private static void countsOfPlay() {
        Sentences.says(10, "how many MOMENTS there were (with EMPTY and UNSEEN ones)");
        new Edge("n0").match(9, 9, -1, 40, 9).due("played(0, 0, 0, 0, 5)", 5).due("played(0, 0, 0, 0, 2)", 0)
            .due("played(0, 0, 0, 0, 3)", 0).match(1, 0, 0).due("played(1, 0, 0, 0, 2)", 1)
            .due("played(1, 0, 0, 0, 3)", 1)
            .due("played(1, 0, 0, 0, 5)", 3);
        // what is behind the end is not counted
        new Edge("t1", "t2").match(1, 17, 1).due("played(0, 0, 0, 0, 2)", 1).due("played(0, 0, 0, 0, 4)", 0)
            .due("played(0, 0, 0, 0, 8)", 0).due("played(0, 1, 1, 0, 2)", 2).due("played(0, 1, 1, 0, 4)", 1)
            .due("played(0, 1, 1, 0, 8)", 2);
    }

    private static void winners() {
        Sentences.says(10, "WINNER: the side with more; NONE.");
        new Edge("g8=2", "").match(1, 4, 8).match(11, 14, 18).match(1, 4, 8, 11, 14, 18).match(99)
            .match(1, 4, 8, 11, 14, 14, 19).due("played(0, 1, 1, 0, 6)", 0).due("played(1, 1, 1, 0, 6)", 1)
            .due("played(2, 1, 1, 0, 6)", Edge.NONE).due("played(3, 1, 1, 0, 6)", Edge.NONE)
            .due("played(4, 1, 1, 0, 6)", Edge.NONE).due("played(4, 0, 0, 0, 6)", 0)
            .due("played(2, 0, 0, 0, 6)", Edge.NONE);
    }

    private static void mixes() {
        Sentences.says(10, "A MIX of two CODES by a set of ITEMS (bits): these as in the second, the others as in the first.");
        int[][] rows = {{1, 0}, {1}, {1, 2}, {1, 0, 3}, {1, 4}, {1, 2, 5}, {1, 2, 6}, {1, 17}, {1, 4, 8}, {1, 4, 4, 9}};
        for (int act = 0; act < 10; act++) {
            int all = 131071;
            int bit = 1 << act;
            new Edge("", "n" + act).match(rows[act]).due("played(0, 0, 1, " + bit + ", 3)", 1)
                .due("played(0, 0, 1, " + (all - bit) + ", 3)", 0).due("played(0, 0, 1, 0, 3)", 0)
                .due("played(0, 0, 1, " + all + ", 3)", 1).due("played(0, 1, 0, " + bit + ", 3)", 0)
                .due("played(0, 1, 0, " + (all - bit) + ", 3)", 1).due("played(0, 1, 0, 0, 3)", 1)
                .due("played(0, 1, 0, " + all + ", 3)", 0);
        }
        mix("g4=5", 10, new int[] {1, 2, 4, 4, 4}, 0, 0, 5);
        mix("g8=5", 11, new int[] {1, 4, 8}, 0, 1, 5);
        mix("g9=5", 12, new int[] {1, 4, 4, 9}, 0, 1, 5);
        mix("a1", 13, new int[] {21}, 3, 0, 1);
        mix("k1", 14, new int[] {1, 4, 8}, 8, 2, 1);
        mix("e1", 15, new int[] {1, 4, 8, 1}, 5, 4, 3);
        mix("t1", 16, new int[] {1, 4, 8, 1}, 5, 4, 1);
    }

    /** One item of the second code is told, or all but it; code 0 is without parts. */
    private static void mix(String second, int item, int[] row, int what, int without, int with) {
        int bit = 1 << item;
        new Edge("", second).match(row).due("played(0, 0, 1, " + bit + ", " + what + ")", with)
            .due("played(0, 0, 1, " + (131071 - bit) + ", " + what + ")", without)
            .due("played(0, 0, 1, 0, " + what + ")", without).due("played(0, 0, 1, 131071, " + what + ")", with)
            .due("played(0, 1, 0, " + bit + ", " + what + ")", without).due("played(0, 1, 1, 0, " + what + ")", with);
    }
}
