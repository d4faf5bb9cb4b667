/** Promises 25 to 31 at their edges: member, rule, law, enact, motion, put, best. */
final class EdgesOfAssociation {
    private static final String ALL_ITEMS = "n0;n1;n2;n3;n4;n5;n6;n7;n8;n9;g4=1;g8=2;g9=2;a1;k1;e1;t1";
    private static final int ALL = 131071;

    private EdgesOfAssociation() {
    }

    static void run() {
        member();
        rule();
        quorum();
        law();
        enact();
        motion();
        votes();
        shares();
        quorums();
        leaving();
        put();
        putChanges();
        best();
        bestMostStay();
        bestFewestHurt();
        bestFewestAndLeast();
    }

    private static void member() {
        Sentences.says(25, "A CLUB is a MEMBER, or not: 1; 0: it is so already. BAD.");
        Edge x = new Edge().clubs(0, 2).due("member(0, false)", 0).due("member(0, true)", 1).due("member(0, true)", 0)
            .due("count(3)", 1).due("member(1, true)", 1).due("count(3)", 2).due("member(0, false)", 1)
            .due("member(0, false)", 0)
            .due("count(3)", 1).due("member(1, true)", 0);
        x.all(Edge.BAD, "member(-1, true)", "member(2, true)", "member(2, false)", "member(-1, false)", "member(12, true)")
            .all(Edge.BAD, "member(LEAST, true)", "member(MOST, true)", "member(MOST, false)");
        new Edge().all(Edge.BAD, "member(0, true)", "member(0, false)");
        Edge all = new Edge().clubs(0, 12).members(0, 12).due("count(3)", 12).due("member(11, true)", 0)
            .due("member(12, true)", Edge.BAD);
        all.due("member(11, false)", 1).due("count(3)", 11);
        // a club more is no member
        new Edge().clubs(0, 1).due("member(0, true)", 1).clubs(1, 2).due("count(3)", 1).due("member(1, false)", 0);
    }

    private static void rule() {
        Sentences.says(26, "A (what = 0), B (1), QUORUM (2): what it was. BAD (A above B, too).");
        Edge x = new Edge().due("rule(0, 3)", 2).all(Edge.BAD, "rule(0, 4)", "rule(1, 2)", "rule(0, 0)", "rule(1, 0)")
            .due("rule(1, 3)", 3).due("rule(1, 9)", 3).all(Edge.BAD, "rule(1, 10)", "rule(0, 10)").due("rule(0, 9)", 3)
            .all(Edge.BAD, "rule(1, 8)", "rule(0, 10)").due("rule(0, 1)", 9).due("rule(1, 1)", 9)
            .all(Edge.BAD, "rule(0, 2)", "rule(1, 0)", "rule(0, 0)", "rule(0, -1)", "rule(1, -1)").due("rule(1, 2)", 1)
            .due("rule(0, 2)", 1).all(Edge.BAD, "rule(0, 3)", "rule(1, 1)").due("count(5)", 2).due("count(6)", 2)
            .due("count(7)", 1);
        x.all(Edge.BAD, "rule(-1, 1)", "rule(3, 1)", "rule(LEAST, 1)", "rule(MOST, 1)", "rule(0, LEAST)", "rule(0, MOST)")
            .all(Edge.BAD, "rule(1, LEAST)", "rule(1, MOST)", "rule(2, LEAST)", "rule(2, MOST)");
    }

    private static void quorum() {
        Sentences.says(26, "QUORUM (0 to 12; 1 at first)");
        new Edge().due("rule(2, 0)", 1).due("rule(2, 12)", 0).due("rule(2, 12)", 12)
            .all(Edge.BAD, "rule(2, -1)", "rule(2, 13)")
            .due("rule(2, 5)", 12).due("count(7)", 5).due("count(5)", 2).due("count(6)", 3);
        Sentences.says(26, "(A, B told: 1 to 9 each, A not above B; 2, 3 at first)");
        for (int b = 1; b <= 10; b++) {
            for (int a = 0; a <= b + 1; a++) {
                if (b <= 9) {
                    Edge x = new Edge().due("rule(0, 1)", 2).due("rule(1, " + b + ")", 3);
                    x.due("rule(0, " + a + ")", a >= 1 && a <= b ? 1 : Edge.BAD);
                }
            }
        }
    }

    private static void law() {
        Sentences.says(27, "An ITEM of THE LAW. BAD.");
        new Edge(ALL_ITEMS).due("law(0)", 127).due("law(16)", 99).due("enact(0)", 1).due("law(0)", 0).due("law(16)", 1)
            .still("law(16)", 1).all(Edge.BAD, "law(-1)", "law(17)", "law(LEAST)", "law(MOST)");
        Sentences.says(27, "they do not change with a CODE's text");
        Edge x = new Edge("n0;t5").due("enact(0)", 1).due("wipe(0)", 5).text(0, "n1").due("law(0)", 0)
            .due("law(1)", 127)
            .due("law(16)", 5);
        x.due("wipe(0)", 2).due("law(0)", 0).due("law(16)", 5);
    }

    private static void enact() {
        Sentences.says(28, "THE LAW becomes a CODE, whole: 1. BAD.");
        int[] due = {0, 0, 0, 0, 0, 0, 0, 0, 0, 0, 1, 2, 2, 1, 1, 1, 1};
        Edge x = new Edge(ALL_ITEMS).due("enact(0)", 1);
        for (int item = 0; item < 17; item++) {
            x.due("law(" + item + ")", due[item]);
        }
        x.due("enact(10)", 1);
        for (int item = 0; item < 17; item++) {
            x.due("law(" + item + ")", Edge.WITHOUT_PARTS[item]);
        }
        new Edge("n0").text(10, "n1").due("enact(10)", 1).due("law(1)", 0).due("enact(10)", 1).due("law(0)", 127)
            .due("enact(0)", 1).due("law(0)", 0).due("law(1)", 127)
            .all(Edge.BAD, "enact(-1)", "enact(11)", "enact(LEAST)", "enact(MOST)");
        // by no votes, and nobody leaves by it; a code with a fault is as without parts
        new Edge("n0", "n0;").clubs(0, 1).due("member(0, true)", 1).due("change(0, 1, 1)", 0).due("enact(0)", 1)
            .due("enact(1)", 1).due("law(0)", 127).due("count(3)", 1);
    }

    private static void motion() {
        Sentences.says(29, "Of a MOTION: 0 for it, 1 against it, 2 whether it is CARRIED, 3 LEAVING (as bits). BAD.");
        Edge x = new Edge("e5").due("club(0, 0)", 0).due("club(1, 32768)", 1).due("club(0, 0)", 2).members(0, 3)
            .due("motion(15, 0, 0)", 2).due("motion(15, 0, 1)", 1).due("motion(15, 0, 2)", 1).due("motion(15, 0, 3)", 2)
            .due("motion(0, 0, 0)", 3).due("motion(16, 10, 0)", 3).due("motion(16, 10, 3)", 0);
        x.still("motion(15, 0, 2)", 1).still("motion(15, 0, 3)", 2)
            .all(Edge.BAD, "motion(15, 0, -1)", "motion(15, 0, 4)", "motion(15, -1, 0)", "motion(15, 11, 0)")
            .all(Edge.BAD, "motion(-1, 0, 0)", "motion(17, 0, 0)", "motion(LEAST, 0, 0)", "motion(MOST, 0, 0)")
            .all(Edge.BAD, "motion(0, LEAST, 0)", "motion(0, MOST, 0)", "motion(0, 0, LEAST)", "motion(0, 0, MOST)");
    }

    private static void votes() {
        Sentences.says(29, "For it are MEMBERS whose CODE has it so, against it those of the others whose CODE has it as THE LAW"
            + " has; the rest are silent.");
        // codes e5, e7, without: for, silent, against; the last club is no member
        Edge x = new Edge("e5", "e7").due("club(0, 0)", 0).due("club(1, 0)", 1).due("club(2, 0)", 2)
            .due("club(2, 0)", 3)
            .due("club(0, 0)", 4).members(0, 4).due("motion(15, 0, 0)", 1).due("motion(15, 0, 1)", 2)
            .due("motion(15, 1, 0)", 1)
            .due("motion(15, 1, 1)", 2);
        // a motion for what is the law already: nobody is against it
        x.due("motion(15, 2, 0)", 2).due("motion(15, 2, 1)", 0).due("motion(15, 2, 2)", 1).due("enact(1)", 1)
            .due("motion(15, 0, 0)", 1).due("motion(15, 0, 1)", 1).due("motion(15, 2, 0)", 2)
            .due("motion(15, 2, 1)", 1);
        Edge twelve = new Edge("n0").clubs(0, 12).members(0, 12).due("motion(0, 0, 0)", 12).due("motion(0, 0, 1)", 0)
            .due("motion(0, 1, 0)", 0).due("motion(0, 1, 1)", 0);
        twelve.due("enact(0)", 1).due("motion(0, 1, 0)", 0).due("motion(0, 1, 1)", 12);
        new Edge("n0").clubs(0, 2).due("motion(0, 0, 0)", 0).due("motion(0, 0, 1)", 0).due("motion(0, 0, 2)", 0)
            .due("motion(0, 0, 3)", 0);
    }

    /** So many members for a motion on item 0 and against it, with these rules: whether it is carried. */
    private static Edge vote(int yes, int no, int a, int b, int quorum) {
        Edge x = new Edge("n0");
        for (int i = 0; i < yes + no; i++) {
            x.due("club(" + (i < yes ? 0 : 1) + ", 0)", i).due("member(" + i + ", true)", 1);
        }
        return x.due("rule(0, 1)", 2).due("rule(1, " + b + ")", 3).due("rule(0, " + a + ")", 1)
            .due("rule(2, " + quorum + ")", 1);
    }

    private static void carried(int yes, int no, int a, int b, int quorum, int due) {
        vote(yes, no, a, b, quorum).due("motion(0, 0, 2)", due).due("put(0, 0)", due).due("law(0)", due == 1 ? 0 : 127);
    }

    private static void shares() {
        Sentences.says(29, "CARRIED, if those for it times B are at least A times all that are for or against");
        carried(2, 1, 2, 3, 1, 1);
        carried(3, 2, 2, 3, 1, 0);
        carried(4, 2, 2, 3, 1, 1);
        carried(7, 4, 2, 3, 1, 0);
        carried(8, 4, 2, 3, 1, 1);
        carried(1, 0, 1, 1, 1, 1);
        carried(11, 1, 1, 1, 1, 0);
        carried(12, 0, 9, 9, 1, 1);
        carried(11, 1, 9, 9, 1, 0);
        carried(1, 8, 1, 9, 1, 1);
        carried(1, 9, 1, 9, 1, 0);
        carried(1, 1, 1, 2, 1, 1);
        carried(1, 2, 1, 2, 1, 0);
        carried(0, 1, 1, 9, 1, 0);
        carried(8, 1, 8, 9, 1, 1);
        carried(7, 1, 8, 9, 1, 0);
    }

    private static void quorums() {
        Sentences.says(29, "and these are at least QUORUM (0 to 12; 1 at first)");
        carried(3, 0, 2, 3, 3, 1);
        carried(3, 0, 2, 3, 4, 0);
        carried(2, 1, 2, 3, 3, 1);
        carried(2, 1, 2, 3, 4, 0);
        carried(12, 0, 2, 3, 12, 1);
        carried(11, 0, 2, 3, 12, 0);
        carried(8, 4, 2, 3, 12, 1);
        carried(0, 0, 2, 3, 0, 1);
        carried(0, 0, 2, 3, 1, 0);
        carried(0, 0, 9, 9, 0, 1);
        carried(0, 1, 2, 3, 0, 0);
        // the silent do not count to it
        new Edge("n0", "n00-0").clubs(0, 1).due("club(1, 0)", 1).members(0, 2).due("rule(2, 2)", 1)
            .due("motion(0, 0, 2)", 0)
            .due("rule(2, 1)", 2).due("motion(0, 0, 2)", 1);
    }

    private static void leaving() {
        Sentences.says(29, "LEAVING: MEMBERS that HOLD the ITEM and whose CODE has it otherwise then.");
        // for and holding; against and holding; against, not holding; silent and holding; no member; holding another item
        Edge x = new Edge("n0", "", "n00-0").due("club(0, 1)", 0).due("club(1, 1)", 1).due("club(1, 0)", 2)
            .due("club(2, 131071)", 3)
            .members(0, 4).due("club(1, 1)", 4).due("club(1, 131070)", 5).due("member(5, true)", 1)
            .due("motion(0, 0, 3)", 10).due("motion(0, 1, 3)", 9).due("motion(0, 2, 3)", 3).due("motion(1, 0, 3)", 0);
        // whether it is carried or not; and of the law as it is, too
        x.due("motion(0, 0, 2)", 0).due("motion(0, 1, 2)", 1).due("law(0)", 127);
        Edge y = new Edge("t5");
        for (int i = 0; i < 12; i++) {
            y.due("club(1, 65536)", i).due("member(" + i + ", true)", 1);
        }
        y.due("motion(16, 0, 3)", 4095).due("motion(16, 1, 3)", 0).due("member(0, false)", 1)
            .due("motion(16, 0, 3)", 4094)
            .due("change(11, 1, 65535)", 65536).due("motion(16, 0, 3)", 2046);
    }

    private static void put() {
        Sentences.says(30, "A MOTION is put: CARRIED, THE LAW is so, and who LEAVES is no MEMBER any more: 1; 0: it is not. BAD.");
        Edge x = new Edge("n0;t5").due("club(0, 0)", 0).due("club(1, 1)", 1).due("club(0, 1)", 2).members(0, 3)
            .all(Edge.BAD, "put(-1, 0)", "put(17, 0)", "put(0, -1)", "put(0, 11)", "put(17, 11)", "put(LEAST, 0)")
            .all(Edge.BAD, "put(MOST, 0)", "put(0, LEAST)", "put(0, MOST)")
            .due("put(0, 0)", 1).due("law(0)", 0).due("law(16)", 99).due("count(3)", 2).due("member(1, false)", 0)
            .due("member(0, true)", 0).due("member(2, true)", 0).due("put(16, 0)", 1).due("law(16)", 5);
        // it may come again, when it is a member again
        x.due("member(1, true)", 1).due("count(3)", 3).due("put(0, 0)", 1).due("count(3)", 2).due("law(0)", 0);
        new Edge("n0").text(10, "n0").due("club(10, 0)", 0).due("member(0, true)", 1).due("put(0, 10)", 1)
            .due("law(0)", 0)
            .due("wipe(10)", 2).due("law(0)", 0);
    }

    private static void putChanges() {
        Sentences.says(30, "1; 0: it is not.");
        // not carried: nothing is so, and nobody leaves
        new Edge("n0").due("club(0, 0)", 0).due("club(1, 1)", 1).members(0, 2).still("put(0, 0)", 0).due("law(0)", 127)
            .due("count(3)", 2).due("member(1, true)", 0);
        new Edge("n0").still("put(0, 0)", 0).due("rule(2, 0)", 1).due("put(0, 0)", 1).due("law(0)", 0);
        // carried with nobody left: the one that is silent leaves
        new Edge("n0", "n00-0").due("club(1, 1)", 0).due("member(0, true)", 1).due("rule(2, 0)", 1).due("put(0, 0)", 1)
            .due("law(0)", 0).due("count(3)", 0).due("count(2)", 1);
        Sentences.says(30, "LEAVING: MEMBERS that HOLD the ITEM and whose CODE has it otherwise then.");
        Edge all = new Edge("n0", "n00-0").due("rule(2, 0)", 1);
        for (int i = 0; i < 12; i++) {
            all.due("club(1, 1)", i).due("member(" + i + ", true)", 1);
        }
        all.due("put(1, 0)", 1).due("count(3)", 12).due("put(0, 0)", 1).due("count(3)", 0).due("member(11, true)", 1);
        // as the law has it already: they leave who hold it otherwise
        new Edge("n0").due("club(0, 1)", 0).due("club(1, 0)", 1).members(0, 2).due("put(0, 1)", 1).due("law(0)", 127)
            .due("count(3)", 1).due("member(0, false)", 0);
    }

    private static void best() {
        Sentences.says(31, "BEST LINES of some ITEMS from a CODE (what = 0, as bits), how many stay (1), how many are HURT (2)."
            + " BAD: more than 9 ITEMS.");
        new Edge(ALL_ITEMS).due("best(0, 0, 0)", 0).due("best(0, 0, 1)", 0).due("best(0, 0, 2)", 0)
            .due("best(511, 0, 0)", 0)
            .due("best(130816, 0, 0)", 0).due("best(511, 10, 2)", 0).still("best(130816, 0, 1)", 0)
            .all(Edge.BAD, "best(1023, 0, 0)", "best(130944, 0, 0)", "best(131071, 0, 0)", "best(-1, 0, 0)")
            .all(Edge.BAD, "best(131072, 0, 0)", "best(131073, 0, 0)", "best(LEAST, 0, 0)", "best(MOST, 0, 0)")
            .all(Edge.BAD, "best(1, -1, 0)", "best(1, 11, 0)", "best(1, LEAST, 0)", "best(1, MOST, 0)", "best(1, 0, -1)")
            .all(Edge.BAD, "best(1, 0, 3)", "best(1, 0, LEAST)", "best(1, 0, MOST)", "best(1023, 11, 3)");
        Sentences.says(31, "of up to 9 ITEMS told (bits), those to be taken from a CODE instead of THE LAW");
        // all nine are wanted, the first nine and the last nine
        new Edge(ALL_ITEMS).due("club(0, 511)", 0).due("club(0, 130816)", 1).due("member(0, true)", 1)
            .due("best(511, 0, 0)", 511)
            .due("best(511, 0, 1)", 1).due("best(255, 0, 0)", 0).due("best(255, 0, 1)", 0).due("member(1, true)", 1)
            .due("member(0, false)", 1).due("best(130816, 0, 0)", 130816).due("best(130816, 0, 1)", 1)
            .still("best(130816, 0, 0)", 130816);
    }

    private static void bestMostStay() {
        Sentences.says(31, "with most MEMBERS that stay (who HOLD no ITEM that is then otherwise than in their CODE)");
        // one holds to kicks stopped, two to takes let
        Edge x = new Edge("n0;n1").due("club(0, 1)", 0).due("club(1, 2)", 1).due("club(1, 3)", 2).due("club(1, 0)", 3)
            .members(0, 3)
            .due("best(3, 0, 0)", 0).due("best(3, 0, 1)", 2).due("member(2, false)", 1).due("best(3, 0, 0)", 1)
            .due("best(3, 0, 1)", 2).due("best(2, 0, 0)", 0).due("best(2, 0, 1)", 1).due("member(3, true)", 1)
            .due("best(3, 0, 1)", 3);
        // an item that was not told counts as well
        x.due("change(1, 1, 6)", 2).due("enact(0)", 1).due("best(1, 2, 1)", 2).due("best(3, 2, 0)", 2)
            .due("best(3, 2, 1)", 3);
        Edge twelve = new Edge("n0").clubs(0, 12).members(0, 12);
        for (int i = 0; i < 12; i++) {
            twelve.due("change(" + i + ", 1, 1)", 0);
        }
        twelve.due("best(1, 0, 0)", 1).due("best(1, 0, 1)", 12).due("best(0, 0, 1)", 0).due("best(1, 1, 1)", 0);
    }

    private static void bestFewestHurt() {
        Sentences.says(31, "of like ones the fewest HURT in all MATCHES PLAYED under it");
        Edge x = new Edge("n7").match(1, 17).match(1, 17, 1, 17).match(99).due("best(0, 0, 2)", 3)
            .due("best(128, 0, 0)", 128)
            .due("best(128, 0, 2)", 0).due("best(127, 0, 2)", 3);
        // who stays comes first
        x.due("club(1, 128)", 0).due("best(128, 0, 2)", 0).due("member(0, true)", 1).due("best(128, 0, 0)", 0)
            .due("best(128, 0, 1)", 1).due("best(128, 0, 2)", 3).due("change(0, 0, 0)", 1).due("best(128, 0, 0)", 128)
            .due("best(128, 0, 1)", 1).due("best(128, 0, 2)", 0);
        // in all twelve, to the last moment, and not behind an end
        int[] hacks = new int[40];
        for (int i = 0; i < 40; i++) {
            hacks[i] = i % 2 == 0 ? 1 : 17;
        }
        Edge y = new Edge("t39").row(0, 0, hacks);
        for (int i = 0; i < 12; i++) {
            y.due("match(0, 40)", i);
        }
        y.due("best(0, 0, 2)", 240).due("best(65536, 0, 2)", 228).due("best(65536, 0, 0)", 65536);
    }

    private static void bestFewestAndLeast() {
        Sentences.says(31, "then the fewest ITEMS, then the least as bits");
        // no hurt by hacks stopped, or by kicks and picks stopped together
        new Edge("n0;n2;n7").match(1, 2, 17).match(11, 10, 13, 7).due("best(5, 0, 0)", 5).due("best(5, 0, 2)", 0)
            .due("best(133, 0, 0)", 128).due("best(0, 0, 2)", 2).due("best(1, 0, 2)", 1).due("best(4, 0, 2)", 1);
        // takes stopped, hacks stopped, or the end: one of them is enough, the least is taken
        new Edge("n1;n7;t1").match(1, 17).due("best(65666, 0, 0)", 2).due("best(65664, 0, 0)", 128)
            .due("best(65536, 0, 0)", 65536)
            .due("best(65666, 0, 2)", 0);
        // what changes nothing is not taken, nor what is alike
        new Edge("n3;e5").match(1, 17).due("best(32776, 0, 0)", 0).due("best(32776, 1, 0)", 0)
            .due("best(32776, 0, 2)", 1);
    }
}
