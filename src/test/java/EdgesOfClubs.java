/** Promises 19 to 24 at their edges: club, change, agree, gives, between, halves. */
final class EdgesOfClubs {
    private static final String ALL_ITEMS = "n0;n1;n2;n3;n4;n5;n6;n7;n8;n9;g4=1;g8=2;g9=2;a1;k1;e1;t1";
    private static final int ALL = 131071;

    private EdgesOfClubs() {
    }

    static void run() {
        club();
        fullClubs();
        change();
        agree();
        agreements();
        gives();
        givesItems();
        between();
        betweenItems();
        halves();
        halvesCut();
    }

    private static void club() {
        Sentences.says(19, "A CLUB more: its number. BAD; FULL.");
        new Edge().due("club(0, 0)", 0).due("club(10, 131071)", 1).due("count(2)", 2)
            .all(Edge.BAD, "club(-1, 0)", "club(11, 0)", "club(0, -1)", "club(0, 131072)", "club(11, 131072)")
            .all(Edge.BAD, "club(LEAST, 0)", "club(MOST, 0)", "club(0, LEAST)", "club(0, MOST)").due("count(2)", 2)
            .due("change(0, 0, 0)", 0).due("change(0, 1, 0)", 0).due("change(1, 0, 0)", 10).due("change(1, 1, 0)", ALL)
            .due("club(5, 3)", 2).due("change(2, 0, 0)", 5).due("change(2, 1, 0)", 3);
    }

    private static void fullClubs() {
        Sentences.says(19, "CLUBS 0 .. 11 (12 at most) have a CODE, and HOLD to ITEMS (bits 0 to 16).");
        Edge x = new Edge();
        for (int i = 0; i < 12; i++) {
            x.due("club(" + i % 11 + ", " + (ALL - i) + ")", i).due("count(2)", i + 1);
        }
        x.all(Edge.FULL, "club(0, 0)", "club(10, 131071)").due("count(2)", 12).due("count(8)", 0);
        Sentences.says(19, "Refusals, the first that fits, in the order told at each act");
        x.all(Edge.BAD, "club(-1, 0)", "club(11, 0)", "club(0, -1)", "club(0, 131072)");
        Sentences.says(19, "CLUBS 0 .. 11 (12 at most) have a CODE, and HOLD to ITEMS (bits 0 to 16).");
        x.due("change(11, 0, 4)", 0).due("change(11, 1, 4)", ALL - 11).due("change(12, 0, 4)", Edge.BAD);
    }

    private static void change() {
        Sentences.says(20, "A CLUB's CODE (what = 0), ITEMS it HOLDS (1): what they were. BAD.");
        new Edge().due("club(3, 5)", 0).due("club(4, 6)", 1).due("change(0, 0, 10)", 3).due("change(0, 0, 0)", 10)
            .due("change(0, 0, 0)", 0).due("change(0, 1, 131071)", 5).due("change(0, 1, 0)", ALL)
            .due("change(0, 1, 11)", 0)
            .all(Edge.BAD, "change(0, 0, 11)", "change(0, 0, -1)", "change(0, 0, 131071)", "change(0, 0, LEAST)")
            .all(Edge.BAD, "change(0, 0, MOST)", "change(0, 1, 131072)", "change(0, 1, -1)", "change(0, 1, LEAST)")
            .all(Edge.BAD, "change(0, 1, MOST)", "change(0, 2, 0)", "change(0, -1, 0)", "change(0, LEAST, 0)")
            .all(Edge.BAD, "change(0, MOST, 0)", "change(-1, 0, 0)", "change(2, 0, 0)", "change(2, 1, 0)", "change(12, 0, 0)")
            .all(Edge.BAD, "change(LEAST, 0, 0)", "change(MOST, 1, 0)", "change(2, 2, -1)")
            .due("change(0, 1, 0)", 11).due("change(0, 0, 7)", 0).due("change(1, 0, 0)", 4).due("change(1, 1, 0)", 6);
        new Edge().due("change(0, 0, 0)", Edge.BAD);
        // a member stays one, and its ways stay
        new Edge().clubs(0, 2).due("member(0, true)", 1).due("way(0, 1, 7)", 50).due("change(0, 0, 9)", 0)
            .due("count(3)", 1)
            .due("way(0, 1, 7)", 7);
    }

    private static void agree() {
        Sentences.says(21, "Whether two CLUBS AGREE: 1, 0. BAD: also one with itself.");
        new Edge("n0").due("club(0, 1)", 0).due("club(1, 1)", 1).due("club(1, 0)", 2).due("agree(0, 1)", 0)
            .due("agree(1, 0)", 0)
            .due("agree(0, 2)", 1).due("agree(2, 0)", 1).due("agree(1, 2)", 1).still("agree(0, 1)", 0)
            .all(Edge.BAD, "agree(0, 0)", "agree(1, 1)", "agree(2, 2)", "agree(-1, 0)", "agree(0, -1)", "agree(3, 0)")
            .all(Edge.BAD, "agree(0, 3)", "agree(3, 3)", "agree(-1, -1)", "agree(LEAST, 0)", "agree(0, MOST)", "agree(12, 0)");
        new Edge().all(Edge.BAD, "agree(0, 1)", "agree(0, 0)").clubs(0, 1).all(Edge.BAD, "agree(0, 1)", "agree(1, 0)");
        new Edge("n0").due("club(0, 1)", 0).clubs(1, 11).due("club(1, 1)", 11).due("agree(0, 11)", 0)
            .due("agree(11, 10)", 1)
            .due("agree(12, 0)", Edge.BAD).due("agree(11, 11)", Edge.BAD);
    }

    private static void agreements() {
        Sentences.says(21, "Two CLUBS AGREE, if neither HOLDS an ITEM that DIFFERS and that the other HOLDS, too");
        // each item alone, held by both, by one, by none
        for (int item = 0; item < 17; item++) {
            int bit = 1 << item;
            new Edge(ALL_ITEMS).due("club(0, " + bit + ")", 0).due("club(1, " + bit + ")", 1).due("agree(0, 1)", 0)
                .due("change(1, 1, " + (ALL - bit) + ")", bit).due("agree(0, 1)", 1)
                .due("change(1, 1, 131071)", ALL - bit)
                .due("agree(0, 1)", 0).due("change(0, 1, 0)", bit).due("agree(0, 1)", 1).due("agree(1, 0)", 1);
        }
        // what does not differ both may hold
        new Edge("n00-0").due("club(0, 131071)", 0).due("club(0, 131071)", 1).due("club(1, 131070)", 2)
            .due("club(1, 131071)", 3)
            .due("agree(0, 1)", 1).due("agree(0, 2)", 1).due("agree(0, 3)", 0).due("agree(2, 3)", 1)
            .due("wipe(0)", 5).due("agree(0, 3)", 1);
    }

    private static void gives() {
        Sentences.says(22, "ITEMS that CLUB a has to give, if they AGREE, as bits. BAD; NOT: they do not.");
        new Edge("n0").due("club(0, 1)", 0).due("club(1, 1)", 1).due("club(1, 0)", 2).due("club(0, 131071)", 3)
            .all(Edge.NOT, "gives(0, 1)", "gives(1, 0)", "gives(1, 3)").due("count(8)", 0)
            .due("gives(0, 2)", 0).due("gives(2, 0)", 1).due("gives(0, 3)", 0).due("gives(3, 0)", 0)
            .still("gives(2, 3)", 1)
            .all(Edge.BAD, "gives(-1, 0)", "gives(0, -1)", "gives(4, 0)", "gives(0, 4)", "gives(4, 4)", "gives(12, 0)")
            .all(Edge.BAD, "gives(LEAST, 0)", "gives(0, LEAST)", "gives(MOST, 0)", "gives(0, MOST)")
            .all(Edge.BAD, "gives(0, 0)", "gives(3, 3)");
        new Edge().all(Edge.BAD, "gives(0, 1)", "gives(1, 0)");
    }

    private static void givesItems() {
        Sentences.says(22, "by an ITEM that DIFFERS the one that HOLDS it has it its way; of those neither HOLDS the one with"
            + " the lesser number");
        int[][] holds = {{0, 0}, {ALL, 0}, {0, ALL}, {87381, ALL - 87381}, {1, 65536}, {65536, 1}, {2, 0}, {0, 2}};
        for (int[] two : holds) {
            Edge x = new Edge(ALL_ITEMS).due("club(0, " + two[0] + ")", 0).due("club(1, " + two[1] + ")", 1);
            x.due("gives(0, 1)", two[1]).due("gives(1, 0)", ALL - two[1]);
        }
        // what does not differ is not given, though it is held
        new Edge("n00-0;t98").due("club(0, 131071)", 0).due("club(1, 0)", 1).due("club(1, 131070)", 2)
            .due("gives(0, 1)", 0)
            .due("gives(1, 0)", 65537).due("gives(2, 0)", Edge.NOT).due("change(0, 1, 1)", ALL).due("gives(2, 0)", 1)
            .due("gives(0, 2)", 65536).due("gives(1, 2)", 0);
        // the lesser number is the club's, not the code's
        new Edge("n0").due("club(1, 0)", 0).due("club(0, 0)", 1).due("gives(0, 1)", 0).due("gives(1, 0)", 1);
    }

    private static void between() {
        Sentences.says(23, "Of a MATCH between two CLUBS by what they AGREE on: as played() 0 to 8. BAD; NOT.");
        int[] due = {1, 2, 12, 1, 1, 15, 1, 3, 1};
        Edge x = new Edge("n2", "n0").due("club(0, 4)", 0).due("club(1, 4)", 1).due("club(0, 1)", 2)
            .due("club(2, 0)", 3)
            .match(1, 4, 8, 0, 99, 11, 14, 18, 11, 14, 18, 11, 7, 1, 2);
        for (int what = 0; what < 9; what++) {
            x.due("between(0, 3, 0, " + what + ")", due[what]).due("between(3, 2, 0, " + what + ")", due[what]);
        }
        x.still("between(0, 3, 0, 2)", 12).all(Edge.NOT, "between(0, 1, 0, 0)", "between(1, 0, 0, 8)")
            .due("count(8)", 0)
            .all(Edge.BAD, "between(0, 2, 0, -1)", "between(0, 2, 0, 9)", "between(0, 2, -1, 0)", "between(0, 2, 1, 0)")
            .all(Edge.BAD, "between(0, 2, 12, 0)", "between(-1, 2, 0, 0)", "between(0, -1, 0, 0)", "between(4, 2, 0, 0)")
            .all(Edge.BAD, "between(0, 4, 0, 0)", "between(12, 0, 0, 0)", "between(LEAST, 0, 0, 0)", "between(0, MOST, 0, 0)")
            .all(Edge.BAD, "between(0, 2, LEAST, 0)", "between(0, 2, MOST, 0)", "between(0, 2, 0, LEAST)", "between(0, 2, 0, MOST)")
            .all(Edge.BAD, "between(0, 0, 0, 0)", "between(3, 3, 0, 0)");
        Sentences.says(23, "Refusals, the first that fits, in the order told at each act");
        x.all(Edge.BAD, "between(0, 1, 0, 9)", "between(0, 1, 0, -1)", "between(1, 0, 1, 0)", "between(0, 1, -1, 0)");
        new Edge().clubs(0, 2).due("between(0, 1, 0, 0)", Edge.BAD);
    }

    private static void betweenItems() {
        Sentences.says(23, "their CODE is a MIX of both (the lesser's first)");
        // code 0 stops kicks and lets overs score 5; code 1 has them otherwise
        int[][] cases = {{0, 0, 1, 5}, {1, 0, 1, 5}, {0, 1, 0, 5}, {0, 1 << 11, 1, 1}, {0, 1 | 1 << 11, 0, 1},
            {1, 1 << 11, 1, 1}, {1 << 11, 1, 0, 5}, {ALL, 0, 1, 5}, {0, ALL, 0, 1}};
        for (int[] one : cases) {
            Edge x = new Edge("n0;g8=5", "").due("club(0, " + one[0] + ")", 0).due("club(1, " + one[1] + ")", 1)
                .match(1, 0)
                .match(1, 4, 8);
            x.due("between(0, 1, 0, 3)", one[2]).due("between(1, 0, 0, 3)", one[2]).due("between(0, 1, 1, 0)", one[3])
                .due("between(1, 0, 1, 0)", one[3]);
        }
        // with the ends that they agree on
        new Edge("t1", "e1").due("club(0, 0)", 0).due("club(1, 0)", 1).match(1, 4, 8, 1).due("between(0, 1, 0, 5)", 1)
            .due("change(1, 1, 65536)", 0).due("between(0, 1, 0, 5)", 4).due("change(1, 1, 98304)", 65536)
            .due("between(0, 1, 0, 5)", 3).due("between(1, 0, 0, 5)", 3);
    }

    private static void halves() {
        Sentences.says(24, "Of a MATCH BY HALVES, first under a's CODE: as played() 0 to 8. BAD.");
        int[] due = {1, 2, 12, 1, 1, 15, 1, 3, 1};
        Edge x = new Edge("", "n2").due("club(0, 131071)", 0).due("club(1, 131071)", 1)
            .match(1, 4, 8, 0, 99, 11, 14, 18, 11, 14, 18, 11, 7, 1, 2);
        for (int what = 0; what < 9; what++) {
            x.due("halves(0, 1, 0, " + what + ")", due[what]);
        }
        x.due("halves(1, 0, 0, 3)", 0).due("halves(1, 0, 0, 2)", 13).due("halves(1, 0, 0, 8)", 0)
            .still("halves(0, 1, 0, 3)", 1)
            .all(Edge.BAD, "halves(0, 1, 0, -1)", "halves(0, 1, 0, 9)", "halves(0, 1, -1, 0)", "halves(0, 1, 1, 0)")
            .all(Edge.BAD, "halves(-1, 1, 0, 0)", "halves(0, -1, 0, 0)", "halves(2, 1, 0, 0)", "halves(0, 2, 0, 0)")
            .all(Edge.BAD, "halves(LEAST, 1, 0, 0)", "halves(0, MOST, 0, 0)", "halves(0, 1, LEAST, 0)", "halves(0, 1, MOST, 0)")
            .all(Edge.BAD, "halves(0, 1, 0, LEAST)", "halves(0, 1, 0, MOST)", "halves(12, 0, 0, 0)", "halves(0, 1, 12, 0)")
            .all(Edge.BAD, "halves(0, 0, 0, 0)", "halves(1, 1, 0, 0)");
        new Edge().clubs(0, 2).due("halves(0, 1, 0, 0)", Edge.BAD);
    }

    /** Takes of those ahead, by the sides in turn: under one code each is let, under the other none. */
    private static int[] takes(int n) {
        int[] row = new int[n];
        for (int i = 0; i < n; i++) {
            row[i] = i % 2 == 0 ? 21 : 31;
        }
        return row;
    }

    private static void halvesCut() {
        Sentences.says(24, "of a MATCH's MOMENTS the first half (cut) goes under the one's CODE, from there on (POINTS, THE BALL"
            + " as they are) all under the other's");
        for (int n : new int[] {0, 1, 2, 3, 4, 5, 6, 7, 19, 20, 38, 39, 40}) {
            int[] cut = {0, 0, 1, 1, 2, 2, 3, 3};
            int let = n < 8 ? cut[n] : n / 2;
            new Edge("", "a2").due("club(0, 0)", 0).due("club(1, 0)", 1).match(takes(n)).due("halves(0, 1, 0, 2)", let)
                .due("halves(0, 1, 0, 5)", n);
        }
        // points and the ball go on as they are; k and g are of the half in which they come
        new Edge("g8=3;k2", "g8=4;k1").due("club(0, 0)", 0).due("club(1, 0)", 1).match(1, 4, 8, 4, 8, 99)
            .due("halves(0, 1, 0, 0)", 7)
            .due("halves(0, 1, 0, 8)", 1).due("halves(1, 0, 0, 0)", 4).due("halves(1, 0, 0, 8)", 1);
        Sentences.says(24, "ITEMS 15, 16 of both matter nothing");
        new Edge("t1;e1", "t2;e1").due("club(0, 0)", 0).due("club(1, 0)", 1).match(1, 4, 8, 1, 4, 8, 99)
            .due("halves(0, 1, 0, 5)", 7)
            .due("halves(0, 1, 0, 0)", 2).due("halves(1, 0, 0, 5)", 7).due("halves(1, 0, 0, 0)", 2);
        int[] forty = takes(40);
        new Edge("t1", "t1").due("club(0, 0)", 0).due("club(1, 0)", 1).match(forty).due("halves(0, 1, 0, 2)", 40);
    }
}
