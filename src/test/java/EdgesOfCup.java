/** Promises 32 to 35 at their edges: way, draws, mate, cup. */
final class EdgesOfCup {
    private EdgesOfCup() {
    }

    static void run() {
        way();
        draws();
        fields();
        limits();
        mate();
        cup();
        leastDraw();
        noDraws();
    }

    private static void way() {
        Sentences.says(32, "A WAY between two CLUBS: what it was. BAD: also one to itself.");
        Edge x = new Edge().clubs(0, 3).due("way(0, 1, 0)", 50).due("way(0, 1, 99)", 0).due("way(0, 1, 98)", 99)
            .all(Edge.BAD, "way(0, 1, -1)", "way(0, 1, 100)", "way(0, 1, LEAST)", "way(0, 1, MOST)", "way(0, 0, 1)")
            .all(Edge.BAD, "way(1, 1, 1)", "way(2, 2, 1)", "way(-1, 0, 1)", "way(0, -1, 1)", "way(3, 0, 1)", "way(0, 3, 1)")
            .all(Edge.BAD, "way(3, 3, 1)", "way(12, 0, 1)", "way(LEAST, 0, 1)", "way(0, MOST, 1)", "way(-1, -1, 1)");
        x.due("way(0, 2, 1)", 50).due("way(1, 2, 1)", 50).due("way(0, 1, 1)", 98);
        new Edge().all(Edge.BAD, "way(0, 1, 1)", "way(0, 0, 1)").clubs(0, 1)
            .all(Edge.BAD, "way(0, 1, 1)", "way(0, 0, 1)");
        Sentences.says(32, "WAYS between CLUBS (0 to 99, both ways alike; 50 at first).");
        new Edge().clubs(0, 12).due("way(0, 11, 3)", 50).due("way(11, 0, 4)", 3).due("way(0, 11, 5)", 4)
            .due("way(11, 10, 99)", 50)
            .due("way(10, 11, 0)", 99).due("way(10, 0, 1)", 50).due("way(11, 12, 1)", Edge.BAD)
            .due("way(12, 11, 1)", Edge.BAD);
    }

    private static void draws() {
        Sentences.says(33, "DRAWS. BAD: CLUBS that there are not, not an even number of 2 to 12.");
        int[] due = {1, 3, 15, 105, 945, 10395};
        Edge x = new Edge().clubs(0, 12);
        for (int pairs = 1; pairs <= 6; pairs++) {
            x.due("draws(" + ((1 << 2 * pairs) - 1) + ", 99)", due[pairs - 1])
                .due("draws(" + (4096 - (1 << 12 - 2 * pairs)) + ", 99)", due[pairs - 1])
                .due("draws(" + ((1 << 2 * pairs - 1) - 1) + ", 99)", Edge.BAD);
        }
        x.still("draws(4095, 99)", 10395)
            .all(Edge.BAD, "draws(0, 99)", "draws(1, 99)", "draws(2048, 99)", "draws(4094, 99)")
            .all(Edge.BAD, "draws(4096, 99)", "draws(4097, 99)", "draws(8191, 99)", "draws(-1, 99)", "draws(LEAST, 99)")
            .all(Edge.BAD, "draws(MOST, 99)", "draws(-4096, 99)", "draws(12288, 99)");
    }

    private static void fields() {
        Sentences.says(33, "A CUP among CLUBS (bits; an even number of 2 to 12)");
        new Edge().all(Edge.BAD, "draws(0, 50)", "draws(1, 50)", "draws(3, 50)").clubs(0, 1)
            .all(Edge.BAD, "draws(1, 50)", "draws(3, 50)", "draws(0, 50)").clubs(1, 2).due("draws(3, 50)", 1)
            .all(Edge.BAD, "draws(5, 50)", "draws(6, 50)", "draws(15, 50)").clubs(2, 3).due("draws(5, 50)", 1)
            .due("draws(6, 50)", 1)
            .all(Edge.BAD, "draws(7, 50)", "draws(9, 50)", "draws(15, 50)").clubs(3, 4).due("draws(15, 50)", 3);
    }

    private static void limits() {
        Sentences.says(33, "all paired, each pair's WAY at most a limit (0 to 99)");
        Edge x = new Edge().clubs(0, 4).due("draws(3, 50)", 1).due("draws(3, 49)", 0).due("draws(3, 51)", 1)
            .due("draws(3, 0)", 0)
            .due("draws(3, 99)", 1).due("way(0, 1, 0)", 50).due("draws(3, 0)", 1).due("way(0, 1, 99)", 0)
            .due("draws(3, 98)", 0)
            .due("draws(3, 99)", 1).all(Edge.BAD, "draws(3, -1)", "draws(3, 100)", "draws(3, LEAST)", "draws(3, MOST)")
            .all(Edge.BAD, "draws(7, 100)", "draws(1, -1)");
        x.due("draws(15, 98)", 2).due("draws(15, 99)", 3).due("draws(15, 50)", 2).due("draws(15, 49)", 0);
    }

    private static void mate() {
        Sentences.says(34, "The mate of a CLUB in THE DRAW. BAD: also one not in it; NOT: there is none.");
        Edge x = new Edge().clubs(0, 12);
        for (int i = 0; i < 12; i++) {
            x.due("mate(4095, 50, " + i + ")", i % 2 == 0 ? i + 1 : i - 1);
        }
        x.due("mate(2049, 50, 0)", 11).due("mate(2049, 50, 11)", 0).still("mate(2049, 50, 11)", 0)
            .due("mate(3, 99, 1)", 0)
            .all(Edge.BAD, "mate(3, 50, 2)", "mate(3, 50, 11)", "mate(3, 50, 12)", "mate(3, 50, -1)", "mate(3, 50, 32)")
            .all(Edge.BAD, "mate(3, 50, 33)", "mate(3, 50, LEAST)", "mate(3, 50, MOST)", "mate(3, -1, 0)", "mate(3, 100, 0)")
            .all(Edge.BAD, "mate(0, 50, 0)", "mate(1, 50, 0)", "mate(7, 50, 0)", "mate(4096, 50, 12)", "mate(12288, 50, 12)")
            .all(Edge.BAD, "mate(-1, 50, 0)", "mate(MOST, 50, 0)", "mate(LEAST, 50, 31)")
            .all(Edge.NOT, "mate(3, 49, 0)", "mate(3, 49, 1)", "mate(4095, 49, 11)", "mate(3, 0, 0)")
            .due("count(8)", 0);
        Sentences.says(34, "Refusals, the first that fits, in the order told at each act");
        x.all(Edge.BAD, "mate(3, 49, 2)", "mate(3, 49, -1)", "mate(3, 0, 12)", "mate(7, 0, 0)", "mate(3, -1, 1)");
        new Edge().clubs(0, 2).all(Edge.BAD, "mate(12, 50, 2)", "mate(3, 50, 2)", "mate(5, 50, 0)");
    }

    private static void cup() {
        Sentences.says(35, "WAYS of THE DRAW together. BAD; NOT.");
        Edge x = new Edge().clubs(0, 12).due("cup(4095, 50)", 300).due("cup(3, 50)", 50).due("cup(3072, 99)", 50)
            .due("way(0, 1, 0)", 50).due("cup(3, 0)", 0).due("cup(3, 99)", 0).due("way(0, 1, 99)", 0)
            .due("cup(3, 99)", 99)
            .all(Edge.NOT, "cup(3, 98)", "cup(4095, 49)", "cup(3072, 0)", "cup(3072, 49)").still("cup(3, 99)", 99)
            .all(Edge.BAD, "cup(0, 50)", "cup(1, 50)", "cup(7, 50)", "cup(4096, 50)", "cup(4097, 50)", "cup(-1, 50)")
            .all(Edge.BAD, "cup(LEAST, 50)", "cup(MOST, 50)", "cup(3, -1)", "cup(3, 100)", "cup(3, LEAST)", "cup(3, MOST)");
        Sentences.says(35, "Refusals, the first that fits, in the order told at each act");
        x.all(Edge.BAD, "cup(7, 49)", "cup(3, -1)", "cup(4096, 0)");
        new Edge().all(Edge.BAD, "cup(3, 99)", "cup(0, 0)").clubs(0, 1).due("cup(3, 99)", Edge.BAD).clubs(1, 2)
            .due("cup(3, 99)", 50);
        Sentences.says(35, "WAYS between CLUBS (0 to 99, both ways alike; 50 at first).");
        Edge far = new Edge().clubs(0, 12);
        for (int a = 0; a < 12; a++) {
            for (int b = a + 1; b < 12; b++) {
                far.due("way(" + a + ", " + b + ", 99)", 50);
            }
        }
        far.due("cup(4095, 99)", 594).due("cup(4095, 98)", Edge.NOT).due("draws(4095, 99)", 10395);
    }

    private static void leastDraw() {
        Sentences.says(34, "THE DRAW: the least WAYS together, of like ones the least (the mate of the least CLUB compared first,"
            + " then of the least of those left, ..)");
        // the least first pair is not the least together
        Edge x = new Edge().clubs(0, 4).due("way(0, 1, 2)", 50).due("way(2, 3, 99)", 50).due("mate(15, 99, 0)", 2)
            .due("mate(15, 99, 3)", 1).due("cup(15, 99)", 100);
        // alike, 0 with 1 comes before 0 with 2; and then it is less
        x.due("way(2, 3, 98)", 99).due("cup(15, 99)", 100).due("mate(15, 99, 0)", 1).due("mate(15, 99, 2)", 3)
            .due("way(2, 3, 97)", 98).due("cup(15, 99)", 99).due("mate(15, 99, 0)", 1).due("mate(15, 99, 3)", 2);
        // the limit leaves another draw
        x.due("mate(15, 97, 0)", 1).due("mate(15, 96, 0)", 2).due("mate(15, 96, 1)", 3).due("mate(15, 96, 3)", 1)
            .due("cup(15, 96)", 100);
        // then the least of those left
        Edge y = new Edge().clubs(0, 6).due("way(0, 1, 51)", 50);
        int[] first = {2, 3, 0, 1, 5, 4};
        for (int i = 0; i < 6; i++) {
            y.due("mate(63, 99, " + i + ")", first[i]);
        }
        y.due("way(4, 5, 51)", 50);
        int[] second = {2, 4, 0, 5, 1, 3};
        for (int i = 0; i < 6; i++) {
            y.due("mate(63, 99, " + i + ")", second[i]);
        }
        // of some clubs alone, the least of them being 3
        new Edge().clubs(0, 12).due("way(3, 7, 49)", 50).due("way(9, 11, 49)", 50).due("mate(2696, 99, 3)", 7)
            .due("mate(2696, 99, 11)", 9).due("way(7, 11, 1)", 50).due("mate(2696, 99, 3)", 9).due("cup(2696, 99)", 51);
    }

    private static void noDraws() {
        Sentences.says(33, "How many DRAWS there are");
        // club 3 can meet nobody; then one club alone
        Edge x = new Edge().clubs(0, 4).due("way(0, 3, 60)", 50).due("way(1, 3, 60)", 50).due("way(2, 3, 60)", 50)
            .due("draws(15, 59)", 0)
            .due("cup(15, 59)", Edge.NOT).due("mate(15, 59, 0)", Edge.NOT).due("draws(15, 60)", 3)
            .due("draws(3, 59)", 1)
            .due("way(1, 3, 59)", 60).due("draws(15, 59)", 1).due("mate(15, 59, 3)", 1).due("mate(15, 59, 0)", 2)
            .due("cup(15, 59)", 109);
        x.due("draws(12, 59)", 0).due("draws(12, 60)", 1);
    }
}
