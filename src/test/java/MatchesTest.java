/** Promises 8 to 15: match, verdicts, played, goes, turned, found, fits, fitting. */
public final class MatchesTest {
    public static void main(String[] args) {
        match();
        acts();
        actsThatCannotBe();
        side1();
        ends();
        mixes();
        again();
        noPoints();
        aheadAndStopped();
        playedRefusals();
        goes();
        turned();
        found();
        fits();
        fullMatches();
        Due.end();
    }

    private static void match() {
        ElevenCodes x = new ElevenCodes();
        Due.is("match, lost", x.match(0, 0), -11);
        Due.is("finding", x.count(8), 1);
        x.sheet(0, 0, 41);
        Due.is("match sheet -1", x.match(-1, 0), -2);
        Due.is("match sheet 4", x.match(4, 0), -2);
        Due.is("match n -1", x.match(0, -1), -2);
        Due.is("match n 41", x.match(0, 41), -2);
        Due.is("bad before null", x.match(1, 41), -2);
        Due.is("match 40", x.match(0, 40), 0);
        x.sheet(0, 0, 3);
        Due.is("match, fewer", x.match(0, 4), -12);
        Due.is("finding", x.count(8), 2);
        for (int i = 1; i < 12; i++) {
            Due.is("match more", x.match(0, i % 4), i);
        }
        Due.is("match, full", x.match(0, 3), -4);
        Due.is("index before full", x.match(0, 4), -12);
        Due.is("null before full", x.match(1, 0), -11);
        Due.is("matches", x.count(0), 12);
        x.sheet(0, 0, 3);
        Due.is("moments of the copy", x.played(3, 0, 0, 0, 5), 3);
        ElevenCodes y = new ElevenCodes();
        Due.sheet(y, 0, Due.BYTES, 1, 200, 2);
        y.match(0, 3);
        y.lay(0, 0, 0, 0);
        Due.is("a match keeps its moments", y.goes(0, 0, 0), 1);
        Due.is("a byte of 200 is unseen", y.goes(0, 0, 1), 3);
        Due.is("behind it", y.goes(0, 0, 2), 1);
    }

    /** Plays moments under code 0 of this text: the ball's cell at the end and whose it is. */
    private static void ball(String text, int cell, int owner, int... moments) {
        ElevenCodes x = Due.with(text);
        Due.match(x, moments);
        String name = text + " " + java.util.Arrays.toString(moments);
        Due.is("cell " + name, x.played(0, 0, 0, 0, 7), cell);
        Due.is("owner " + name, x.played(0, 0, 0, 0, 8), owner);
    }

    private static void acts() {
        ball("", 3, 2);
        ball("", 3, 0, 1);
        ball("", 5, 2, 1, 0);
        ball("", 6, 2, 1, 4, 4, 0);
        ball("", 4, 0, 1, 4);
        ball("", 3, 0, 1, 2);
        ball("", 2, 2, 1, 2, 5);
        ball("", 5, 2, 1, 2, 6);
        ball("", 5, 1, 1, 2, 6, 13);
        ball("", 5, 0, 1, 2, 6, 3);
        ball("", 5, 1, 1, 0, 11);
        ball("", 3, 2, 1, 17);
        ball("", 3, 1, 1, 11);
        ball("", 6, 0, 1, 4, 4, 4);
        // back from a side's own end stays there
        ball("", 6, 1, 1, 4, 4, 4, 11);
        ball("", 6, 2, 1, 4, 4, 4, 11, 12, 15);
    }

    private static void actsThatCannotBe() {
        ElevenCodes x = new ElevenCodes();
        // nobody's, on the ground: take alone
        for (int moment = 0; moment < 40; moment++) {
            int n = Due.match(x, moment);
            Due.is("first moment " + moment, x.goes(n, 0, 0), moment % 10 == 1 ? 1 : 0);
            x = new ElevenCodes();
        }
        can("ground, 2 from the last", "0248", "17", new int[] {1, 4});
        can("ground, far", "024", "17", new int[] {1});
        can("ground, 1 from the last", "02489", "17", new int[] {1, 4, 4});
        can("ground, last", "0289", "17", new int[] {1, 4, 4, 4});
        can("hands", "456", "7", new int[] {1, 2});
        can("hands, 2 from the last", "4568", "7", new int[] {1, 2, 4});
        can("hands, last", "568", "7", new int[] {1, 2, 4, 4, 4});
        can("air", "13", "13", new int[] {1, 0});
        can("air, from hands", "13", "13", new int[] {1, 2, 5});
    }

    private static void can(String name, String ofSide0, String ofSide1, int[] before) {
        for (int act = 0; act < 10; act++) {
            Due.is(name + " act " + act, lastOf(before, act), ofSide0.indexOf('0' + act) >= 0 ? 1 : 0);
            Due.is(name + " act of the other " + act, lastOf(before, 10 + act), ofSide1.indexOf('0' + act) >= 0 ? 1 : 0);
        }
    }

    private static int lastOf(int[] before, int moment) {
        ElevenCodes x = new ElevenCodes();
        int[] moments = java.util.Arrays.copyOf(before, before.length + 1);
        moments[before.length] = moment;
        Due.match(x, moments);
        return x.goes(0, 0, before.length);
    }

    private static void side1() {
        ball("", 1, 2, 11, 10);
        ball("", 2, 1, 11, 14);
        ball("", 0, 1, 11, 14, 14, 14, 14);
        ball("", 0, 2, 11, 14, 14, 10);
        ball("", 4, 2, 11, 12, 15);
        ball("", 1, 2, 11, 12, 16);
        // cells are counted from the side's own end
        ball("n42-2", 2, 1, 11, 14);
        ball("n44-4", 2, 0, 11, 14, 14, 14);
        ElevenCodes x = new ElevenCodes();
        Due.match(x, 11, 14, 18, 11, 14, 14, 19);
        Due.is("points of side 0", x.played(0, 0, 0, 0, 0), 0);
        Due.is("points of side 1", x.played(0, 0, 0, 0, 1), 2);
        Due.is("winner", x.played(0, 0, 0, 0, 6), 1);
    }

    private static void ends() {
        ElevenCodes x = Due.with("e2", "g8=3;e4", "t5", "e1;t2", "g4=2;e2;k2");
        Due.match(x, 1, 4, 8, 1, 4, 8, 1, 4, 8);
        int[] points = {2, 6, 1, 0};
        int[] moments = {6, 6, 5, 2};
        for (int code = 0; code < 4; code++) {
            Due.is("ended points " + code, x.played(0, code, code, 0, 0), points[code]);
            Due.is("ended moments " + code, x.played(0, code, code, 0, 5), moments[code]);
        }
        ElevenCodes y = Due.with("e2");
        Due.match(y, 11, 14, 18, 11, 14, 18, 11);
        Due.is("ended by side 1", y.played(0, 0, 0, 0, 5), 6);
        // a score that leaves the ball to the same side makes the next take empty
        Due.is("moments with empty ones", x.played(0, 4, 4, 0, 5), 6);
        Due.is("let of them", x.played(0, 4, 4, 0, 2), 5);
        Due.match(x, 99, 99, -1, 40, 1, 1);
        Due.is("unseen moments count for t", x.played(1, 2, 2, 0, 5), 5);
        Due.is("let before t", x.played(1, 2, 2, 0, 2), 1);
        Due.match(x);
        Due.is("no moments", x.played(2, 0, 0, 0, 5), 0);
        Due.is("no winner", x.played(2, 0, 0, 0, 6), -1);
        Due.is("cell 3", x.played(2, 0, 0, 0, 7), 3);
        Due.is("nobody's", x.played(2, 0, 0, 0, 8), 2);
    }

    private static void mixes() {
        ElevenCodes x = Due.with("n7", "g8=5;t4");
        Due.match(x, 1, 17, 1, 4, 8);
        Due.is("first alone", x.played(0, 0, 1, 0, 4), 0);
        Due.is("hack of the second", x.played(0, 0, 1, 128, 4), 1);
        Due.is("hack stopped", x.played(0, 0, 1, 0, 3), 1);
        Due.is("points of the second", x.played(0, 0, 1, 1 << 11, 0), 5);
        Due.is("end of the second", x.played(0, 0, 1, 1 << 11 | 1 << 16, 0), 0);
        Due.is("all of the second", x.played(0, 0, 1, 131071, 5), 4);
    }

    private static void again() {
        ball("k0", 3, 2, 1, 4, 8);
        ball("k1", 3, 1, 1, 4, 8);
        ball("k2", 3, 0, 1, 4, 8);
        ball("k1", 3, 0, 11, 14, 18);
        ball("k2", 3, 1, 11, 14, 18);
        ball("k2;g4=1", 3, 0, 1, 2, 4, 4, 4);
        ElevenCodes x = Due.with("k2;g4=4", "k2");
        Due.match(x, 1, 2, 4, 4, 4, 2);
        Due.is("points by a run", x.played(0, 0, 0, 0, 0), 4);
        Due.is("again on the ground", x.goes(0, 0, 5), 1);
        Due.is("no points by a run", x.played(0, 1, 0, 0, 0), 0);
        Due.match(x, 1, 4, 4, 4);
        Due.is("no score by a run on the ground", x.played(1, 0, 0, 0, 0), 0);
    }

    private static void noPoints() {
        ball("g8=0;k2", 6, 2, 1, 4, 8);
        ball("g9=0;k2", 0, 2, 11, 14, 14, 19);
        ball("k1", 6, 0, 1, 2, 4, 4, 4);
        // lies on the ground there, and in hands behind a run
        ElevenCodes x = Due.with("g8=0");
        Due.match(x, 1, 2, 4, 8, 1, 9);
        Due.is("taken from the ground", x.goes(0, 0, 4), 1);
        Due.is("under there", x.played(0, 0, 0, 0, 0), 1);
        Due.match(x, 1, 2, 4, 4, 4, 6);
        Due.is("still in hands", x.goes(1, 0, 5), 1);
    }

    private static void aheadAndStopped() {
        ElevenCodes x = Due.with("a0", "a1", "a2", "n1");
        Due.match(x, 21, 22, 24, 20, 33);
        int[][] due = {{1, 1, 1, 0, 0}, {2, 0, 0, 0, 0}, {2, 0, 0, 0, 0}, {2, 0, 0, 0, 0}};
        for (int code = 0; code < 4; code++) {
            for (int i = 0; i < 5; i++) {
                Due.is("ahead " + code + " " + i, x.goes(0, code, i), due[code][i]);
            }
            Due.is("whose " + code, x.played(0, code, 0, 0, 8), code == 0 ? 0 : 1);
        }
        Due.match(x, 1, 22, 24, 26, 23, 4);
        int[][] more = {{1, 1, 1, 1, 1, 0}, {1, 1, 1, 1, 2, 0}, {1, 2, 0, 0, 0, 0}};
        for (int code = 0; code < 3; code++) {
            for (int i = 0; i < 5; i++) {
                Due.is("ahead more " + code + " " + i, x.goes(1, code, i), more[code][i]);
            }
        }
        ball("n7", 3, 0, 1, 17);
        // stopped, it is on the ground again, so that it can be kicked
        ball("n7", 5, 0, 1, 2, 17, 0, 1);
        ball("n3", 5, 1, 1, 0, 3);
        ball("n2", 3, 1, 1, 2);
        ElevenCodes y = Due.with("n7");
        Due.match(y, 1, 2, 17, 4, 12, 7);
        Due.is("let", y.played(0, 0, 0, 0, 2), 3);
        Due.is("stopped", y.played(0, 0, 0, 0, 3), 1);
        Due.is("a stopped hack hurts nobody", y.played(0, 0, 0, 0, 4), 0);
        Due.is("moments", y.played(0, 0, 0, 0, 5), 6);
        Due.is("hurt without n7", y.played(0, 1, 0, 0, 4), 1);
    }

    private static void playedRefusals() {
        ElevenCodes x = new ElevenCodes();
        Due.match(x, 1);
        Due.is("played match -1", x.played(-1, 0, 0, 0, 0), -2);
        Due.is("played match 1", x.played(1, 0, 0, 0, 0), -2);
        Due.is("played code", x.played(0, 11, 0, 0, 0), -2);
        Due.is("played code -1", x.played(0, -1, 0, 0, 0), -2);
        Due.is("played other", x.played(0, 0, 11, 0, 0), -2);
        Due.is("played items -1", x.played(0, 0, 0, -1, 0), -2);
        Due.is("played items 131072", x.played(0, 0, 0, 131072, 0), -2);
        Due.is("played what -1", x.played(0, 0, 0, 0, -1), -2);
        Due.is("played what 9", x.played(0, 0, 0, 0, 9), -2);
    }

    private static void goes() {
        ElevenCodes x = Due.with("e1", "t2", "n1");
        Due.match(x, 1, 4, 8, 77, 1);
        int[][] due = {{1, 1, 1, 4, 4}, {1, 1, 4, 4, 4}, {2, 0, 0, 3, 2}};
        for (int code = 0; code < 3; code++) {
            for (int i = 0; i < 5; i++) {
                Due.is("goes " + code + " " + i, x.goes(0, code, i), due[code][i]);
            }
        }
        Due.is("goes unseen", x.goes(0, 5, 3), 3);
        Due.match(x, 40, -1, 39, 0);
        int[] edges = {3, 3, 0, 0};
        for (int i = 0; i < 4; i++) {
            Due.is("goes at the edges " + i, x.goes(1, 5, i), edges[i]);
        }
        Due.is("goes i -1", x.goes(0, 0, -1), -2);
        Due.is("goes i 5", x.goes(0, 0, 5), -2);
        Due.is("goes match", x.goes(2, 0, 0), -2);
        Due.is("goes match -1", x.goes(-1, 0, 0), -2);
        Due.is("goes code", x.goes(0, 11, 0), -2);
        Due.is("goes code -1", x.goes(0, -1, 0), -2);
    }

    private static void turned() {
        ElevenCodes x = Due.with("", "g8=0", "n8", "g8=9");
        Due.match(x, 1, 4, 8);
        Due.match(x, 1, 4, 8, 11, 14, 18);
        Due.match(x, 11, 14, 14, 19);
        Due.match(x, 1, 4, 8, 11, 14, 14, 19);
        Due.is("turned none", x.turned(0, 0), 0);
        Due.is("turned by 1", x.turned(0, 1), 1);
        Due.is("turned, one from none", x.turned(1, 3), 2);
        Due.is("turned back", x.turned(3, 1), 2);
        Due.is("turned, from one side to none", x.turned(0, 3), 1);
        Due.is("turned code", x.turned(-1, 0), -2);
        Due.is("turned other", x.turned(0, 11), -2);
    }

    private static void found() {
        ElevenCodes x = new ElevenCodes();
        Due.match(x, 1, 4, 10, 8, 1, 4, 4, 9, 21);
        Due.is("found before verdicts", x.found(1, 3), 0);
        // the third moment cannot be, so that it needs no verdict
        Due.verdicts(x, 0, 1, 1, 7, 1, 1, 1, 0, 1, 1);
        Due.is("found take", x.found(1, 3), 1);
        Due.is("found run 3", x.found(4, 3), 1);
        Due.is("found run 4", x.found(4, 4), 2);
        Due.is("found run 5", x.found(4, 5), 0);
        Due.is("found over", x.found(8, 4), 1);
        // the run was stopped: the ball is side 1's, so the under cannot be
        Due.is("found under", x.found(9, 4), 0);
        Due.match(x, 11, 14, 4);
        Due.verdicts(x, 1, 1, 0, 0);
        Due.is("both, from the own end of each", x.found(4, 3), 3);
        Due.is("run in another cell", x.found(4, 2), 0);
        ElevenCodes y = new ElevenCodes();
        Due.match(y, 21, 22, 2, 4, 50, 4);
        Due.verdicts(y, 0, 1, 2, 1, 1, 1, 1);
        Due.is("ahead is not found", y.found(1, 3), 0);
        Due.is("custom ends without a verdict", y.found(2, 3), 0);
        Due.verdicts(y, 0, 1, 0, 1, 1, 1, 1);
        Due.is("stopped ahead goes so", y.found(4, 3), 0);
        Due.verdicts(y, 0, 1, 1, 1, 1, 1, 1);
        Due.is("run before the unseen one", y.found(4, 3), 1);
        Due.is("custom ends at an unseen one", y.found(4, 4), 0);
        Due.is("verdicts told anew", y.count(1), 1);
        // customs go by no parts, whatever codes say
        ElevenCodes z = Due.with("g8=0;k2;t1");
        Due.match(z, 1, 4, 8, 1);
        Due.verdicts(z, 0, 1, 1, 1, 0);
        Due.is("taken in the middle again", z.found(1, 3), 3);
        Due.is("nowhere else", z.found(1, 6), 0);
        // a run with hands into the last cell scores nothing there
        Due.match(z, 1, 2, 4, 4, 4, 6);
        Due.verdicts(z, 1, 1, 1, 1, 1, 1, 0);
        Due.is("a throw from the last cell", z.found(6, 6), 2);
        ElevenCodes w = new ElevenCodes();
        Due.match(w, 1, 20);
        Due.verdicts(w, 0, 1, 1);
        Due.is("ahead, a kick", w.found(0, 3), 0);
        Due.match(w, 1);
        Due.verdicts(w, 1, 1, 1, 1);
        Due.is("verdicts behind the moments", w.found(0, 3), 0);
        Due.match(w, 1, 0);
        Due.verdicts(w, 2, 1, 1);
        Due.is("the first act", w.found(0, 3), 1);
        Due.is("found act -1", z.found(-1, 0), -2);
        Due.is("found act 10", z.found(10, 0), -2);
        Due.is("found cell -1", z.found(0, -1), -2);
        Due.is("found cell 7", z.found(0, 7), -2);
    }

    private static void fits() {
        ElevenCodes x = Due.with("", "n4", "n43-3", "t2", "n4;t2", "a1");
        Due.match(x, 1, 4, 99, 4, 8);
        Due.match(x, 21);
        Due.is("none told", x.fits(0, 0), -3);
        Due.is("fitting, none told", x.fitting(), 2047);
        Due.verdicts(x, 0, 1, 1, 0, 0);
        // the run of moment 3 is let by code 0, and stopped by none but behind the end of code 3
        Due.is("fits 0", x.fits(0, 0), 0);
        Due.is("fits 1", x.fits(1, 0), 0);
        Due.is("fits 2", x.fits(2, 0), 0);
        Due.is("fits 3, ended before", x.fits(3, 0), 1);
        Due.is("fits 4", x.fits(4, 0), 0);
        Due.verdicts(x, 0, 1, 0, 1, 1);
        // stopped, the ball is the other side's: the second run is empty then
        Due.is("fits 1 now", x.fits(1, 0), 1);
        Due.is("fits 2 now", x.fits(2, 0), 1);
        Due.is("fits 0 now", x.fits(0, 0), 0);
        Due.is("fitting", x.fitting(), 1 << 1 | 1 << 2 | 1 << 4);
        Due.verdicts(x, 1, 0);
        Due.is("ahead has a verdict, too", x.fits(5, 1), 1);
        Due.is("ahead, let", x.fits(0, 1), 0);
        Due.is("fitting both", x.fitting(), 0);
        x.sheet(0, 0, 0);
        Due.is("verdicts of an empty sheet", x.verdicts(1, 0), 1);
        Due.is("told, but none seen", x.fits(0, 1), 1);
        Due.is("with verdicts", x.count(1), 2);
        Due.is("fits code", x.fits(11, 0), -2);
        Due.is("fits code -1", x.fits(-1, 0), -2);
        Due.is("fits match", x.fits(0, 2), -2);
        Due.is("fits match -1", x.fits(0, -1), -2);
        Due.is("verdicts match", x.verdicts(2, 0), -2);
        Due.is("verdicts match -1", x.verdicts(-1, 0), -2);
        Due.is("verdicts sheet", x.verdicts(0, 4), -2);
        Due.is("verdicts sheet -1", x.verdicts(0, -1), -2);
        Due.is("verdicts, lost", x.verdicts(0, 1), -11);
        Due.is("bad before null", x.verdicts(2, 1), -2);
    }

    /** Twelve matches of forty moments each, with verdicts of all. */
    private static void fullMatches() {
        ElevenCodes x = Due.with("n7", "g8=0", "n1");
        int[] moments = new int[40];
        int[] told = new int[60];
        for (int i = 0; i < 40; i++) {
            moments[i] = new int[] {1, 4, 8, 99}[i % 4];
        }
        java.util.Arrays.fill(told, 1);
        Due.sheet(x, 0, Due.SHORTS, moments);
        Due.sheet(x, 1, Due.SHORTS, told);
        for (int i = 0; i < 12; i++) {
            Due.is("match", x.match(0, 40), i);
            Due.is("verdicts", x.verdicts(i, 1), 1);
        }
        Due.is("all points", x.played(11, 3, 3, 0, 0), 10);
        Due.is("all moments", x.played(11, 3, 3, 0, 5), 40);
        Due.is("the last goes", x.goes(11, 3, 39), 3);
        Due.is("the one before it", x.goes(11, 3, 38), 1);
        Due.is("turned in all", x.turned(0, 1), 12);
        Due.is("found in all", x.found(8, 4), 1);
        Due.is("fits", x.fits(3, 11), 1);
        Due.is("fitting", x.fitting(), 2047 & ~(1 << 2));
        Due.is("told", x.count(1), 12);
        Due.is("hurt in all", x.best(1 << 7, 0, 2), 0);
        ElevenCodes y = new ElevenCodes();
        Due.match(y, 1);
        Due.verdicts(y, 0, 1, 0, 0);
        Due.is("verdicts behind the moments tell nothing", y.fits(0, 0), 1);
    }
}
