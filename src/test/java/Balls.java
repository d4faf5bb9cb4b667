import java.util.Arrays;

/** Rows of moments that bring the ball to a place under a code without parts. */
final class Balls {
    static final int NOBODY = 2;
    static final int GROUND = 0;
    static final int HANDS = 1;
    static final int AIR = 2;

    private Balls() {
    }

    /** The cell of a place that is counted from a side's own end. */
    static int cell(int side, int place) {
        return side == 0 ? place : 6 - place;
    }

    /** A side takes and runs where the ball is to be; then the owner takes, picks, or the other one hacks. */
    static int[] to(int owner, int cell, int lies) {
        if (lies == AIR) {
            return cell == 6 ? then(to(1, 5, HANDS), 15) : then(to(0, cell + 1, HANDS), 5);
        }
        int side = cell >= 3 ? 0 : 1;
        int[] row = {10 * side + 1};
        for (int i = Math.abs(cell - 3); i > 0; i--) {
            row = then(row, 10 * side + 4);
        }
        if (owner == NOBODY) {
            return then(row, 10 * (1 - side) + 7);
        }
        if (owner != side) {
            row = then(row, 10 * owner + 1);
        }
        return lies == HANDS ? then(row, 10 * owner + 2) : row;
    }

    static int[] then(int[] row, int... moments) {
        int[] longer = Arrays.copyOf(row, row.length + moments.length);
        System.arraycopy(moments, 0, longer, row.length, moments.length);
        return longer;
    }

    /**
     * Behind a row that code 0 of this text lets, a moment goes as is due, and leaves the ball so.
     * How it lies shows in what can be next: a catch in the air alone, a throw from hands alone,
     * a kick and a pick from the ground alone.
     */
    static void leaves(String text, int[] row, int moment, int goes, int cell, int owner, int lies) {
        int n = row.length;
        int next = 3;
        if (owner != NOBODY) {
            int fromGround = moment % 10 == 2 ? 0 : 2;
            next = 10 * owner + (lies == HANDS ? 6 : fromGround);
        }
        new Edge(text).match(then(row, moment)).due("goes(0, 0, " + n + ")", goes)
            .due("played(0, 0, 0, 0, 7)", cell).due("played(0, 0, 0, 0, 8)", owner)
            .match(then(row, moment, next)).due("goes(1, 0, " + (n + 1) + ")", owner == NOBODY && lies == GROUND ? 0 : 1);
    }
}
