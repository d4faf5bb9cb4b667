import java.util.ArrayList;
import java.util.List;
import java.util.Random;

/**
 * Promise 18, "20 at most": under no code is the first score farther than 18 moments, so that the limit never
 * cuts one off. Sides are alike, so a ball and its mirror count as one. All codes are tried at once: whether an
 * act is let in a cell is chosen only where it matters, and as long as a far score can still come of the
 * choices. Those AHEAD are left out: what they add are ways, and with more ways a score is never farther.
 */
public final class FarthestTest {
    private static final int FARTHEST = 18;
    private static final int SCORE = -1;
    private static final int UNDER_ALONE = 4;
    private static final PlainModel.Ball FIRST = new PlainModel.Ball(3, 2, 0);

    private final List<PlainModel.Ball> balls = new ArrayList<>();
    /** Of each ball its acts: which cell of an item decides (7 act + cell), the ball behind it if let, if stopped. */
    private final List<List<int[]>> acts = new ArrayList<>();
    /** Of each cell of an item: 0 not chosen yet, 1 let, 2 stopped. */
    private final int[] chosen = new int[70];
    private int far;

    public static void main(String[] args) {
        for (int scoring = 1; scoring < 8; scoring++) {
            Due.holds("no first score is farther than 18 moments, " + scoring,
                !new FarthestTest(scoring).has(FARTHEST + 1));
        }
        Due.holds("a first score in 18 moments", new FarthestTest(UNDER_ALONE).has(FARTHEST));
        besideTheProgram();
        Due.end();
    }

    /** RUN, OVER, UNDER score, as bits. */
    private FarthestTest(int scoring) {
        int[] items = PlainModel.plain();
        for (int i = 0; i < 3; i++) {
            items[10 + i] = scoring >> i & 1;
        }
        numberOf(FIRST);
        for (int i = 0; i < balls.size(); i++) {
            acts.add(actsOn(balls.get(i), items));
        }
    }

    private List<int[]> actsOn(PlainModel.Ball ball, int[] items) {
        List<int[]> all = new ArrayList<>();
        for (int m = 0; m < 20; m++) {
            if (PlainModel.can(ball, m / 10, m % 10)) {
                int place = m < 10 ? ball.cell() : 6 - ball.cell();
                PlainModel.Step let = PlainModel.go(items, ball, m, true);
                PlainModel.Step stopped = PlainModel.go(items, ball, m, false);
                all.add(new int[] {m % 10 * 7 + place, let.points() > 0 ? SCORE : numberOf(let.ball()),
                    numberOf(stopped.ball())});
            }
        }
        return all;
    }

    private int numberOf(PlainModel.Ball ball) {
        boolean turn = ball.owner() == 1 || ball.owner() == 2 && ball.cell() > 3;
        int owner = ball.owner() == 1 ? 0 : ball.owner();
        PlainModel.Ball folded = turn ? new PlainModel.Ball(6 - ball.cell(), owner, ball.how()) : ball;
        if (!balls.contains(folded)) {
            balls.add(folded);
        }
        return balls.indexOf(folded);
    }

    private boolean has(int moments) {
        far = moments;
        return comes(1, 0, 0, 1, 0);
    }

    /** Whether the first score can be so far, with these balls (bits) to go on from, from an act of the first on. */
    private boolean comes(int now, int act, int next, int seen, int depth) {
        int unseen = balls.size() - Integer.bitCount(seen);
        if (depth + 1 + unseen + (next == 0 ? 0 : 1) < far) {
            return false;
        }
        if (now == 0) {
            return next != 0 && comes(next, 0, 0, seen, depth + 1);
        }
        List<int[]> all = acts.get(Integer.numberOfTrailingZeros(now));
        if (act == all.size()) {
            return comes(now & now - 1, 0, next, seen, depth);
        }
        int[] one = all.get(act);
        if (chosen[one[0]] != 0) {
            return leads(one[chosen[one[0]]], now, act, next, seen, depth);
        }
        if (isSeen(one[1], seen) && isSeen(one[2], seen)) {
            return comes(now, act + 1, next, seen, depth);
        }
        boolean is = false;
        for (int how = 1; how <= 2 && !is; how++) {
            chosen[one[0]] = how;
            is = leads(one[how], now, act, next, seen, depth);
        }
        chosen[one[0]] = 0;
        return is;
    }

    private boolean leads(int to, int now, int act, int next, int seen, int depth) {
        if (to == SCORE) {
            return depth + 1 >= far;
        }
        int more = isSeen(to, seen) ? 0 : 1 << to;
        return comes(now, act + 1, next | more, seen | more, depth);
    }

    private static boolean isSeen(int ball, int seen) {
        return ball != SCORE && (seen >> ball & 1) == 1;
    }

    /** The same balls and acts, under one code, answer as the program does. */
    private static void besideTheProgram() {
        Random random = new Random(18);
        for (int i = 0; i < 2000; i++) {
            int scoring = random.nextInt(8);
            String text = text(random, scoring);
            ElevenCodes x = Due.with(text);
            int due = new FarthestTest(scoring).fewest(x);
            Due.is("fewest of " + text, x.fewest(0, 0), due);
            Due.is("fewest of " + text + " of side 1", x.fewest(0, 1), due);
        }
    }

    private static String text(Random random, int scoring) {
        StringBuilder text = new StringBuilder();
        text.append("g4=").append(scoring & 1).append(";g8=").append(scoring >> 1 & 1)
            .append(";g9=").append(scoring >> 2);
        while (text.length() <= 74) {
            int from = random.nextInt(7);
            text.append(random.nextInt(3) > 0 ? ";n" : ";y").append(random.nextInt(10));
            if (random.nextBoolean()) {
                text.append(from).append('-').append(from + random.nextInt(7 - from));
            }
        }
        return text.toString();
    }

    private int fewest(ElevenCodes x) {
        int seen = 1;
        int now = 1;
        for (int moments = 1; now != 0; moments++) {
            int next = 0;
            for (int ball = 0; ball < balls.size(); ball++) {
                for (int[] one : (now >> ball & 1) == 1 ? acts.get(ball) : List.<int[]>of()) {
                    boolean let = (x.item(0, one[0] / 7) >> one[0] % 7 & 1) == 1;
                    int to = let ? one[1] : one[2];
                    if (to == SCORE) {
                        return moments;
                    }
                    next |= 1 << to;
                }
            }
            now = next & ~seen;
            seen |= next;
        }
        return ElevenCodes.NONE;
    }
}
