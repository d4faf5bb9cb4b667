import java.util.ArrayList;
import java.util.Arrays;
import java.util.Comparator;
import java.util.HashSet;
import java.util.List;
import java.util.Set;
import java.util.TreeSet;

/**
 * The document once more, in other ways than the program: texts by patterns, partings by
 * trying rows of each length, draws by listing them all. RandomTest sets both side by side.
 */
final class PlainModel {
    record Ball(int cell, int owner, int how) {
    }

    record Step(int went, Ball ball, int points) {
    }

    record Rules(int[] items, int[] why, int fault) {
    }

    static final class Game {
        List<Integer> moments = new ArrayList<>();
        List<Integer> verdicts = null;
    }

    static final class Result {
        int[] points = new int[2];
        int let, stopped, hurt;
        List<Integer> went = new ArrayList<>();
        Ball ball = new Ball(3, 2, 0);

        int get(int what) {
            int winner = points[0] == points[1] ? -1 : points[0] > points[1] ? 0 : 1;
            return new int[] {points[0], points[1], let, stopped, hurt, went.size(), winner, ball.cell(), ball.owner()}[what];
        }
    }

    final StringBuilder[] texts = new StringBuilder[11];
    final List<Game> games = new ArrayList<>();
    final List<int[]> clubs = new ArrayList<>();
    final Set<Integer> members = new TreeSet<>();
    int[] law = plain();
    int a = 2, b = 3, quorum = 1, finding = 0;
    final int[][] ways = new int[12][12];
    final int[] types = new int[4];
    final int[][] sheets = new int[4][];

    PlainModel() {
        for (int i = 0; i < 11; i++) {
            texts[i] = new StringBuilder();
        }
        for (int[] row : ways) {
            Arrays.fill(row, 50);
        }
    }

    static int[] plain() {
        return new int[] {127, 127, 127, 127, 127, 127, 127, 127, 127, 127, 0, 1, 1, 0, 0, 0, 99};
    }

    // ---- texts: a fault is the longest beginning of a good text, or a figure in it that may not be

    static final String PART = "[yn][0-9]([0-6]-[0-6])?|g[489]=[0-9]|[ak][0-2]|[et][0-9]{1,2}";

    static Rules read(String text) {
        int[] items = plain();
        int[] why = new int[70];
        Arrays.fill(why, -1);
        Rules none = new Rules(items.clone(), why.clone(), -1);
        if (text.isEmpty()) {
            return none;
        }
        int place = 0;
        String[] parts = text.split(";", -1);
        for (int p = 0; p < parts.length; p++) {
            int fault = faultIn(parts[p]);
            if (fault >= 0) {
                return new Rules(none.items(), none.why(), place + fault);
            }
            apply(parts[p], p, items, why);
            place += parts[p].length() + 1;
        }
        return new Rules(items, why, -1);
    }

    static int faultIn(String part) {
        if (part.matches("t0|t00")) {
            return 1;
        }
        if (part.matches("t0[^0-9].*|t00.+")) {
            return 1;
        }
        if (part.matches("[yn][0-9][0-6]-[0-6].*") && part.charAt(2) > part.charAt(4)) {
            return 4;
        }
        if (part.matches(PART)) {
            return -1;
        }
        // how much of it can begin a good part
        int good = 0;
        while (good < part.length() && begins(part.substring(0, good + 1))) {
            good++;
        }
        return good;
    }

    static boolean begins(String s) {
        return s.matches("[yn]([0-9]([0-6](-[0-6]?)?)?)?|g([489](=[0-9]?)?)?|[ak][0-2]?|[et][0-9]{0,2}");
    }

    static void apply(String part, int number, int[] items, int[] why) {
        char kind = part.charAt(0);
        if (kind == 'y' || kind == 'n') {
            int act = part.charAt(1) - '0';
            int x = part.length() > 2 ? part.charAt(2) - '0' : 0;
            int y = part.length() > 2 ? part.charAt(4) - '0' : 6;
            for (int cell = x; cell <= y; cell++) {
                items[act] &= ~(1 << cell);
                items[act] |= (kind == 'y' ? 1 : 0) << cell;
                why[act * 7 + cell] = number;
            }
        } else if (kind == 'g') {
            items[part.charAt(1) == '4' ? 10 : part.charAt(1) - '0' + 3] = part.charAt(3) - '0';
        } else {
            items[13 + "aket".indexOf(kind)] = Integer.parseInt(part.substring(1));
        }
    }

    Rules rules(int code) {
        return read(texts[code].toString());
    }

    int[] items(int code) {
        return rules(code).items();
    }

    static int[] mix(int[] first, int[] second, int bits) {
        int[] mixed = first.clone();
        for (int i = 0; i < 17; i++) {
            if ((bits & 1 << i) != 0) {
                mixed[i] = second[i];
            }
        }
        return mixed;
    }

    static int differing(int[] one, int[] two) {
        int bits = 0;
        for (int i = 0; i < 17; i++) {
            bits |= (one[i] == two[i] ? 0 : 1) << i;
        }
        return bits;
    }

    // ---- the game

    static boolean can(Ball ball, int side, int act) {
        int togo = side == 0 ? 6 - ball.cell() : ball.cell();
        boolean own = ball.owner() == side;
        boolean ground = ball.how() == 0;
        boolean hands = ball.how() == 1;
        boolean[] cans = {own && ground, !own && !hands, own && ground, ball.how() == 2, own && togo > 0, own && hands,
            own && hands, ball.owner() == 1 - side, own && togo <= 2, own && ground && togo <= 1};
        return cans[act];
    }

    static boolean lets(int[] items, Ball ball, int moment) {
        int act = moment % 10;
        boolean ahead = moment >= 20;
        if (ahead && items[13] == 2 || ahead && items[13] == 1 && (act == 1 || act == 3)) {
            return false;
        }
        int cell = moment % 20 < 10 ? ball.cell() : 6 - ball.cell();
        return (items[act] & 1 << cell) != 0;
    }

    static int moved(int cell, int by) {
        int to = cell + by;
        return to < 0 ? 0 : to > 6 ? 6 : to;
    }

    /** What a moment that can be becomes, let or stopped. */
    static Step go(int[] items, Ball ball, int moment, boolean let) {
        int side = moment % 20 / 10;
        int act = moment % 10;
        int on = side == 0 ? 1 : -1;
        int last = side == 0 ? 6 : 0;
        if (!let) {
            return new Step(2, new Ball(ball.cell(), 1 - side, 0), 0);
        }
        int points = 0;
        Ball then;
        if (act == 0 || act == 6) {
            then = new Ball(moved(ball.cell(), 2 * on), 2, 2);
        } else if (act == 1) {
            then = new Ball(ball.cell(), side, 0);
        } else if (act == 2 || act == 3) {
            then = new Ball(ball.cell(), side, 1);
        } else if (act == 4) {
            then = new Ball(ball.cell() + on, side, ball.how());
            points = then.cell() == last && then.how() == 1 ? items[10] : 0;
        } else if (act == 5) {
            then = new Ball(moved(ball.cell(), -on), 2, 2);
        } else if (act == 7) {
            then = new Ball(ball.cell(), 2, 0);
        } else {
            then = new Ball(last, 2, 0);
            points = items[act + 3];
        }
        if (points > 0) {
            then = new Ball(3, items[14] == 0 ? 2 : items[14] == 1 ? 1 - side : side, 0);
        }
        return new Step(1, then, points);
    }

    static Step step(int[] items, Ball ball, int moment) {
        if (moment < 0 || moment > 39) {
            return new Step(3, ball, 0);
        }
        if (!can(ball, moment % 20 / 10, moment % 10)) {
            return new Step(0, ball, 0);
        }
        return go(items, ball, moment, lets(items, ball, moment));
    }

    static void count(Result r, Step step, int moment) {
        r.went.add(step.went());
        r.ball = step.ball();
        if (step.went() == 1) {
            r.let++;
            r.hurt += moment % 10 == 7 ? 1 : 0;
            r.points[moment % 20 / 10] += step.points();
        } else if (step.went() == 2) {
            r.stopped++;
        }
    }

    static Result play(Game game, int[] items) {
        Result r = new Result();
        for (int moment : game.moments) {
            boolean enough = items[15] > 0 && Math.max(r.points[0], r.points[1]) >= items[15];
            if (enough || r.went.size() == items[16]) {
                break;
            }
            count(r, step(items, r.ball, moment), moment);
        }
        return r;
    }

    // ---- calls, in the order of the document

    static boolean in(int v, int from, int to) {
        return v >= from && v <= to;
    }

    boolean code(int code) {
        return in(code, 0, 10);
    }

    boolean game(int game) {
        return in(game, 0, games.size() - 1);
    }

    boolean isClub(int club) {
        return in(club, 0, clubs.size() - 1);
    }

    int found(int number) {
        finding = number;
        return -10 - number;
    }

    int type(int code, int v) {
        if (!code(code) || !in(v, 0, 255)) {
            return -2;
        }
        return texts[code].length() == 80 ? -4 : texts[code].append((char) v).length();
    }

    int wipe(int code) {
        if (!code(code)) {
            return -2;
        }
        int had = texts[code].length();
        texts[code].setLength(0);
        return had;
    }

    int fault(int code) {
        return code(code) ? rules(code).fault() : -2;
    }

    int item(int code, int item) {
        return code(code) && in(item, 0, 16) ? items(code)[item] : -2;
    }

    int why(int code, int act, int cell) {
        return code(code) && in(act, 0, 9) && in(cell, 0, 6) ? rules(code).why()[act * 7 + cell] : -2;
    }

    int differ(int code, int other) {
        return code(code) && code(other) ? differing(items(code), items(other)) : -2;
    }

    int match(int s, int n) {
        if (!in(s, 0, 3) || !in(n, 0, 40)) {
            return -2;
        }
        if (sheets[s] == null) {
            return found(1);
        }
        if (n > sheets[s].length) {
            return found(2);
        }
        if (games.size() == 12) {
            return -4;
        }
        Game game = new Game();
        for (int i = 0; i < n; i++) {
            game.moments.add(sheets[s][i]);
        }
        games.add(game);
        return games.size() - 1;
    }

    int verdicts(int match, int s) {
        if (!game(match) || !in(s, 0, 3)) {
            return -2;
        }
        if (sheets[s] == null) {
            return found(1);
        }
        games.get(match).verdicts = new ArrayList<>();
        for (int i = 0; i < 40; i++) {
            games.get(match).verdicts.add(i < sheets[s].length ? sheets[s][i] : 2);
        }
        return 1;
    }

    int played(int match, int code, int other, int items, int what) {
        if (!game(match) || !code(code) || !code(other) || !in(items, 0, 131071) || !in(what, 0, 8)) {
            return -2;
        }
        return play(games.get(match), mix(items(code), items(other), items)).get(what);
    }

    int goes(int match, int code, int i) {
        if (!game(match) || !code(code) || !in(i, 0, games.get(match).moments.size() - 1)) {
            return -2;
        }
        List<Integer> went = play(games.get(match), items(code)).went;
        return i < went.size() ? went.get(i) : 4;
    }

    int turned(int code, int other) {
        if (!code(code) || !code(other)) {
            return -2;
        }
        return (int) games.stream().filter(g -> play(g, items(code)).get(6) != play(g, items(other)).get(6)).count();
    }

    int foundOf(int act, int cell) {
        if (!in(act, 0, 9) || !in(cell, 0, 6)) {
            return -2;
        }
        Set<Integer> seen = new HashSet<>();
        for (Game game : games) {
            Ball ball = new Ball(3, 2, 0);
            for (int i = 0; i < game.moments.size() && game.verdicts != null; i++) {
                int m = game.moments.get(i);
                if (!in(m, 0, 39)) {
                    break;
                }
                if (can(ball, m % 20 / 10, m % 10)) {
                    int verdict = game.verdicts.get(i);
                    if (!in(verdict, 0, 1)) {
                        break;
                    }
                    int own = m % 20 < 10 ? ball.cell() : 6 - ball.cell();
                    if (m < 20 && m % 10 == act && own == cell) {
                        seen.add(verdict);
                    }
                    ball = go(plain(), ball, m, verdict == 1).ball();
                }
            }
        }
        return (seen.contains(1) ? 1 : 0) + (seen.contains(0) ? 2 : 0);
    }

    boolean fit(int code, Game game) {
        List<Integer> went = play(game, items(code)).went;
        for (int i = 0; i < went.size(); i++) {
            int verdict = game.verdicts.get(i);
            if (in(verdict, 0, 1) && in(went.get(i), 1, 2) && (went.get(i) == 1) != (verdict == 1)) {
                return false;
            }
        }
        return true;
    }

    int fits(int code, int match) {
        if (!code(code) || !game(match)) {
            return -2;
        }
        return games.get(match).verdicts == null ? -3 : fit(code, games.get(match)) ? 1 : 0;
    }

    int fitting() {
        int bits = 0;
        for (int code = 0; code < 11; code++) {
            int c = code;
            if (games.stream().allMatch(g -> g.verdicts == null || fit(c, g))) {
                bits |= 1 << code;
            }
        }
        return bits;
    }

    /** The least row of just so many moments by which two codes part, or null. */
    static List<Integer> row(int[] one, int[] two, Ball ball, int left, Set<String> failed) {
        if (left == 0 || !failed.add(ball + " " + left)) {
            return null;
        }
        for (int m = 0; m < 40; m++) {
            if (!can(ball, m % 20 / 10, m % 10)) {
                continue;
            }
            Step by1 = step(one, ball, m);
            Step by2 = step(two, ball, m);
            if (!by1.equals(by2)) {
                if (left == 1) {
                    return new ArrayList<>(List.of(m));
                }
            } else {
                List<Integer> rest = row(one, two, by1.ball(), left - 1, failed);
                if (rest != null) {
                    rest.add(0, m);
                    return rest;
                }
            }
        }
        return null;
    }

    List<Integer> partingOf(int code, int other) {
        for (int n = 1; n <= 6; n++) {
            List<Integer> row = row(items(code), items(other), new Ball(3, 2, 0), n, new HashSet<>());
            if (row != null) {
                return row;
            }
        }
        return List.of();
    }

    int parts(int code, int other) {
        if (!code(code) || !code(other)) {
            return -2;
        }
        int n = partingOf(code, other).size();
        return n == 0 ? -1 : n;
    }

    int parting(int code, int other, int i) {
        if (!code(code) || !code(other) || i < 0) {
            return -2;
        }
        List<Integer> row = partingOf(code, other);
        return i < row.size() ? row.get(i) : -1;
    }

    int fewest(int code, int side) {
        if (!code(code) || !in(side, 0, 1)) {
            return -2;
        }
        int[] items = items(code);
        Set<Ball> now = Set.of(new Ball(3, 2, 0));
        for (int n = 1; n <= 20; n++) {
            Set<Ball> next = new HashSet<>();
            for (Ball ball : now) {
                for (int m = 0; m < 40; m++) {
                    Step step = step(items, ball, m);
                    if (step.points() > 0 && m % 20 / 10 == side) {
                        return n;
                    }
                    next.add(step.ball());
                }
            }
            now = next;
        }
        return -1;
    }

    int club(int code, int holds) {
        if (!code(code) || !in(holds, 0, 131071)) {
            return -2;
        }
        if (clubs.size() == 12) {
            return -4;
        }
        clubs.add(new int[] {code, holds});
        return clubs.size() - 1;
    }

    int change(int club, int what, int v) {
        if (!isClub(club) || !in(what, 0, 1) || !in(v, 0, what == 0 ? 10 : 131071)) {
            return -2;
        }
        int was = clubs.get(club)[what];
        clubs.get(club)[what] = v;
        return was;
    }

    int[] itemsOfClub(int club) {
        return items(clubs.get(club)[0]);
    }

    int agree(int one, int two) {
        if (!isClub(one) || !isClub(two) || one == two) {
            return -2;
        }
        int both = clubs.get(one)[1] & clubs.get(two)[1];
        return (differing(itemsOfClub(one), itemsOfClub(two)) & both) == 0 ? 1 : 0;
    }

    /** The code that two clubs agree on, item by item. */
    int[] agreed(int one, int two) {
        int lesser = Math.min(one, two);
        int greater = Math.max(one, two);
        int[] items = itemsOfClub(lesser);
        for (int i = 0; i < 17; i++) {
            boolean lesserHolds = (clubs.get(lesser)[1] & 1 << i) != 0;
            boolean greaterHolds = (clubs.get(greater)[1] & 1 << i) != 0;
            if (greaterHolds && !lesserHolds) {
                items[i] = itemsOfClub(greater)[i];
            }
        }
        return items;
    }

    int gives(int one, int two) {
        int agree = agree(one, two);
        return agree == -2 ? -2 : agree == 0 ? -3 : differing(agreed(one, two), itemsOfClub(one));
    }

    int between(int one, int two, int match, int what) {
        int agree = agree(one, two);
        if (agree == -2 || !game(match) || !in(what, 0, 8)) {
            return -2;
        }
        return agree == 0 ? -3 : play(games.get(match), agreed(one, two)).get(what);
    }

    int halves(int one, int two, int match, int what) {
        if (agree(one, two) == -2 || !game(match) || !in(what, 0, 8)) {
            return -2;
        }
        Result r = new Result();
        List<Integer> moments = games.get(match).moments;
        for (int i = 0; i < moments.size(); i++) {
            int[] items = 2 * i + 1 < moments.size() && i < moments.size() / 2 ? itemsOfClub(one) : itemsOfClub(two);
            count(r, step(items, r.ball, moments.get(i)), moments.get(i));
        }
        return r.get(what);
    }

    int member(int club, boolean is) {
        return !isClub(club) ? -2 : (is ? members.add(club) : members.remove(club)) ? 1 : 0;
    }

    int rule(int what, int v) {
        int[] was = {a, b, quorum};
        if (what == 0 && in(v, 1, 9) && v <= b) {
            a = v;
        } else if (what == 1 && in(v, 1, 9) && a <= v) {
            b = v;
        } else if (what == 2 && in(v, 0, 12)) {
            quorum = v;
        } else {
            return -2;
        }
        return was[what];
    }

    int law(int item) {
        return in(item, 0, 16) ? law[item] : -2;
    }

    int enact(int code) {
        if (!code(code)) {
            return -2;
        }
        law = items(code);
        return 1;
    }

    int motion(int item, int code, int what) {
        if (!in(item, 0, 16) || !code(code) || !in(what, 0, 3)) {
            return -2;
        }
        int wanted = items(code)[item];
        int yes = 0;
        int no = 0;
        int leave = 0;
        for (int club : members) {
            int has = itemsOfClub(club)[item];
            if (has == wanted) {
                yes++;
            } else {
                no += has == law[item] ? 1 : 0;
                leave |= (clubs.get(club)[1] & 1 << item) != 0 ? 1 << club : 0;
            }
        }
        int carried = yes * b >= a * (yes + no) && yes + no >= quorum ? 1 : 0;
        return new int[] {yes, no, carried, leave}[what];
    }

    int put(int item, int code) {
        int carried = motion(item, code, 2);
        if (carried != 1) {
            return carried;
        }
        int leave = motion(item, code, 3);
        members.removeIf(club -> (leave & 1 << club) != 0);
        law[item] = items(code)[item];
        return 1;
    }

    int best(int items, int code, int what) {
        if (!in(items, 0, 131071) || Integer.bitCount(items) > 9 || !code(code) || !in(what, 0, 2)) {
            return -2;
        }
        int[] from = items(code);
        List<int[]> offers = new ArrayList<>();
        for (int bits = 0; bits <= items; bits++) {
            if ((bits & ~items) == 0) {
                int[] mixed = mix(law, from, bits);
                int stay = 0;
                for (int club : members) {
                    stay += (differing(mixed, itemsOfClub(club)) & clubs.get(club)[1]) == 0 ? 1 : 0;
                }
                int hurt = games.stream().mapToInt(g -> play(g, mixed).hurt).sum();
                offers.add(new int[] {bits, stay, hurt});
            }
        }
        offers.sort(Comparator.<int[]>comparingInt(o -> -o[1]).thenComparingInt(o -> o[2])
            .thenComparingInt(o -> Integer.bitCount(o[0])).thenComparingInt(o -> o[0]));
        return offers.get(0)[what];
    }

    int way(int one, int two, int w) {
        if (!isClub(one) || !isClub(two) || one == two || !in(w, 0, 99)) {
            return -2;
        }
        int was = ways[one][two];
        ways[one][two] = w;
        ways[two][one] = w;
        return was;
    }

    /** All draws, each as the mates of all clubs in their order. */
    void drawsOf(List<Integer> left, int limit, int[] mates, List<int[]> all) {
        if (left.isEmpty()) {
            all.add(mates.clone());
            return;
        }
        int least = left.get(0);
        for (int i = 1; i < left.size(); i++) {
            int mate = left.get(i);
            if (ways[least][mate] <= limit) {
                List<Integer> rest = new ArrayList<>(left);
                rest.remove(i);
                rest.remove(0);
                mates[least] = mate;
                mates[mate] = least;
                drawsOf(rest, limit, mates, all);
            }
        }
    }

    List<int[]> allDraws(int bits, int limit) {
        int n = Integer.bitCount(bits);
        if (bits <= 0 || bits >= 1 << clubs.size() || n % 2 != 0 || !in(limit, 0, 99)) {
            return null;
        }
        List<Integer> left = new ArrayList<>();
        for (int i = 0; i < 12; i++) {
            if ((bits & 1 << i) != 0) {
                left.add(i);
            }
        }
        List<int[]> all = new ArrayList<>();
        int[] mates = new int[12];
        Arrays.fill(mates, -1);
        drawsOf(left, limit, mates, all);
        all.sort(Comparator.<int[]>comparingInt(this::together).thenComparing(Arrays::compare));
        return all;
    }

    int together(int[] mates) {
        int sum = 0;
        for (int i = 0; i < 12; i++) {
            sum += mates[i] > i ? ways[i][mates[i]] : 0;
        }
        return sum;
    }

    int draws(int bits, int limit) {
        List<int[]> all = allDraws(bits, limit);
        return all == null ? -2 : all.size();
    }

    int mate(int bits, int limit, int club) {
        List<int[]> all = allDraws(bits, limit);
        if (all == null || !in(club, 0, 11) || (bits & 1 << club) == 0) {
            return -2;
        }
        return all.isEmpty() ? -3 : all.get(0)[club];
    }

    int cup(int bits, int limit) {
        List<int[]> all = allDraws(bits, limit);
        return all == null ? -2 : all.isEmpty() ? -3 : together(all.get(0));
    }

    int sheet(int s, int type, int n) {
        if (!in(s, 0, 3) || !in(type, 0, 2) || n > 60) {
            return -2;
        }
        if (n < 0) {
            return found(5);
        }
        types[s] = type;
        sheets[s] = new int[n];
        return n;
    }

    int lose(int s) {
        if (!in(s, 0, 3)) {
            return -2;
        }
        if (sheets[s] == null) {
            return found(1);
        }
        int had = sheets[s].length;
        sheets[s] = null;
        return had;
    }

    static int cut(int type, int v) {
        return type == 0 ? (byte) v : type == 1 ? (short) v : v;
    }

    int lay(int s, int type, int i, int v) {
        if (!in(s, 0, 3) || !in(type, 0, 2)) {
            return -2;
        }
        if (sheets[s] == null) {
            return found(1);
        }
        if (types[s] != type) {
            return found(3);
        }
        if (!in(i, 0, sheets[s].length - 1)) {
            return found(2);
        }
        sheets[s][i] = cut(type, v);
        return 1;
    }

    int get(int s, int type, int i) {
        if (!in(s, 0, 3) || !in(type, 0, 2)) {
            return Integer.MIN_VALUE;
        }
        if (sheets[s] == null) {
            found(1);
        } else if (types[s] != type) {
            found(3);
        } else if (!in(i, 0, sheets[s].length - 1)) {
            found(2);
        } else {
            return sheets[s][i];
        }
        return Integer.MIN_VALUE;
    }

    int copy(int s, int i, int t, int j, int n) {
        if (!in(s, 0, 3) || !in(t, 0, 3)) {
            return -2;
        }
        if (sheets[s] == null || sheets[t] == null) {
            return found(1);
        }
        if (types[s] != types[t]) {
            return found(4);
        }
        long endI = (long) i + n;
        long endJ = (long) j + n;
        if (i < 0 || j < 0 || n < 0 || endI > sheets[s].length || endJ > sheets[t].length) {
            return found(2);
        }
        int[] from = sheets[s].clone();
        for (int k = 0; k < n; k++) {
            sheets[t][j + k] = from[i + k];
        }
        return 1;
    }

    int write(int code, int other, int s) {
        if (!code(code) || !code(other) || !in(s, 0, 3)) {
            return -2;
        }
        if (sheets[s] == null) {
            return found(1);
        }
        List<Integer> row = partingOf(code, other);
        int n = 0;
        while (n < row.size() && n < sheets[s].length) {
            sheets[s][n] = row.get(n);
            n++;
        }
        return n;
    }

    int count(int what) {
        int told = (int) games.stream().filter(g -> g.verdicts != null).count();
        int bytes = Arrays.stream(texts).mapToInt(StringBuilder::length).sum();
        int[] all = {games.size(), told, clubs.size(), members.size(), bytes, a, b, quorum, finding};
        return in(what, 0, 8) ? all[what] : -2;
    }

    long digest() {
        List<Integer> all = new ArrayList<>();
        for (int i = 0; i < 8; i++) {
            all.add(count(i));
        }
        for (int i = 0; i < 11; i++) {
            all.add(fault(i));
        }
        for (int m = 0; m < games.size(); m++) {
            for (int i = 0; i < 6; i++) {
                all.add(played(m, 0, 0, 0, i));
            }
        }
        for (int[] club : clubs) {
            all.add(club[0]);
            all.add(club[1]);
        }
        for (int value : law) {
            all.add(value);
        }
        all.add(fitting());
        all.add(parts(0, 1));
        long h = 17;
        for (int value : all) {
            h = 31 * h + value;
        }
        return h;
    }
}
