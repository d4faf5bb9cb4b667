import java.util.Random;

/** Runs of calls drawn from fixed seeds, answered by the program and by the plain model alike. */
public final class RandomTest {
    private static final int RUNS = 400;
    private static final int CALLS = 512;
    private static final String LOOSE = "yngaket0123456789-=;; x";

    private final Random random;
    private final ElevenCodes x = new ElevenCodes();
    private final PlainModel model = new PlainModel();
    private final String run;
    private int calls = 0;

    private RandomTest(int seed) {
        random = new Random(seed);
        run = "seed " + seed + " ";
    }

    public static void main(String[] args) {
        int runs = args.length > 0 ? Integer.parseInt(args[0]) : RUNS;
        for (int seed = 0; seed < runs; seed++) {
            new RandomTest(seed).run();
        }
        Due.end();
    }

    private void run() {
        int texts = random.nextInt(5);
        for (int i = 0; i < texts; i++) {
            typeText(random.nextInt(4));
        }
        int clubs = random.nextInt(9);
        for (int i = 0; i < clubs; i++) {
            call(19);
            call(25);
        }
        int matches = random.nextInt(4);
        for (int i = 0; i < matches; i++) {
            fillMatch();
        }
        while (calls < CALLS - 90) {
            int kind = random.nextInt(60);
            if (kind < 42) {
                call(kind + 2);
            } else if (kind < 45) {
                typeText(near(11));
            } else if (kind == 45) {
                fillMatch();
            } else {
                call(10 + random.nextInt(26));
            }
        }
        same("digest", x.digest(), model.digest());
    }

    private void same(String name, long got, long due) {
        calls++;
        Due.is(run + name, got, due);
    }

    // ---- what calls are made with

    /** Mostly a number below n, at times one beside it or far off. */
    private int near(int n) {
        switch (random.nextInt(70)) {
            case 0:
                return -1;
            case 1:
                return n;
            case 2:
                return random.nextInt();
            default:
                return n <= 0 ? 0 : random.nextInt(n);
        }
    }

    private int code() {
        return random.nextInt(3) == 0 ? near(11) : near(4);
    }

    private int match() {
        return near(model.games.size());
    }

    private int club() {
        return near(model.clubs.size());
    }

    /** A set of items with few or many of them. */
    private int items() {
        int bits = near(131072);
        for (int i = random.nextInt(4); i > 0; i--) {
            bits &= random.nextInt(131072);
        }
        return bits;
    }

    private int clubSet() {
        return random.nextInt(10) == 0 ? near(4096) : random.nextInt(1 << model.clubs.size());
    }

    private int limit() {
        return random.nextBoolean() ? 99 : near(100);
    }

    private String part() {
        int act = random.nextInt(10);
        int from = random.nextInt(7);
        switch (random.nextInt(10)) {
            case 0:
                return "g" + "489".charAt(random.nextInt(3)) + "=" + random.nextInt(4);
            case 1:
                return "a" + random.nextInt(3);
            case 2:
                return "k" + random.nextInt(3);
            case 3:
                return "e" + random.nextInt(9);
            case 4:
                return "t" + (1 + random.nextInt(99));
            case 5:
                return "n" + act;
            case 6:
                return "y" + act;
            default:
                return (random.nextInt(3) == 0 ? "y" : "n") + act + from + "-" + (from + random.nextInt(7 - from));
        }
    }

    private void typeText(int code) {
        same("wipe", x.wipe(code), model.wipe(code));
        StringBuilder text = new StringBuilder(part());
        for (int i = random.nextInt(6); i > 0; i--) {
            text.append(';').append(part());
        }
        if (random.nextInt(3) == 0) {
            text.setCharAt(random.nextInt(text.length()), LOOSE.charAt(random.nextInt(LOOSE.length())));
        }
        for (int i = 0; i < text.length() && calls < CALLS - 60; i++) {
            same("type", x.type(code, text.charAt(i)), model.type(code, text.charAt(i)));
            if (random.nextInt(4) == 0) {
                same("fault of " + text.substring(0, i + 1), x.fault(code), model.fault(code));
            }
        }
    }

    /** A moment that can be most times, and the ball behind it. */
    private int likelyMoment(PlainModel.Ball ball) {
        for (int tries = 0; tries < 40; tries++) {
            int moment = random.nextInt(40);
            if (PlainModel.can(ball, moment % 20 / 10, moment % 10)) {
                return moment;
            }
        }
        return near(40);
    }

    private void fillMatch() {
        int n = random.nextInt(25);
        int type = random.nextInt(3);
        int[] items = model.items(random.nextInt(11));
        PlainModel.Ball ball = new PlainModel.Ball(3, 2, 0);
        same("sheet", x.sheet(0, type, n), model.sheet(0, type, n));
        same("sheet", x.sheet(1, type, n), model.sheet(1, type, n));
        for (int i = 0; i < n && calls < CALLS - 40; i++) {
            int moment = random.nextInt(12) == 0 ? near(45) : likelyMoment(ball);
            PlainModel.Step step = PlainModel.step(items, ball, moment);
            same("lay moment", x.lay(0, type, i, moment), model.lay(0, type, i, moment));
            int verdict = random.nextInt(20) == 0 ? random.nextInt(3) : step.went() == 2 ? 0 : 1;
            same("lay verdict", x.lay(1, type, i, verdict), model.lay(1, type, i, verdict));
            ball = step.ball();
        }
        same("match", x.match(0, n), model.match(0, n));
        if (random.nextBoolean()) {
            int match = model.games.size() - 1;
            same("verdicts", x.verdicts(match, 1), model.verdicts(match, 1));
        }
    }

    // ---- the calls by the number of their promise

    private void call(int promise) {
        if (promise <= 15) {
            callOfCodesAndMatches(promise);
        } else if (promise <= 24) {
            callOfPartingsAndClubs(promise);
        } else if (promise <= 35) {
            callOfAssociationAndCup(promise);
        } else {
            callOfSheets(promise);
        }
    }

    private void callOfCodesAndMatches(int promise) {
        int code = code();
        int other = code();
        int match = match();
        int i = near(25);
        int act = near(10);
        int cell = near(7);
        int sheet = near(4);
        int items = items();
        int item = near(17);
        int what = near(9);
        int b = near(256);
        // Loose bytes and wipes go to one code alone, so that the others keep good texts.
        int loose = near(12) == 11 ? 11 : 9;
        switch (promise) {
            case 2 -> same("type", x.type(loose, b), model.type(loose, b));
            case 3 -> same("wipe", x.wipe(loose), model.wipe(loose));
            case 4 -> same("fault", x.fault(code), model.fault(code));
            case 5 -> same("item", x.item(code, item), model.item(code, item));
            case 6 -> same("why", x.why(code, act, cell), model.why(code, act, cell));
            case 7 -> same("differ", x.differ(code, other), model.differ(code, other));
            case 8 -> same("match", x.match(sheet, i), model.match(sheet, i));
            case 9 -> same("verdicts", x.verdicts(match, sheet), model.verdicts(match, sheet));
            case 10 -> same("played", x.played(match, code, other, items, what),
                model.played(match, code, other, items, what));
            case 11 -> same("goes", x.goes(match, code, i), model.goes(match, code, i));
            case 12 -> same("turned", x.turned(code, other), model.turned(code, other));
            case 13 -> same("found", x.found(act, cell), model.foundOf(act, cell));
            case 14 -> same("fits", x.fits(code, match), model.fits(code, match));
            default -> same("fitting", x.fitting(), model.fitting());
        }
    }

    private void callOfPartingsAndClubs(int promise) {
        int code = code();
        int other = code();
        int one = club();
        int two = club();
        int match = match();
        int i = near(7);
        int side = near(2);
        int items = items();
        int what = near(9);
        int v = side == 0 ? code : items;
        switch (promise) {
            case 16 -> same("parts", x.parts(code, other), model.parts(code, other));
            case 17 -> same("parting", x.parting(code, other, i), model.parting(code, other, i));
            case 18 -> same("fewest", x.fewest(code, side), model.fewest(code, side));
            case 19 -> same("club", x.club(code, items), model.club(code, items));
            case 20 -> same("change", x.change(one, side, v), model.change(one, side, v));
            case 21 -> same("agree", x.agree(one, two), model.agree(one, two));
            case 22 -> same("gives", x.gives(one, two), model.gives(one, two));
            case 23 -> same("between", x.between(one, two, match, what), model.between(one, two, match, what));
            default -> same("halves", x.halves(one, two, match, what), model.halves(one, two, match, what));
        }
    }

    private void callOfAssociationAndCup(int promise) {
        int code = code();
        int one = club();
        int two = club();
        int item = near(17);
        int items = items();
        int three = near(3);
        int four = near(4);
        int share = near(10);
        int set = clubSet();
        int limit = limit();
        boolean is = random.nextInt(4) > 0;
        switch (promise) {
            case 25 -> same("member", x.member(one, is), model.member(one, is));
            case 26 -> same("rule", x.rule(three, share), model.rule(three, share));
            case 27 -> same("law", x.law(item), model.law(item));
            case 28 -> same("enact", x.enact(code), model.enact(code));
            case 29 -> same("motion", x.motion(item, code, four), model.motion(item, code, four));
            case 30 -> same("put", x.put(item, code), model.put(item, code));
            case 31 -> same("best", x.best(items, code, three), model.best(items, code, three));
            case 32 -> same("way", x.way(one, two, limit), model.way(one, two, limit));
            case 33 -> same("draws", x.draws(set, limit), model.draws(set, limit));
            case 34 -> same("mate", x.mate(set, limit, one), model.mate(set, limit, one));
            default -> same("cup", x.cup(set, limit), model.cup(set, limit));
        }
    }

    private void callOfSheets(int promise) {
        int code = code();
        int other = code();
        int s = near(4);
        int t = near(4);
        int type = random.nextInt(3) > 0 ? model.types[s & 3] : near(3);
        int n = random.nextInt(12) == 0 ? near(62) : near(9);
        int i = near(7);
        int j = near(7);
        int what = near(9);
        int v = random.nextBoolean() ? near(40) : random.nextInt();
        switch (promise) {
            case 36 -> same("sheet", x.sheet(s, type, n), model.sheet(s, type, n));
            case 37 -> same("lose", x.lose(s), model.lose(s));
            case 38 -> same("lay", x.lay(s, type, i, v), model.lay(s, type, i, v));
            case 39 -> same("get", x.get(s, type, i), model.get(s, type, i));
            case 40 -> same("copy", x.copy(s, i, t, j, n), model.copy(s, i, t, j, n));
            case 41 -> same("write", x.write(code, other, s), model.write(code, other, s));
            case 42 -> same("count", x.count(what), model.count(what));
            default -> same("digest", x.digest(), model.digest());
        }
    }
}
