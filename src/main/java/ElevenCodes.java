import java.util.Arrays;

/**
 * Eleven codes of one game, the matches, clubs, association and cup that go by them.
 * What each call promises stands in the project's document; words in capitals there
 * are the plain words here.
 */
public final class ElevenCodes {
    public static final int NONE = -1, BAD = -2, NOT = -3, FULL = -4;

    private static final int CODES = 11;
    private static final int MATCHES = 12;
    private static final int CLUBS = 12;
    private static final int SHEETS = 4;

    private static final int TEXT_BYTES = 80;
    private static final int MATCH_MOMENTS = 40;
    private static final int SHEET_ITEMS = 60;
    private static final int WAY_MOST = 99;
    private static final int FIRST_WAY = 50;
    private static final int LINES_MOST = 9;
    private static final int PARTING_MOST = 6;
    private static final int FEWEST_MOST = 20;

    private static final int CELLS = 7;
    private static final int LAST = 6;
    private static final int MIDDLE = 3;
    private static final int NOBODY = 2;
    private static final int GROUND = 0, HANDS = 1, AIR = 2;
    private static final int BALLS = 63;

    private static final int ACTS = 10;
    private static final int KICK = 0, TAKE = 1, PICK = 2, CATCH = 3, RUN = 4;
    private static final int BACK = 5, THROW = 6, HACK = 7, OVER = 8, UNDER = 9;
    private static final int MOMENT_KINDS = 40;
    private static final int AHEAD_FROM = 20;

    private static final int EMPTY = 0, LET = 1, STOPPED = 2, UNSEEN = 3, BEHIND_THE_END = 4;
    private static final int NO_VERDICT = -1;

    private static final int ITEMS = 17;
    private static final int ITEM_SETS = 1 << ITEMS;
    private static final int RUN_POINTS = 10, OVER_POINTS = 11, UNDER_POINTS = 12;
    private static final int AHEAD_RULE = 13, AGAIN_RULE = 14, END_POINTS = 15, END_MOMENTS = 16;
    private static final int[] WITHOUT_PARTS =
        {127, 127, 127, 127, 127, 127, 127, 127, 127, 127, 0, 1, 1, 0, 0, 0, 99};

    private static final int PLAYED_WHATS = 9;
    private static final int MOMENTS_THERE_WERE = 5;
    private static final int TYPES = 3;
    private static final int BYTES = 0, SHORTS = 1;
    private static final int LEAST_INT = -2147483648;
    private static final int NULL = 1, INDEX = 2, CAST = 3, STORE = 4, SIZE = 5;

    private final Code[] codes = new Code[CODES];
    private final Match[] matches = new Match[MATCHES];
    private final Club[] clubs = new Club[CLUBS];
    private final Sheet[] sheets = new Sheet[SHEETS];
    private final int[] theLaw = WITHOUT_PARTS.clone();
    private final int[] mixed = new int[ITEMS];
    private final Play play = new Play();
    private final Search search = new Search();
    private final Lines lines = new Lines();
    private final Ways ways = new Ways();
    private int matchCount;
    private int clubCount;
    private int forShare = 2;
    private int ofShare = 3;
    private int quorum = 1;
    private int latestFinding;

    public ElevenCodes() {
        for (int i = 0; i < CODES; i++) {
            codes[i] = new Code();
        }
        for (int i = 0; i < MATCHES; i++) {
            matches[i] = new Match();
        }
        for (int i = 0; i < CLUBS; i++) {
            clubs[i] = new Club();
        }
        for (int i = 0; i < SHEETS; i++) {
            sheets[i] = new Sheet();
        }
    }

    // ---- codes

    public int type(int code, int b) {
        if (!isCode(code) || b < 0 || b > 255) {
            return BAD;
        }
        return codes[code].addByte(b);
    }

    public int wipe(int code) {
        if (!isCode(code)) {
            return BAD;
        }
        return codes[code].empty();
    }

    public int fault(int code) {
        if (!isCode(code)) {
            return BAD;
        }
        return codes[code].faultPlace;
    }

    public int item(int code, int item) {
        if (!isCode(code) || !isItem(item)) {
            return BAD;
        }
        return codes[code].items[item];
    }

    public int why(int code, int act, int cell) {
        if (!isCode(code) || !isAct(act) || !isCell(cell)) {
            return BAD;
        }
        return codes[code].saidBy[act * CELLS + cell];
    }

    public int differ(int code, int other) {
        if (!isCode(code) || !isCode(other)) {
            return BAD;
        }
        return unlike(codes[code].items, codes[other].items);
    }

    // ---- matches

    public int match(int s, int n) {
        if (!isSheet(s) || n < 0 || n > MATCH_MOMENTS) {
            return BAD;
        }
        if (sheets[s].lost) {
            return refuse(NULL);
        }
        if (n > sheets[s].size) {
            return refuse(INDEX);
        }
        if (matchCount >= MATCHES) {
            return FULL;
        }
        matches[matchCount].setMoments(sheets[s], n);
        matchCount++;
        return matchCount - 1;
    }

    public int verdicts(int match, int s) {
        if (!isMatch(match) || !isSheet(s)) {
            return BAD;
        }
        if (sheets[s].lost) {
            return refuse(NULL);
        }
        matches[match].setVerdicts(sheets[s]);
        return 1;
    }

    public int played(int match, int code, int other, int items, int what) {
        if (!isMatch(match) || !isCode(code) || !isCode(other) || !isItemSet(items) || !isPlayedWhat(what)) {
            return BAD;
        }
        mix(codes[code].items, codes[other].items, items);
        matches[match].playUnder(mixed, play);
        return play.answer(what);
    }

    public int goes(int match, int code, int i) {
        if (!isMatch(match) || !isCode(code) || i < 0 || i >= matches[match].size) {
            return BAD;
        }
        return matches[match].wayOf(i, codes[code].items, play);
    }

    public int turned(int code, int other) {
        if (!isCode(code) || !isCode(other)) {
            return BAD;
        }
        int turns = 0;
        for (int i = 0; i < matchCount; i++) {
            matches[i].playUnder(codes[code].items, play);
            int winner = play.winner();
            matches[i].playUnder(codes[other].items, play);
            if (play.winner() != winner) {
                turns++;
            }
        }
        return turns;
    }

    public int found(int act, int cell) {
        if (!isAct(act) || !isCell(cell)) {
            return BAD;
        }
        int seen = 0;
        for (int i = 0; i < matchCount; i++) {
            seen |= matches[i].customOf(act, cell, play);
        }
        return seen;
    }

    public int fits(int code, int match) {
        if (!isCode(code) || !isMatch(match)) {
            return BAD;
        }
        if (!matches[match].told) {
            return NOT;
        }
        return matches[match].agreesWith(codes[code].items, play) ? 1 : 0;
    }

    public int fitting() {
        int bits = 0;
        for (int i = 0; i < CODES; i++) {
            if (fitsAllTold(codes[i].items)) {
                bits |= 1 << i;
            }
        }
        return bits;
    }

    // ---- codes against one another

    public int parts(int code, int other) {
        if (!isCode(code) || !isCode(other)) {
            return BAD;
        }
        search.part(codes[code].items, codes[other].items);
        return search.length == 0 ? NONE : search.length;
    }

    public int parting(int code, int other, int i) {
        if (!isCode(code) || !isCode(other) || i < 0) {
            return BAD;
        }
        search.part(codes[code].items, codes[other].items);
        return i < search.length ? search.row[i] : NONE;
    }

    public int fewest(int code, int side) {
        if (!isCode(code) || side < 0 || side > 1) {
            return BAD;
        }
        return search.momentsToScore(codes[code].items, side);
    }

    // ---- clubs

    public int club(int code, int holds) {
        if (!isCode(code) || !isItemSet(holds)) {
            return BAD;
        }
        if (clubCount >= CLUBS) {
            return FULL;
        }
        clubs[clubCount].code = code;
        clubs[clubCount].holds = holds;
        clubCount++;
        return clubCount - 1;
    }

    public int change(int club, int what, int v) {
        if (!isClub(club)) {
            return BAD;
        }
        Club one = clubs[club];
        int was;
        if (what == 0 && isCode(v)) {
            was = one.code;
            one.code = v;
        } else if (what == 1 && isItemSet(v)) {
            was = one.holds;
            one.holds = v;
        } else {
            was = BAD;
        }
        return was;
    }

    public int agree(int a, int b) {
        if (!areTwoClubs(a, b)) {
            return BAD;
        }
        return atOdds(a, b) == 0 ? 1 : 0;
    }

    public int gives(int a, int b) {
        if (!areTwoClubs(a, b)) {
            return BAD;
        }
        if (atOdds(a, b) != 0) {
            return NOT;
        }
        return givenBy(a, b);
    }

    public int between(int a, int b, int match, int what) {
        if (!areTwoClubs(a, b) || !isMatch(match) || !isPlayedWhat(what)) {
            return BAD;
        }
        if (atOdds(a, b) != 0) {
            return NOT;
        }
        int lesser = Math.min(a, b);
        int greater = Math.max(a, b);
        mix(itemsOf(lesser), itemsOf(greater), givenBy(lesser, greater));
        matches[match].playUnder(mixed, play);
        return play.answer(what);
    }

    public int halves(int a, int b, int match, int what) {
        if (!areTwoClubs(a, b) || !isMatch(match) || !isPlayedWhat(what)) {
            return BAD;
        }
        matches[match].playByHalves(itemsOf(a), itemsOf(b), play);
        return play.answer(what);
    }

    // ---- an association

    public int member(int club, boolean is) {
        if (!isClub(club)) {
            return BAD;
        }
        if (clubs[club].isMember == is) {
            return 0;
        }
        clubs[club].isMember = is;
        return 1;
    }

    public int rule(int what, int v) {
        int was = BAD;
        if (what == 0 && v >= 1 && v <= ofShare) {
            was = forShare;
            forShare = v;
        } else if (what == 1 && v >= forShare && v <= 9) {
            was = ofShare;
            ofShare = v;
        } else if (what == 2 && v >= 0 && v <= CLUBS) {
            was = quorum;
            quorum = v;
        }
        return was;
    }

    public int law(int item) {
        if (!isItem(item)) {
            return BAD;
        }
        return theLaw[item];
    }

    public int enact(int code) {
        if (!isCode(code)) {
            return BAD;
        }
        System.arraycopy(codes[code].items, 0, theLaw, 0, ITEMS);
        return 1;
    }

    public int motion(int item, int code, int what) {
        if (!isItem(item) || !isCode(code) || what < 0 || what > 3) {
            return BAD;
        }
        int wanted = codes[code].items[item];
        switch (what) {
            case 0:
                return votesFor(item, wanted);
            case 1:
                return votesAgainst(item, wanted);
            case 2:
                return isCarried(item, wanted) ? 1 : 0;
            default:
                return leaving(item, wanted);
        }
    }

    public int put(int item, int code) {
        if (!isItem(item) || !isCode(code)) {
            return BAD;
        }
        int wanted = codes[code].items[item];
        if (!isCarried(item, wanted)) {
            return 0;
        }
        int leavers = leaving(item, wanted);
        for (int i = 0; i < clubCount; i++) {
            if ((leavers >> i & 1) == 1) {
                clubs[i].isMember = false;
            }
        }
        theLaw[item] = wanted;
        return 1;
    }

    public int best(int items, int code, int what) {
        if (!isItemSet(items) || Integer.bitCount(items) > LINES_MOST || !isCode(code) || what < 0 || what > 2) {
            return BAD;
        }
        seekLines(items, codes[code].items);
        if (what == 0) {
            return lines.bits;
        }
        return what == 1 ? lines.stay : lines.hurt;
    }

    // ---- a cup

    public int way(int a, int b, int w) {
        if (!areTwoClubs(a, b) || !isWay(w)) {
            return BAD;
        }
        return ways.setBetween(a, b, w);
    }

    public int draws(int clubs, int limit) {
        if (!isField(clubs) || !isWay(limit)) {
            return BAD;
        }
        return ways.countDraws(clubs, limit);
    }

    public int mate(int clubs, int limit, int club) {
        if (!isField(clubs) || !isWay(limit) || !isClub(club) || (clubs >> club & 1) == 0) {
            return BAD;
        }
        if (ways.leastTogether(clubs, limit) == NONE) {
            return NOT;
        }
        return ways.mateOf(club, clubs, limit);
    }

    public int cup(int clubs, int limit) {
        if (!isField(clubs) || !isWay(limit)) {
            return BAD;
        }
        int together = ways.leastTogether(clubs, limit);
        return together == NONE ? NOT : together;
    }

    // ---- sheets

    public int sheet(int s, int type, int n) {
        if (!isSheet(s) || !isType(type) || n > SHEET_ITEMS) {
            return BAD;
        }
        if (n < 0) {
            return refuse(SIZE);
        }
        sheets[s].renew(type, n);
        return n;
    }

    public int lose(int s) {
        if (!isSheet(s)) {
            return BAD;
        }
        if (sheets[s].lost) {
            return refuse(NULL);
        }
        sheets[s].lost = true;
        return sheets[s].size;
    }

    public int lay(int s, int type, int i, int v) {
        if (!isSheet(s) || !isType(type)) {
            return BAD;
        }
        int finding = findingOf(sheets[s], type, i);
        if (finding != 0) {
            return refuse(finding);
        }
        sheets[s].setItem(i, v);
        return 1;
    }

    public int get(int s, int type, int i) {
        if (!isSheet(s) || !isType(type)) {
            return LEAST_INT;
        }
        int finding = findingOf(sheets[s], type, i);
        if (finding != 0) {
            latestFinding = finding;
            return LEAST_INT;
        }
        return sheets[s].items[i];
    }

    public int copy(int s, int i, int t, int j, int n) {
        if (!isSheet(s) || !isSheet(t)) {
            return BAD;
        }
        if (sheets[s].lost || sheets[t].lost) {
            return refuse(NULL);
        }
        if (sheets[s].kind != sheets[t].kind) {
            return refuse(STORE);
        }
        if (!sheets[s].hasRow(i, n) || !sheets[t].hasRow(j, n)) {
            return refuse(INDEX);
        }
        System.arraycopy(sheets[s].items, i, sheets[t].items, j, n);
        return 1;
    }

    public int write(int code, int other, int s) {
        if (!isCode(code) || !isCode(other) || !isSheet(s)) {
            return BAD;
        }
        if (sheets[s].lost) {
            return refuse(NULL);
        }
        search.part(codes[code].items, codes[other].items);
        int n = Math.min(search.length, sheets[s].size);
        for (int i = 0; i < n; i++) {
            sheets[s].setItem(i, search.row[i]);
        }
        return n;
    }

    public int count(int what) {
        switch (what) {
            case 0:
                return matchCount;
            case 1:
                return toldMatches();
            case 2:
                return clubCount;
            case 3:
                return members();
            case 4:
                return bytesOfCodes();
            case 5:
                return forShare;
            case 6:
                return ofShare;
            case 7:
                return quorum;
            case 8:
                return latestFinding;
            default:
                return BAD;
        }
    }

    public long digest() {
        long h = 17;
        for (int what = 0; what <= 7; what++) {
            h = 31 * h + count(what);
        }
        for (int i = 0; i < CODES; i++) {
            h = 31 * h + codes[i].faultPlace;
        }
        for (int i = 0; i < matchCount; i++) {
            matches[i].playUnder(codes[0].items, play);
            for (int what = 0; what <= MOMENTS_THERE_WERE; what++) {
                h = 31 * h + play.answer(what);
            }
        }
        for (int i = 0; i < clubCount; i++) {
            h = 31 * h + clubs[i].code;
            h = 31 * h + clubs[i].holds;
        }
        for (int i = 0; i < ITEMS; i++) {
            h = 31 * h + theLaw[i];
        }
        h = 31 * h + fitting();
        return 31 * h + parts(0, 1);
    }

    // ---- what an argument may be

    private static boolean isCode(int code) {
        return code >= 0 && code < CODES;
    }

    private static boolean isItem(int item) {
        return item >= 0 && item < ITEMS;
    }

    private static boolean isItemSet(int items) {
        return items >= 0 && items < ITEM_SETS;
    }

    private static boolean isAct(int act) {
        return act >= 0 && act < ACTS;
    }

    private static boolean isCell(int cell) {
        return cell >= 0 && cell < CELLS;
    }

    private static boolean isPlayedWhat(int what) {
        return what >= 0 && what < PLAYED_WHATS;
    }

    private static boolean isWay(int w) {
        return w >= 0 && w <= WAY_MOST;
    }

    private static boolean isSheet(int s) {
        return s >= 0 && s < SHEETS;
    }

    private static boolean isType(int type) {
        return type >= 0 && type < TYPES;
    }

    private boolean isMatch(int match) {
        return match >= 0 && match < matchCount;
    }

    private boolean isClub(int club) {
        return club >= 0 && club < clubCount;
    }

    private boolean areTwoClubs(int a, int b) {
        return isClub(a) && isClub(b) && a != b;
    }

    /** Whether these are clubs that there are, an even number of them and not none. */
    private boolean isField(int bits) {
        return bits > 0 && bits < 1 << clubCount && Integer.bitCount(bits) % 2 == 0;
    }

    // ---- what several calls need

    private int refuse(int finding) {
        latestFinding = finding;
        return -10 - finding;
    }

    private static int findingOf(Sheet sheet, int type, int i) {
        if (sheet.lost) {
            return NULL;
        }
        if (sheet.kind != type) {
            return CAST;
        }
        return sheet.has(i) ? 0 : INDEX;
    }

    private static int unlike(int[] items, int[] others) {
        int bits = 0;
        for (int i = 0; i < ITEMS; i++) {
            if (items[i] != others[i]) {
                bits |= 1 << i;
            }
        }
        return bits;
    }

    private void mix(int[] first, int[] second, int fromSecond) {
        for (int i = 0; i < ITEMS; i++) {
            mixed[i] = (fromSecond >> i & 1) == 1 ? second[i] : first[i];
        }
    }

    private boolean fitsAllTold(int[] items) {
        for (int i = 0; i < matchCount; i++) {
            if (matches[i].told && !matches[i].agreesWith(items, play)) {
                return false;
            }
        }
        return true;
    }

    private int[] itemsOf(int club) {
        return codes[clubs[club].code].items;
    }

    /** The items that two clubs would each have their own way. */
    private int atOdds(int a, int b) {
        return unlike(itemsOf(a), itemsOf(b)) & clubs[a].holds & clubs[b].holds;
    }

    /** The unlike items that go the way of b, where both agree. */
    private int givenBy(int a, int b) {
        int unlikeItems = unlike(itemsOf(a), itemsOf(b));
        return a < b ? unlikeItems & clubs[b].holds : unlikeItems & ~clubs[a].holds;
    }

    private int votesFor(int item, int wanted) {
        int votes = 0;
        for (int i = 0; i < clubCount; i++) {
            if (clubs[i].isMember && itemsOf(i)[item] == wanted) {
                votes++;
            }
        }
        return votes;
    }

    private int votesAgainst(int item, int wanted) {
        // Who has it both as the law and as wanted is for it, so nobody is left to be against.
        return theLaw[item] == wanted ? 0 : votesFor(item, theLaw[item]);
    }

    private boolean isCarried(int item, int wanted) {
        int yes = votesFor(item, wanted);
        int all = yes + votesAgainst(item, wanted);
        return yes * ofShare >= forShare * all && all >= quorum;
    }

    private int leaving(int item, int wanted) {
        int bits = 0;
        for (int i = 0; i < clubCount; i++) {
            if (clubs[i].isMember && (clubs[i].holds >> item & 1) == 1 && itemsOf(i)[item] != wanted) {
                bits |= 1 << i;
            }
        }
        return bits;
    }

    /** Looks through all choices of these items, least bits first, and leaves the best in lines. */
    private void seekLines(int items, int[] from) {
        // An item that is alike in both changes nothing and only makes a choice longer.
        int open = items & unlike(theLaw, from);
        int choices = 1 << Integer.bitCount(open);
        lines.clear();
        int bits = 0;
        for (int i = 0; i < choices; i++) {
            mix(theLaw, from, bits);
            int stay = staying();
            if (stay >= lines.stay) {
                lines.offer(bits, stay, hurtInAll());
            }
            bits = (bits - open) & open;
        }
    }

    /** How many members would stay if the mixed items were the law. */
    private int staying() {
        int stay = 0;
        for (int i = 0; i < clubCount; i++) {
            if (clubs[i].isMember && (clubs[i].holds & unlike(mixed, itemsOf(i))) == 0) {
                stay++;
            }
        }
        return stay;
    }

    private int hurtInAll() {
        int hurt = 0;
        for (int i = 0; i < matchCount; i++) {
            matches[i].playUnder(mixed, play);
            hurt += play.hurt;
        }
        return hurt;
    }

    private int toldMatches() {
        int told = 0;
        for (int i = 0; i < matchCount; i++) {
            if (matches[i].told) {
                told++;
            }
        }
        return told;
    }

    private int members() {
        int members = 0;
        for (int i = 0; i < clubCount; i++) {
            if (clubs[i].isMember) {
                members++;
            }
        }
        return members;
    }

    private int bytesOfCodes() {
        int bytes = 0;
        for (int i = 0; i < CODES; i++) {
            bytes += codes[i].length;
        }
        return bytes;
    }

    // ---- moments and cells

    private static int sideOf(int moment) {
        return moment / ACTS % 2;
    }

    private static int actOf(int moment) {
        return moment % ACTS;
    }

    private static boolean isSeen(int moment) {
        return moment >= 0 && moment < MOMENT_KINDS;
    }

    /** The same cell counted from a side's own end, and back again. */
    private static int fromOwnEnd(int side, int cell) {
        return side == 0 ? cell : LAST - cell;
    }

    /** A code: its text, and what that says, read anew whenever the text changes. */
    private static final class Code {
        private final char[] text = new char[TEXT_BYTES];
        private final int[] items = WITHOUT_PARTS.clone();
        private final int[] saidBy = new int[ACTS * CELLS];
        private int length;
        private int faultPlace = NONE;
        private int at;

        Code() {
            Arrays.fill(saidBy, NONE);
        }

        int addByte(int b) {
            if (length >= TEXT_BYTES) {
                return FULL;
            }
            text[length] = (char) b;
            length++;
            read();
            return length;
        }

        int empty() {
            int had = length;
            length = 0;
            read();
            return had;
        }

        private void read() {
            forgetParts();
            faultPlace = length == 0 ? NONE : readParts();
            if (faultPlace != NONE) {
                forgetParts();
            }
        }

        private void forgetParts() {
            System.arraycopy(WITHOUT_PARTS, 0, items, 0, ITEMS);
            Arrays.fill(saidBy, NONE);
        }

        /** Each reader leaves its place in at, and answers the fault or none. */
        private int readParts() {
            at = 0;
            for (int part = 0; part < TEXT_BYTES; part++) {
                int wrong = readPart(part);
                if (wrong != NONE) {
                    return wrong;
                }
                if (at >= length) {
                    return NONE;
                }
                if (text[at] != ';') {
                    return at;
                }
                at++;
            }
            return at;
        }

        private int readPart(int part) {
            if (at >= length) {
                return at;
            }
            int kind = text[at];
            at++;
            switch (kind) {
                case 'y':
                    return readCells(part, true);
                case 'n':
                    return readCells(part, false);
                case 'g':
                    return readPoints();
                case 'a':
                    return readFigure(AHEAD_RULE, 2);
                case 'k':
                    return readFigure(AGAIN_RULE, 2);
                case 'e':
                    return readNumber(END_POINTS, 0);
                case 't':
                    return readNumber(END_MOMENTS, 1);
                default:
                    return at - 1;
            }
        }

        /** The figure at a place, or none where there is no figure. */
        private int figureAt(int place) {
            if (place < 0 || place >= length || text[place] < '0' || text[place] > '9') {
                return NONE;
            }
            return text[place] - '0';
        }

        private int readCells(int part, boolean let) {
            int act = figureAt(at);
            if (act == NONE) {
                return at;
            }
            at++;
            int from = 0;
            int to = LAST;
            if (figureAt(at) != NONE) {
                from = figureAt(at);
                if (from > LAST) {
                    return at;
                }
                at++;
                if (at >= length || text[at] != '-') {
                    return at;
                }
                at++;
                to = figureAt(at);
                if (to < from || to > LAST) {
                    return at;
                }
                at++;
            }
            say(part, act, from, to, let);
            return NONE;
        }

        private void say(int part, int act, int from, int to, boolean let) {
            for (int cell = from; cell <= to; cell++) {
                items[act] = let ? items[act] | 1 << cell : items[act] & ~(1 << cell);
                saidBy[act * CELLS + cell] = part;
            }
        }

        private int readPoints() {
            int act = figureAt(at);
            int item;
            if (act == RUN) {
                item = RUN_POINTS;
            } else if (act == OVER) {
                item = OVER_POINTS;
            } else if (act == UNDER) {
                item = UNDER_POINTS;
            } else {
                return at;
            }
            at++;
            if (at >= length || text[at] != '=') {
                return at;
            }
            at++;
            return readFigure(item, 9);
        }

        private int readFigure(int item, int most) {
            int figure = figureAt(at);
            if (figure == NONE || figure > most) {
                return at;
            }
            items[item] = figure;
            at++;
            return NONE;
        }

        private int readNumber(int item, int least) {
            int first = at;
            int number = figureAt(at);
            if (number == NONE) {
                return at;
            }
            at++;
            int second = figureAt(at);
            if (second != NONE) {
                number = 10 * number + second;
                at++;
            }
            if (number < least) {
                return first;
            }
            items[item] = number;
            return NONE;
        }
    }

    /** The ball as it lies now, and what has come of the moments till now. */
    private static final class Play {
        private int cell;
        private int owner;
        private int lies;
        private int scored;
        private int pointsOf0;
        private int pointsOf1;
        private int let;
        private int stopped;
        private int hurt;
        private int moments;

        void begin() {
            cell = MIDDLE;
            owner = NOBODY;
            lies = GROUND;
            scored = 0;
            pointsOf0 = 0;
            pointsOf1 = 0;
            let = 0;
            stopped = 0;
            hurt = 0;
            moments = 0;
        }

        /** The ball as one number below BALLS. */
        int ball() {
            return (cell * 3 + owner) * 3 + lies;
        }

        void setBall(int ball) {
            cell = ball / 9;
            owner = ball / 3 % 3;
            lies = ball % 3;
        }

        boolean isEnded(int[] items) {
            int enough = items[END_POINTS];
            return moments >= items[END_MOMENTS] || enough > 0 && (pointsOf0 >= enough || pointsOf1 >= enough);
        }

        /** One moment more under a code's items, and how it goes. */
        int step(int[] items, int moment) {
            moments++;
            scored = 0;
            if (!isSeen(moment)) {
                return UNSEEN;
            }
            int side = sideOf(moment);
            int act = actOf(moment);
            if (!canBe(side, act)) {
                return EMPTY;
            }
            if (isLet(items, moment)) {
                goOn(items, side, act);
                return LET;
            }
            stop(side);
            return STOPPED;
        }

        boolean canBe(int side, int act) {
            boolean own = owner == side;
            int place = fromOwnEnd(side, cell);
            switch (act) {
                case KICK:
                case PICK:
                    return own && lies == GROUND;
                case TAKE:
                    return !own && lies != HANDS;
                case CATCH:
                    return lies == AIR;
                case RUN:
                    return own && place < LAST;
                case BACK:
                case THROW:
                    return own && lies == HANDS;
                case HACK:
                    return owner == 1 - side;
                case OVER:
                    return own && place >= LAST - 2;
                case UNDER:
                    return own && lies == GROUND && place >= LAST - 1;
                default:
                    return false;
            }
        }

        private boolean isLet(int[] items, int moment) {
            int act = actOf(moment);
            if (moment >= AHEAD_FROM) {
                int rule = items[AHEAD_RULE];
                if (rule == 2 || rule == 1 && (act == TAKE || act == CATCH)) {
                    return false;
                }
            }
            return (items[act] >> fromOwnEnd(sideOf(moment), cell) & 1) == 1;
        }

        void stop(int side) {
            stopped++;
            owner = 1 - side;
            lies = GROUND;
        }

        void goOn(int[] items, int side, int act) {
            int place = fromOwnEnd(side, cell);
            let++;
            switch (act) {
                case KICK:
                case THROW:
                    becomes(fromOwnEnd(side, Math.min(LAST, place + 2)), NOBODY, AIR);
                    break;
                case TAKE:
                    becomes(cell, side, GROUND);
                    break;
                case PICK:
                case CATCH:
                    becomes(cell, side, HANDS);
                    break;
                case RUN:
                    cell = fromOwnEnd(side, place + 1);
                    if (lies == HANDS && place + 1 == LAST && items[RUN_POINTS] > 0) {
                        score(side, items[RUN_POINTS], items[AGAIN_RULE]);
                    }
                    break;
                case BACK:
                    becomes(fromOwnEnd(side, Math.max(0, place - 1)), NOBODY, AIR);
                    break;
                case HACK:
                    hurt++;
                    becomes(cell, NOBODY, GROUND);
                    break;
                default:
                    int points = act == OVER ? items[OVER_POINTS] : items[UNDER_POINTS];
                    if (points > 0) {
                        score(side, points, items[AGAIN_RULE]);
                    } else {
                        becomes(fromOwnEnd(side, LAST), NOBODY, GROUND);
                    }
                    break;
            }
        }

        private void becomes(int newCell, int newOwner, int newLies) {
            cell = newCell;
            owner = newOwner;
            lies = newLies;
        }

        private void score(int side, int points, int again) {
            scored = points;
            if (side == 0) {
                pointsOf0 += points;
            } else {
                pointsOf1 += points;
            }
            cell = MIDDLE;
            lies = GROUND;
            owner = NOBODY;
            if (again != 0) {
                owner = again == 1 ? 1 - side : side;
            }
        }

        int winner() {
            if (pointsOf0 == pointsOf1) {
                return NONE;
            }
            return pointsOf0 > pointsOf1 ? 0 : 1;
        }

        int answer(int what) {
            switch (what) {
                case 0:
                    return pointsOf0;
                case 1:
                    return pointsOf1;
                case 2:
                    return let;
                case 3:
                    return stopped;
                case 4:
                    return hurt;
                case MOMENTS_THERE_WERE:
                    return moments;
                case 6:
                    return winner();
                case 7:
                    return cell;
                case 8:
                    return owner;
                default:
                    return BAD;
            }
        }
    }

    /** A match: its moments, and the verdicts that were told of them. */
    private static final class Match {
        private final int[] moments = new int[MATCH_MOMENTS];
        private final int[] verdict = new int[MATCH_MOMENTS];
        private int size;
        private boolean told;

        Match() {
            Arrays.fill(verdict, NO_VERDICT);
        }

        void setMoments(Sheet sheet, int n) {
            size = Math.max(0, Math.min(n, MATCH_MOMENTS));
            System.arraycopy(sheet.items, 0, moments, 0, size);
        }

        void setVerdicts(Sheet sheet) {
            for (int i = 0; i < MATCH_MOMENTS; i++) {
                boolean isOne = sheet.has(i) && (sheet.items[i] == 0 || sheet.items[i] == 1);
                verdict[i] = isOne ? sheet.items[i] : NO_VERDICT;
            }
            told = true;
        }

        void playUnder(int[] items, Play play) {
            play.begin();
            for (int i = 0; i < size && !play.isEnded(items); i++) {
                play.step(items, moments[i]);
            }
        }

        void playByHalves(int[] first, int[] second, Play play) {
            play.begin();
            for (int i = 0; i < size; i++) {
                play.step(i < size / 2 ? first : second, moments[i]);
            }
        }

        int wayOf(int last, int[] items, Play play) {
            int how = BEHIND_THE_END;
            play.begin();
            for (int i = 0; i <= last && i < size; i++) {
                if (play.isEnded(items)) {
                    return BEHIND_THE_END;
                }
                how = play.step(items, moments[i]);
            }
            return how;
        }

        boolean agreesWith(int[] items, Play play) {
            play.begin();
            for (int i = 0; i < size && !play.isEnded(items); i++) {
                int how = play.step(items, moments[i]);
                if (how == LET && verdict[i] == 0 || how == STOPPED && verdict[i] == 1) {
                    return false;
                }
            }
            return true;
        }

        /** What the custom shows of an act in a cell: 1 it was let, 2 stopped, 3 both, 0 neither. */
        int customOf(int act, int cell, Play play) {
            int seen = 0;
            play.begin();
            for (int i = 0; i < size && isSeen(moments[i]); i++) {
                int side = sideOf(moments[i]);
                int now = actOf(moments[i]);
                if (!play.canBe(side, now)) {
                    continue;
                }
                if (verdict[i] == NO_VERDICT) {
                    break;
                }
                if (moments[i] < AHEAD_FROM && now == act && fromOwnEnd(side, play.cell) == cell) {
                    seen |= verdict[i] == 1 ? 1 : 2;
                }
                if (verdict[i] == 1) {
                    play.goOn(WITHOUT_PARTS, side, now);
                } else {
                    play.stop(side);
                }
            }
            return seen;
        }
    }

    /** A search over all ways in which the ball can lie, moment by moment, the least moments first. */
    private static final class Search {
        private final int[] queue = new int[BALLS];
        private final int[] depth = new int[BALLS];
        private final int[] before = new int[BALLS];
        private final int[] moment = new int[BALLS];
        private final int[] row = new int[PARTING_MOST];
        private final Play one = new Play();
        private final Play two = new Play();
        private int length;
        private int reached;

        /**
         * Leaves the parting in row and length, 0 for none. The queue holds the balls in the
         * order of their least rows, so that the first parting met is the least of the shortest.
         */
        void part(int[] first, int[] second) {
            length = 0;
            start();
            for (int head = 0; head < BALLS && head < reached; head++) {
                int from = queue[head];
                if (depth[from] >= PARTING_MOST) {
                    return;
                }
                for (int m = 0; m < MOMENT_KINDS; m++) {
                    one.setBall(from);
                    two.setBall(from);
                    int how = one.step(first, m);
                    if (how != two.step(second, m) || one.scored != two.scored || one.ball() != two.ball()) {
                        traceRow(from, m);
                        return;
                    }
                    reach(one.ball(), from, m);
                }
            }
        }

        /** The fewest moments till this side scores, or none. */
        int momentsToScore(int[] items, int side) {
            start();
            for (int head = 0; head < BALLS && head < reached; head++) {
                int from = queue[head];
                if (depth[from] >= FEWEST_MOST) {
                    return NONE;
                }
                for (int m = 0; m < MOMENT_KINDS; m++) {
                    one.setBall(from);
                    one.step(items, m);
                    if (one.scored > 0 && sideOf(m) == side) {
                        return depth[from] + 1;
                    }
                    reach(one.ball(), from, m);
                }
            }
            return NONE;
        }

        private void start() {
            Arrays.fill(depth, NONE);
            one.begin();
            two.begin();
            int ball = one.ball();
            depth[ball] = 0;
            queue[0] = ball;
            reached = 1;
        }

        private void reach(int ball, int from, int m) {
            if (depth[ball] != NONE || reached >= BALLS) {
                return;
            }
            depth[ball] = depth[from] + 1;
            before[ball] = from;
            moment[ball] = m;
            queue[reached] = ball;
            reached++;
        }

        private void traceRow(int from, int last) {
            int ball = from;
            length = depth[from] + 1;
            row[length - 1] = last;
            for (int i = length - 2; i >= 0; i--) {
                row[i] = moment[ball];
                ball = before[ball];
            }
        }
    }

    /** A club of the game, a member of the association or not. */
    private static final class Club {
        private int code;
        private int holds;
        private boolean isMember;
    }

    /** The best lines of those offered till now. */
    private static final class Lines {
        private int bits;
        private int stay;
        private int hurt;

        void clear() {
            bits = 0;
            stay = NONE;
            hurt = 0;
        }

        /** Of offers that are alike the first stands, so they come with the least bits first. */
        void offer(int newBits, int newStay, int newHurt) {
            boolean better = newStay > stay;
            if (newStay == stay) {
                better = newHurt < hurt || newHurt == hurt && Integer.bitCount(newBits) < Integer.bitCount(bits);
            }
            if (better) {
                bits = newBits;
                stay = newStay;
                hurt = newHurt;
            }
        }
    }

    /** The ways between clubs, and the draws that they leave. */
    private static final class Ways {
        private final int[] lengths = new int[CLUBS * CLUBS];
        /** Of each set of clubs what is asked: how many draws, or the least ways together. */
        private final int[] ofSet = new int[1 << CLUBS];

        Ways() {
            Arrays.fill(lengths, FIRST_WAY);
        }

        int setBetween(int a, int b, int w) {
            int was = lengths[a * CLUBS + b];
            lengths[a * CLUBS + b] = w;
            lengths[b * CLUBS + a] = w;
            return was;
        }

        int countDraws(int clubs, int limit) {
            ofSet[0] = 1;
            for (int set = 1; set <= clubs; set++) {
                if (isPart(set, clubs)) {
                    int least = Integer.numberOfTrailingZeros(set);
                    int draws = 0;
                    for (int mate = least + 1; mate < CLUBS; mate++) {
                        if (canMeet(set, least, mate, limit)) {
                            draws += ofSet[set ^ 1 << least ^ 1 << mate];
                        }
                    }
                    ofSet[set] = draws;
                }
            }
            return ofSet[clubs];
        }

        /** The ways of the draw together, or none where there is no draw. */
        int leastTogether(int clubs, int limit) {
            ofSet[0] = 0;
            for (int set = 1; set <= clubs; set++) {
                if (isPart(set, clubs)) {
                    ofSet[set] = NONE;
                    int least = Integer.numberOfTrailingZeros(set);
                    for (int mate = least + 1; mate < CLUBS; mate++) {
                        int together = togetherWith(set, least, mate, limit);
                        if (together != NONE && (ofSet[set] == NONE || together < ofSet[set])) {
                            ofSet[set] = together;
                        }
                    }
                }
            }
            return ofSet[clubs];
        }

        /** The mate in the draw, to be asked behind leastTogether of the same clubs and limit. */
        int mateOf(int club, int clubs, int limit) {
            int set = clubs;
            for (int pair = 0; pair < CLUBS / 2 && set != 0; pair++) {
                int least = Integer.numberOfTrailingZeros(set);
                int mate = least + 1;
                while (mate < CLUBS - 1 && togetherWith(set, least, mate, limit) != ofSet[set]) {
                    mate++;
                }
                if (club == least) {
                    return mate;
                }
                if (club == mate) {
                    return least;
                }
                set &= ~(1 << least | 1 << mate);
            }
            return NONE;
        }

        private static boolean isPart(int set, int clubs) {
            return (set & ~clubs) == 0 && Integer.bitCount(set) % 2 == 0;
        }

        private boolean canMeet(int set, int a, int b, int limit) {
            return (set >> b & 1) == 1 && lengths[a * CLUBS + b] <= limit;
        }

        private int togetherWith(int set, int least, int mate, int limit) {
            if (!canMeet(set, least, mate, limit)) {
                return NONE;
            }
            int rest = ofSet[set ^ 1 << least ^ 1 << mate];
            return rest == NONE ? NONE : rest + lengths[least * CLUBS + mate];
        }
    }

    /** A row of one type, or lost. */
    private static final class Sheet {
        private final int[] items = new int[SHEET_ITEMS];
        private boolean lost = true;
        private int kind;
        private int size;

        void renew(int newKind, int newSize) {
            Arrays.fill(items, 0);
            lost = false;
            kind = newKind;
            size = newSize;
        }

        boolean has(int i) {
            return i >= 0 && i < size;
        }

        boolean hasRow(int from, int n) {
            return from >= 0 && n >= 0 && n <= size && from <= size - n;
        }

        void setItem(int i, int v) {
            if (!has(i)) {
                return;
            }
            if (kind == BYTES) {
                items[i] = (byte) v;
            } else {
                items[i] = kind == SHORTS ? (short) v : v;
            }
        }
    }
}
