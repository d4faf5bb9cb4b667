/** Promises 36 to 40, 42 and 43: sheet, lose, lay, get, copy, count, digest. */
public final class SheetsTest {
    private static final int LEAST = Integer.MIN_VALUE;

    public static void main(String[] args) {
        sheets();
        layAndGet();
        findings();
        copy();
        counts();
        digest();
        Due.end();
    }

    private static void sheets() {
        ElevenCodes x = new ElevenCodes();
        Due.is("sheet", x.sheet(0, 0, 60), 60);
        Due.is("sheet of none", x.sheet(3, 2, 0), 0);
        Due.is("sheet 61", x.sheet(0, 0, 61), -2);
        Due.is("sheet -1", x.sheet(-1, 0, 1), -2);
        Due.is("sheet 4", x.sheet(4, 0, 1), -2);
        Due.is("type -1", x.sheet(0, -1, 1), -2);
        Due.is("type 3", x.sheet(0, 3, 1), -2);
        Due.is("bad before size", x.sheet(0, 3, -1), -2);
        Due.is("no finding yet", x.count(8), 0);
        Due.is("size", x.sheet(1, 0, -1), -15);
        Due.is("size, the least", x.sheet(0, 0, LEAST), -15);
        Due.is("finding", x.count(8), 5);
        Due.is("still lost", x.lose(1), -11);
        Due.is("as it was", x.lose(0), 60);
        Due.is("lost now", x.lose(0), -11);
        Due.is("finding", x.count(8), 1);
        Due.is("lose none", x.lose(3), 0);
        Due.is("lose -1", x.lose(-1), -2);
        Due.is("lose 4", x.lose(4), -2);
        Due.sheet(x, 0, Due.INTS, 5, 6);
        x.sheet(0, 2, 3);
        for (int i = 0; i < 3; i++) {
            Due.is("a new row has zeros", x.get(0, 2, i), 0);
        }
    }

    private static void layAndGet() {
        ElevenCodes x = new ElevenCodes();
        int[] values = {0, 1, -1, 127, 128, 255, 256, -129, 32767, 32768, 65536, -32769, LEAST, Integer.MAX_VALUE};
        for (int type = 0; type < 3; type++) {
            Due.sheet(x, type, type, values);
        }
        for (int i = 0; i < values.length; i++) {
            Due.is("byte " + values[i], x.get(0, 0, i), (byte) values[i]);
            Due.is("short " + values[i], x.get(1, 1, i), (short) values[i]);
            Due.is("int " + values[i], x.get(2, 2, i), values[i]);
        }
        Due.is("no finding", x.count(8), 0);
    }

    private static void findings() {
        ElevenCodes x = new ElevenCodes();
        x.sheet(0, 1, 2);
        int[][] bad = {{-1, 0}, {4, 0}, {0, -1}, {0, 3}, {1, 3}};
        for (int[] one : bad) {
            Due.is("lay bad", x.lay(one[0], one[1], 0, 1), -2);
            Due.is("get bad", x.get(one[0], one[1], 0), LEAST);
            Due.is("bad is no finding", x.count(8), 0);
        }
        int[][] cases = {{1, 0, 9, 1}, {0, 0, 9, 3}, {0, 2, 0, 3}, {0, 1, 2, 2}, {0, 1, -1, 2}, {0, 1, LEAST, 2}};
        for (int[] one : cases) {
            x.lose(3);
            Due.is("lay", x.lay(one[0], one[1], one[2], 1), -10 - one[3]);
            Due.is("finding of lay", x.count(8), one[3]);
            x.lose(3);
            Due.is("get", x.get(one[0], one[1], one[2]), LEAST);
            Due.is("finding of get", x.count(8), one[3]);
        }
        x.sheet(2, 0, 0);
        Due.is("no items at all", x.get(2, 0, 0), LEAST);
        Due.is("index", x.count(8), 2);
    }

    private static void copied(ElevenCodes x, int s, int... due) {
        for (int i = 0; i < due.length; i++) {
            Due.is("copied " + i, x.get(s, 0, i), due[i]);
        }
    }

    private static void copy() {
        ElevenCodes x = new ElevenCodes();
        Due.sheet(x, 0, Due.BYTES, 1, 2, 3, 4, 5);
        Due.sheet(x, 1, Due.BYTES, 9, 9, 9);
        x.sheet(2, 1, 5);
        Due.is("copy", x.copy(0, 3, 1, 1, 2), 1);
        copied(x, 1, 9, 4, 5);
        Due.is("copy on", x.copy(0, 0, 0, 1, 4), 1);
        copied(x, 0, 1, 1, 2, 3, 4);
        Due.is("copy back", x.copy(0, 2, 0, 0, 3), 1);
        copied(x, 0, 2, 3, 4, 3, 4);
        Due.is("copy none at the end", x.copy(0, 5, 1, 3, 0), 1);
        Due.is("copy all", x.copy(1, 0, 0, 2, 3), 1);
        copied(x, 0, 2, 3, 9, 4, 5);
        Due.is("copy sheet s", x.copy(-1, 0, 0, 0, 0), -2);
        Due.is("copy sheet s 4", x.copy(4, 0, 3, 0, 0), -2);
        Due.is("copy sheet t", x.copy(3, 0, 4, 0, 0), -2);
        Due.is("copy sheet t -1", x.copy(0, 0, -1, 0, 0), -2);
        Due.is("lost s", x.copy(3, 0, 0, 9, 9), -11);
        Due.is("lost t", x.copy(0, 9, 3, 9, 9), -11);
        Due.is("store", x.copy(0, 0, 2, 0, 1), -14);
        Due.is("finding", x.count(8), 4);
        Due.is("store before index", x.copy(2, -1, 0, 0, 1), -14);
        Due.is("store of none", x.copy(2, 0, 0, 0, 0), -14);
        int[][] wrong = {{-1, 0, 1}, {0, -1, 1}, {0, 0, -1}, {5, 0, 1}, {6, 0, 0}, {0, 4, 0}, {0, 3, 1}, {0, 0, 4},
            {3, 0, 3}, {Integer.MAX_VALUE, 0, 1}, {1, 0, Integer.MAX_VALUE}, {0, 0, LEAST}, {1, 1, Integer.MAX_VALUE}};
        for (int[] one : wrong) {
            Due.is("copy index", x.copy(0, one[0], 1, one[1], one[2]), -12);
        }
        copied(x, 0, 2, 3, 9, 4, 5);
        copied(x, 1, 9, 4, 5);
    }

    private static void counts() {
        ElevenCodes x = Due.with("n4;y4", "a1");
        Due.match(x, 1);
        Due.match(x, 1);
        Due.verdicts(x, 1, 1);
        x.club(0, 0);
        x.club(0, 0);
        x.club(0, 0);
        x.member(2, true);
        x.rule(0, 1);
        x.rule(1, 7);
        x.rule(2, 5);
        x.lose(0);
        x.copy(9, 9, 9, 9, 9);
        int[] due = {2, 1, 3, 1, 7, 1, 7, 5, 1};
        for (int what = 0; what < 9; what++) {
            Due.is("count " + what, x.count(what), due[what]);
        }
        Due.is("count -1", x.count(-1), -2);
        Due.is("count 9", x.count(9), -2);
    }

    private static void digest() {
        ElevenCodes x = new ElevenCodes();
        Due.is("digest of a new one", x.digest(), digestOf(x, 0, new int[0]));
        Due.text(x, 0, "n43-3;k1");
        Due.text(x, 1, "x");
        Due.match(x, 1, 4, 14, 17, 99, 11, 14, 18);
        Due.match(x, 11, 1, 7);
        Due.verdicts(x, 0, 1, 0);
        x.club(0, 77);
        x.club(3, 131071);
        x.member(1, true);
        x.enact(0);
        Due.is("digest", x.digest(), digestOf(x, 2, new int[] {0, 77, 3, 131071}));
        Due.text(x, 1, "n43-3;k1;n8");
        Due.is("digest with a parting", x.digest(), digestOf(x, 2, new int[] {0, 77, 3, 131071}));
        long before = x.digest();
        x.lose(0);
        Due.is("a finding is not in it", x.digest(), before);
    }

    private static long digestOf(ElevenCodes x, int matches, int[] clubs) {
        long h = 17;
        for (int i = 0; i < 8; i++) {
            h = 31 * h + x.count(i);
        }
        for (int i = 0; i < 11; i++) {
            h = 31 * h + x.fault(i);
        }
        for (int m = 0; m < matches; m++) {
            for (int i = 0; i < 6; i++) {
                h = 31 * h + x.played(m, 0, 0, 0, i);
            }
        }
        for (int value : clubs) {
            h = 31 * h + value;
        }
        for (int i = 0; i < 17; i++) {
            h = 31 * h + x.law(i);
        }
        h = 31 * h + x.fitting();
        return 31 * h + x.parts(0, 1);
    }
}
