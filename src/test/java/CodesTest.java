/** Promises 1 to 7: a new object, type, wipe, fault, item, why, differ. */
public final class CodesTest {
    private static final int[] WITHOUT_PARTS =
        {127, 127, 127, 127, 127, 127, 127, 127, 127, 127, 0, 1, 1, 0, 0, 0, 99};

    public static void main(String[] args) {
        newObject();
        typeAndWipe();
        faults();
        items();
        why();
        differ();
        Due.end();
    }

    private static void newObject() {
        ElevenCodes x = new ElevenCodes();
        int[] counts = {0, 0, 0, 0, 0, 2, 3, 1, 0};
        for (int what = 0; what < counts.length; what++) {
            Due.is("new count " + what, x.count(what), counts[what]);
        }
        for (int s = 0; s < 4; s++) {
            Due.is("new lose", x.lose(s), -11);
        }
        for (int code = 0; code < 11; code++) {
            Due.is("new fault", x.fault(code), ElevenCodes.NONE);
            for (int item = 0; item < 17; item++) {
                Due.is("new item", x.item(code, item), WITHOUT_PARTS[item]);
                Due.is("new law", x.law(item), WITHOUT_PARTS[item]);
            }
        }
        Due.is("new fitting", x.fitting(), 2047);
        Due.is("no match", x.played(0, 0, 0, 0, 0), ElevenCodes.BAD);
        Due.is("no club", x.member(0, true), ElevenCodes.BAD);
    }

    private static void typeAndWipe() {
        ElevenCodes x = new ElevenCodes();
        Due.is("type code -1", x.type(-1, 110), -2);
        Due.is("type code 11", x.type(11, 110), -2);
        Due.is("type byte -1", x.type(0, -1), -2);
        Due.is("type byte 256", x.type(0, 256), -2);
        Due.is("type byte 0", x.type(10, 0), 1);
        Due.is("type byte 255", x.type(10, 255), 2);
        Due.is("wipe", x.wipe(10), 2);
        Due.is("wipe again", x.wipe(10), 0);
        for (int i = 1; i <= 80; i++) {
            Due.is("type " + i, x.type(0, "a0;".charAt((i - 1) % 3)), i);
        }
        Due.is("fault of 80 bytes", x.fault(0), -1);
        Due.is("type 81", x.type(0, 48), -4);
        Due.is("bad before full", x.type(0, 256), -2);
        Due.is("fault behind full", x.fault(0), -1);
        Due.is("count 4", x.count(4), 80);
        Due.is("wipe 80", x.wipe(0), 80);
        Due.is("wiped fault", x.fault(0), -1);
        Due.is("wipe -1", x.wipe(-1), -2);
        Due.is("wipe 11", x.wipe(11), -2);
    }

    private static void fault(String text, int due) {
        ElevenCodes x = Due.with(text);
        Due.is("fault of " + text, x.fault(0), due);
        for (int item = 0; item < 17 && due != -1; item++) {
            Due.is("item of faulty " + text, x.item(0, item), WITHOUT_PARTS[item]);
        }
    }

    private static void faults() {
        String[] fine = {"", "n0", "y9", "n40-6", "y43-3", "g4=0", "g8=9", "g9=5", "a0", "a1", "a2", "k0", "k1", "k2",
            "e0", "e00", "e7", "e07", "e99", "t1", "t01", "t10", "t99", "n1;y2;g4=1;a1;k1;e5;t9", "n4;n4;n4"};
        for (String text : fine) {
            fault(text, -1);
        }
        fault(";", 0);
        fault("x", 0);
        fault("N4", 0);
        fault(" n4", 0);
        fault("4", 0);
        fault("n", 1);
        fault("nn", 1);
        fault("n;", 1);
        fault("n4x", 2);
        fault("n4-", 2);
        fault("n47", 2);
        fault("n49-9", 2);
        fault("n46", 3);
        fault("n46;", 3);
        fault("n4600", 3);
        fault("n46-", 4);
        fault("n46-5", 4);
        fault("n46-7", 4);
        fault("n46-x", 4);
        fault("n46-66", 5);
        fault("n4;", 3);
        fault("n4;;n4", 3);
        fault("n4;n", 4);
        fault("g", 1);
        fault("g0=1", 1);
        fault("g7=1", 1);
        fault("g=", 1);
        fault("g4", 2);
        fault("g41", 2);
        fault("g4=", 3);
        fault("g4=x", 3);
        fault("g4=12", 4);
        fault("a", 1);
        fault("a3", 1);
        fault("a9", 1);
        fault("a00", 2);
        fault("k", 1);
        fault("k3", 1);
        fault("k;", 1);
        fault("k22", 2);
        fault("e", 1);
        fault("ex", 1);
        fault("e1x", 2);
        fault("e123", 3);
        fault("t", 1);
        fault("t0", 1);
        fault("t00", 1);
        fault("t0x", 1);
        fault("t0;n4", 1);
        fault("t001", 1);
        fault("t123", 3);
        fault("n4;a9;n", 4);
        fault("n4;t0;n", 4);
        leftoversAndFullTexts();
        ElevenCodes x = new ElevenCodes();
        Due.is("fault -1", x.fault(-1), -2);
        Due.is("fault 11", x.fault(11), -2);
        x.type(3, 'n' + 128);
        Due.is("a high byte is no n", x.fault(3), 0);
    }

    /** Bytes that were wiped count no more, and there is nothing behind the 80th. */
    private static void leftoversAndFullTexts() {
        String[] whole = {"n4;n5", "n45-6", "n45-6", "g8=1", "g8=1", "e12", "a1", "n4"};
        int[] cut = {3, 4, 3, 3, 2, 1, 1, 1};
        for (int i = 0; i < whole.length; i++) {
            ElevenCodes x = Due.with(whole[i]);
            Due.text(x, 0, whole[i].substring(0, cut[i]));
            Due.is("cut " + whole[i], x.fault(0), cut[i]);
        }
        ElevenCodes y = Due.with("e12");
        Due.text(y, 0, "e1");
        Due.is("a number cut", y.item(0, 15), 1);
        Due.text(y, 0, "n41-3");
        Due.text(y, 0, "n4");
        Due.is("cells cut", y.item(0, 4), 0);
        String[] ends = {"a0;", "a0;n", "a0;n4", "a0;n45", "a0;n45-", "a0;n45-6", "a0;g", "a0;g8", "a0;g8=", "a0;e", "a0;e1"};
        boolean[] fine = {false, false, true, false, false, true, false, false, false, false, true};
        for (int i = 0; i < ends.length; i++) {
            String text = pad(80 - ends[i].length()) + ends[i];
            Due.is("80 bytes, ends with " + ends[i], Due.with(text).fault(0), fine[i] ? -1 : 80);
        }
    }

    /** Parts of just so many bytes (8 and more), each with its mark behind it. */
    private static String pad(int bytes) {
        StringBuilder text = new StringBuilder();
        for (int rest = bytes % 3; rest > 0; rest--) {
            text.append("e10;");
        }
        while (text.length() < bytes) {
            text.append("a0;");
        }
        return text.toString();
    }

    private static void items() {
        ElevenCodes x = Due.with("n0;n11-3;y12-2;n20-0;n36-6;n4;y4;g4=7;g8=0;g9=9;a2;k2;e42;t07", "e5;e06;t3;t10;a1;a0");
        int[] first = {0, 117, 126, 63, 127, 127, 127, 127, 127, 127, 7, 0, 9, 2, 2, 42, 7};
        int[] second = {127, 127, 127, 127, 127, 127, 127, 127, 127, 127, 0, 1, 1, 0, 0, 6, 10};
        for (int i = 0; i < 17; i++) {
            Due.is("item " + i, x.item(0, i), first[i]);
            Due.is("later part, item " + i, x.item(1, i), second[i]);
        }
        Due.is("item -1", x.item(0, -1), -2);
        Due.is("item 17", x.item(0, 17), -2);
        Due.is("item of code -1", x.item(-1, 0), -2);
        Due.is("item of code 11", x.item(11, 0), -2);
        x.type(0, ';');
        Due.is("item with a fault", x.item(0, 0), 127);
        x.type(0, 'k');
        x.type(0, '1');
        Due.is("item behind a fault", x.item(0, 0), 0);
        Due.is("later k", x.item(0, 14), 1);
        x.wipe(0);
        Due.is("item of a wiped code", x.item(0, 0), 127);
    }

    private static void why() {
        ElevenCodes x = Due.with("a1;n4;y42-4;g8=2;n53-3;y53-3");
        int[] due = {1, 1, 2, 2, 2, 1, 1};
        for (int cell = 0; cell < 7; cell++) {
            Due.is("why 4 " + cell, x.why(0, 4, cell), due[cell]);
            Due.is("why 8 " + cell, x.why(0, 8, cell), -1);
            Due.is("why 5 " + cell, x.why(0, 5, cell), cell == 3 ? 5 : -1);
        }
        Due.is("why of a new code", x.why(1, 0, 0), -1);
        Due.text(x, 2, "n0;y00-0");
        Due.is("why of the first act", x.why(2, 0, 0), 1);
        Due.is("why of the first act, last cell", x.why(2, 0, 6), 0);
        x.wipe(2);
        Due.is("why of a wiped code", x.why(2, 0, 0), -1);
        x.type(0, ';');
        Due.is("why with a fault", x.why(0, 4, 0), -1);
        Due.is("why code -1", x.why(-1, 4, 0), -2);
        Due.is("why code 11", x.why(11, 4, 0), -2);
        Due.is("why act -1", x.why(0, -1, 0), -2);
        Due.is("why act 10", x.why(0, 10, 0), -2);
        Due.is("why cell -1", x.why(0, 4, -1), -2);
        Due.is("why cell 7", x.why(0, 4, 7), -2);
    }

    private static void differ() {
        ElevenCodes x = Due.with("n0;g4=1;g8=2;g9=3;a1;k1;e1;t1", "n00-6;y00-6", "n0;n");
        Due.is("differ", x.differ(0, 1), 1 | 127 << 10);
        Due.is("differ back", x.differ(1, 0), 1 | 127 << 10);
        Due.is("differ, like items of unlike texts", x.differ(1, 3), 0);
        Due.is("differ, a fault", x.differ(2, 3), 0);
        Due.is("differ itself", x.differ(0, 0), 0);
        Due.is("differ -1", x.differ(-1, 0), -2);
        Due.is("differ 11", x.differ(0, 11), -2);
    }
}
