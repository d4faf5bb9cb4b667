/** Promises 16 to 18 and 41: parts, parting, fewest, write. */
public final class PartingTest {
    public static void main(String[] args) {
        partings();
        noPartings();
        refusals();
        fewest();
        searchesInTurn();
        write();
        Due.end();
    }

    private static void part(String first, String second, int... due) {
        ElevenCodes x = Due.with(first, second);
        String name = first + " / " + second;
        Due.is("parts " + name, x.parts(0, 1), due.length == 0 ? -1 : due.length);
        Due.is("parts back " + name, x.parts(1, 0), due.length == 0 ? -1 : due.length);
        for (int i = 0; i < 8; i++) {
            Due.is("parting " + i + " " + name, x.parting(0, 1, i), i < due.length ? due[i] : -1);
        }
    }

    private static void partings() {
        part("n1", "", 1);
        part("a1", "", 21);
        part("a1", "a2", 1, 20);
        part("n0", "", 1, 0);
        part("n2", "", 1, 2);
        part("n3", "", 1, 0, 3);
        part("n4", "", 1, 4);
        part("n5", "", 1, 2, 5);
        part("n6", "", 1, 2, 6);
        part("n7", "", 1, 17);
        part("n8", "", 1, 4, 8);
        part("n9", "", 1, 0, 1, 9);
        part("g8=0", "", 1, 4, 8);
        part("g8=1", "g8=2", 1, 4, 8);
        part("g9=4", "", 1, 0, 1, 9);
        part("k1", "", 1, 4, 8);
        part("k1", "k2", 1, 4, 8);
        part("g4=1", "", 1, 0, 3, 4);
        // both stop the take alike, so it is the other side's by it
        part("n1;n8", "n1", 1, 14, 18);
        part("n13-3;n10-0", "n13-3", 1, 14, 10, 1);
        part("n10-0", "", 1, 4, 0, 11);
        part("n50-0", "", 1, 4, 0, 13, 15);
        // runs alone bring it to the last cell; there a stopped kick hands it over
        part("n0;n6;n8;n9;n20-0", "n0;n6;n8;n9", 1, 4, 4, 4, 0, 12);
    }

    private static void noPartings() {
        part("", "");
        part("n4;y4", "e3;t7");
        part("e3", "t7");
        part("n6;x", "");
        // the take alone is stopped for ever, by one side and by the other
        part("n1;n0;n2;n4;n7;n8;n9;n3", "n1;n0;n2;n4;n7;n8;n9");
        part("n1;n0;n2;n4;n7;n8;n9;n5;n6", "n1;n0;n2;n4;n7;n8;n9");
        // 7 moments would be needed
        part("n0;n6;n8;n9;n50-0", "n0;n6;n8;n9");
    }

    private static void refusals() {
        ElevenCodes x = Due.with("", "n1", "n7");
        Due.is("parting first asked", x.parting(0, 2, 1), 17);
        Due.is("parting of others", x.parting(0, 1, 1), -1);
        Due.is("parting as before", x.parting(2, 0, 1), 17);
        x.wipe(1);
        x.wipe(2);
        Due.is("parting of wiped ones", x.parting(2, 0, 1), -1);
        Due.is("parts -1", x.parts(-1, 0), -2);
        Due.is("parts 11", x.parts(11, 0), -2);
        Due.is("parts other", x.parts(0, 11), -2);
        Due.is("parts other -1", x.parts(0, -1), -2);
        Due.is("parting code", x.parting(11, 0, 0), -2);
        Due.is("parting other", x.parting(0, -1, 0), -2);
        Due.is("parting i", x.parting(0, 0, -1), -2);
        Due.is("parting far", x.parting(0, 0, 2147483647), -1);
        Due.is("fewest code", x.fewest(11, 0), -2);
        Due.is("fewest code -1", x.fewest(-1, 0), -2);
        Due.is("fewest side", x.fewest(0, 2), -2);
        Due.is("fewest side -1", x.fewest(0, -1), -2);
    }

    private static void few(String text, int due) {
        ElevenCodes x = Due.with(text);
        Due.is("fewest 0 " + text, x.fewest(0, 0), due);
        Due.is("fewest 1 " + text, x.fewest(0, 1), due);
    }

    private static void fewest() {
        few("", 3);
        few("t1;e1", 3);
        few("n8", 4);
        few("g8=0", 4);
        few("n8;n9", -1);
        few("n8;n9;g4=1", 4);
        few("g8=0;g9=0", -1);
        few("g8=0;g9=0;g4=9", 4);
        few("a2", 3);
        // no run, no kick: picked, thrown 2 on, taken
        few("n4;n0", 5);
        // where the take is stopped it is the other side's: side 1's take gives it to side 0
        few("n1", 3);
        // over from the last cell alone: kicked to 5, taken, run to 6
        few("n80-5;n9", 5);
        few("n80-5;n9;n4", 6);
        few("a2;n80-5;n9;n4", 6);
        // only one cell by a run, and only from the ground
        few("n0;n6;n2;n3", 3);
        few("n0;n6;n2;n3;n8", 4);
        few("n80-6;n90-5;n0;n6", 5);
    }

    /** What an earlier search has reached does not count in a later one, where the ball never leaves cell 3. */
    private static void searchesInTurn() {
        ElevenCodes x = Due.with("", "n3", "n4;n0;n2;n1", "n4;n0;n2;n1;n8");
        for (int turn = 0; turn < 2; turn++) {
            Due.is("fewest", x.fewest(0, 0), 3);
            Due.is("fewest, stuck", x.fewest(2, 0), -1);
            Due.is("fewest, stuck, side 1", x.fewest(2, 1), -1);
            Due.is("parts", x.parts(0, 1), 3);
            Due.is("parts, stuck", x.parts(2, 3), -1);
            Due.is("parting, stuck", x.parting(2, 3, 0), -1);
        }
    }

    private static void write() {
        ElevenCodes x = Due.with("g4=1", "", "e3");
        Due.is("write, lost", x.write(0, 1, 0), -11);
        Due.is("finding", x.count(8), 1);
        Due.sheet(x, 0, Due.SHORTS, -7, -7, -7, -7, -7, -7);
        Due.is("write", x.write(0, 1, 0), 4);
        int[] due = {1, 0, 3, 4, -7, -7};
        for (int i = 0; i < 6; i++) {
            Due.is("written " + i, x.get(0, Due.SHORTS, i), due[i]);
        }
        Due.sheet(x, 1, Due.BYTES, -7, -7);
        Due.is("write a short sheet", x.write(0, 1, 1), 2);
        Due.is("written 0", x.get(1, Due.BYTES, 0), 1);
        Due.is("written 1", x.get(1, Due.BYTES, 1), 0);
        Due.is("write no parting", x.write(1, 2, 1), 0);
        Due.is("written before", x.get(1, Due.BYTES, 0), 1);
        x.sheet(2, Due.INTS, 0);
        Due.is("write an empty sheet", x.write(0, 1, 2), 0);
        Due.is("write code", x.write(11, 1, 0), -2);
        Due.is("write other", x.write(0, -1, 0), -2);
        Due.is("write sheet", x.write(0, 1, 4), -2);
        Due.is("bad before null", x.write(0, 11, 3), -2);
    }
}
