/** Promises 32 to 35: way, draws, mate, cup. */
public final class CupTest {
    private static final int[] DRAWS = {1, 3, 15, 105, 945, 10395};

    public static void main(String[] args) {
        ways();
        draws();
        leastDraw();
        likeDraws();
        refusals();
        Due.end();
    }

    private static ElevenCodes with(int clubs) {
        ElevenCodes x = new ElevenCodes();
        for (int i = 0; i < clubs; i++) {
            x.club(0, 0);
        }
        return x;
    }

    private static void ways() {
        ElevenCodes x = with(3);
        Due.is("way at first", x.way(0, 1, 0), 50);
        Due.is("way back", x.way(1, 0, 99), 0);
        Due.is("way again", x.way(0, 1, 7), 99);
        Due.is("another way", x.way(2, 1, 7), 50);
        Due.is("way to itself", x.way(1, 1, 7), -2);
        Due.is("way -1", x.way(0, 1, -1), -2);
        Due.is("way 100", x.way(0, 1, 100), -2);
        Due.is("way of club -1", x.way(-1, 1, 1), -2);
        Due.is("way to club 3", x.way(0, 3, 1), -2);
        Due.is("way as it was", x.way(1, 0, 1), 7);
    }

    private static void draws() {
        ElevenCodes x = with(12);
        for (int n = 1; n <= 6; n++) {
            int clubs = (1 << 2 * n) - 1;
            Due.is("draws of " + 2 * n, x.draws(clubs, 50), DRAWS[n - 1]);
            Due.is("draws of none", x.draws(clubs, 49), 0);
            Due.is("cup", x.cup(clubs, 50), 50 * n);
            Due.is("cup of none", x.cup(clubs, 49), -3);
        }
        Due.is("draws of some", x.draws(1 | 1 << 5 | 1 << 9 | 1 << 11, 99), 3);
        Due.is("mate of some", x.mate(1 | 1 << 5 | 1 << 9 | 1 << 11, 99, 11), 9);
        for (int i = 0; i < 12; i++) {
            Due.is("mates of 12", x.mate(4095, 50, i), i ^ 1);
        }
        for (int i = 0; i < 11; i++) {
            x.way(i, 11, i == 4 ? 50 : 51);
        }
        Due.is("draws with one mate for 11", x.draws(4095, 50), 945);
        Due.is("the mate", x.mate(4095, 50, 11), 4);
        Due.is("the mate's mate", x.mate(4095, 50, 4), 11);
        Due.is("limit 51", x.draws(4095, 51), 10395);
    }

    private static void leastDraw() {
        ElevenCodes x = with(4);
        x.way(0, 1, 1);
        x.way(2, 3, 99);
        x.way(0, 2, 30);
        x.way(1, 3, 30);
        x.way(0, 3, 29);
        x.way(1, 2, 32);
        Due.is("cup", x.cup(15, 99), 60);
        Due.is("mate of 0", x.mate(15, 99, 0), 2);
        Due.is("mate of 1", x.mate(15, 99, 1), 3);
        Due.is("mate of 2", x.mate(15, 99, 2), 0);
        Due.is("mate of 3", x.mate(15, 99, 3), 1);
        Due.is("draws", x.draws(15, 98), 2);
        Due.is("draws, limit as a way", x.draws(15, 32), 2);
        Due.is("draws, one", x.draws(15, 31), 1);
        Due.is("no draws", x.draws(15, 29), 0);
        Due.is("mate, no draw", x.mate(15, 29, 0), -3);
        Due.is("two", x.cup(3, 1), 1);
        Due.is("two, too far", x.cup(3, 0), -3);
        Due.is("two, mates", x.mate(8 | 2, 30, 3), 1);
        x.way(0, 1, 0);
        x.way(2, 3, 0);
        Due.is("ways of 0", x.cup(15, 0), 0);
        Due.is("a draw at limit 0", x.draws(15, 0), 1);
        Due.is("its mates", x.mate(15, 0, 3), 2);
    }

    private static void likeDraws() {
        ElevenCodes x = with(6);
        x.way(0, 1, 51);
        // 0-2 is the least first mate; of the rest 1-3 comes before 1-4 and 1-5
        int[] mates = {2, 3, 0, 1, 5, 4};
        for (int i = 0; i < 6; i++) {
            Due.is("like draws, mate of " + i, x.mate(63, 99, i), mates[i]);
        }
        x.way(4, 5, 51);
        int[] then = {2, 4, 0, 5, 1, 3};
        for (int i = 0; i < 6; i++) {
            Due.is("then mate of " + i, x.mate(63, 99, i), then[i]);
        }
        Due.is("cup", x.cup(63, 99), 150);
    }

    private static void refusals() {
        ElevenCodes x = with(5);
        int[] wrong = {0, 1, 7, 31, 32, 33, 63, -1, -2147483648, 4095};
        for (int clubs : wrong) {
            Due.is("draws of " + clubs, x.draws(clubs, 50), -2);
            Due.is("cup of " + clubs, x.cup(clubs, 50), -2);
            Due.is("mate of " + clubs, x.mate(clubs, 50, 0), -2);
        }
        Due.is("draws limit -1", x.draws(3, -1), -2);
        Due.is("draws limit 100", x.draws(3, 100), -2);
        Due.is("cup limit -1", x.cup(3, -1), -2);
        Due.is("cup limit 100", x.cup(3, 100), -2);
        Due.is("mate limit -1", x.mate(3, -1, 0), -2);
        Due.is("mate limit 100", x.mate(3, 100, 0), -2);
        Due.is("mate not in it", x.mate(3, 50, 2), -2);
        Due.is("bad before not", x.mate(3, 49, 2), -2);
        Due.is("mate -1", x.mate(3, 50, -1), -2);
        Due.is("mate 32", x.mate(3, 50, 32), -2);
        Due.is("not", x.mate(3, 49, 1), -3);
    }
}
