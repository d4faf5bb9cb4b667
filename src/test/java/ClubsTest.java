/** Promises 19 to 24: club, change, agree, gives, between, halves. */
public final class ClubsTest {
    public static void main(String[] args) {
        clubs();
        agreements();
        between();
        halves();
        Due.end();
    }

    private static void clubs() {
        ElevenCodes x = new ElevenCodes();
        Due.is("club code -1", x.club(-1, 0), -2);
        Due.is("club code 11", x.club(11, 0), -2);
        Due.is("club holds -1", x.club(0, -1), -2);
        Due.is("club holds 131072", x.club(0, 131072), -2);
        for (int i = 0; i < 12; i++) {
            Due.is("club", x.club(i % 11, 131071 - i), i);
        }
        Due.is("club full", x.club(0, 0), -4);
        Due.is("bad before full", x.club(11, 0), -2);
        Due.is("clubs", x.count(2), 12);
        Due.is("change code", x.change(4, 0, 10), 4);
        Due.is("change code again", x.change(4, 0, 0), 10);
        Due.is("change holds", x.change(4, 1, 0), 131067);
        Due.is("change holds again", x.change(4, 1, 131071), 0);
        Due.is("change code 11", x.change(4, 0, 11), -2);
        Due.is("change code -1", x.change(4, 0, -1), -2);
        Due.is("change holds 131072", x.change(4, 1, 131072), -2);
        Due.is("change holds -1", x.change(4, 1, -1), -2);
        Due.is("change what 2", x.change(4, 2, 0), -2);
        Due.is("change what -1", x.change(4, -1, 0), -2);
        Due.is("change club -1", x.change(-1, 0, 0), -2);
        Due.is("change club 12", x.change(12, 0, 0), -2);
        Due.is("unchanged", x.change(4, 1, 0), 131071);
    }

    private static void agreements() {
        // items 0, 1, 2, 3 differ: each of four ways of holding
        ElevenCodes x = Due.with("n0;n1;n2;n3", "");
        x.club(0, 1 | 2 | 1 << 9);
        x.club(1, 2 | 4 | 1 << 9);
        Due.is("agree, both hold 1", x.agree(0, 1), 0);
        Due.is("agree back", x.agree(1, 0), 0);
        Due.is("gives", x.gives(0, 1), -3);
        Due.is("gives back", x.gives(1, 0), -3);
        x.change(0, 1, 1 | 1 << 9);
        Due.is("agree, what is alike both may hold", x.agree(0, 1), 1);
        Due.is("gives what the other holds", x.gives(0, 1), 2 | 4);
        Due.is("gives the rest, being the greater", x.gives(1, 0), 1 | 8);
        x.club(0, 0);
        Due.is("like codes", x.agree(0, 2), 1);
        Due.is("gives nothing", x.gives(0, 2), 0);
        x.change(2, 0, 5);
        Due.is("gives nothing, held by neither", x.gives(0, 2), 0);
        Due.is("gives all, being the greater", x.gives(2, 0), 15);
        int[][] wrong = {{0, 0}, {-1, 0}, {0, -1}, {3, 0}, {0, 3}};
        Due.match(x, 1);
        for (int[] two : wrong) {
            Due.is("agree of no two", x.agree(two[0], two[1]), -2);
            Due.is("gives of no two", x.gives(two[0], two[1]), -2);
            Due.is("between no two", x.between(two[0], two[1], 0, 0), -2);
            Due.is("halves of no two", x.halves(two[0], two[1], 0, 0), -2);
        }
        Due.is("between match", x.between(0, 1, 1, 0), -2);
        Due.is("between match -1", x.between(0, 1, -1, 0), -2);
        Due.is("between what", x.between(0, 1, 0, 9), -2);
        Due.is("between what -1", x.between(0, 1, 0, -1), -2);
        Due.is("halves match", x.halves(0, 1, 1, 0), -2);
        Due.is("halves match -1", x.halves(0, 1, -1, 0), -2);
        Due.is("halves what", x.halves(0, 1, 0, 9), -2);
        Due.is("halves what -1", x.halves(0, 1, 0, -1), -2);
    }

    private static void between() {
        ElevenCodes x = Due.with("n7;g8=2", "g8=5;t5");
        x.club(0, 0);
        x.club(1, 1 << 11);
        Due.match(x, 1, 17, 1, 4, 8, 1);
        for (int turn = 0; turn < 2; turn++) {
            int a = turn;
            int b = 1 - turn;
            Due.is("the lesser's n7", x.between(a, b, 0, 4), 0);
            Due.is("the holder's g", x.between(a, b, 0, 0), 5);
            Due.is("of the other", x.between(a, b, 0, 1), 0);
            Due.is("let", x.between(a, b, 0, 2), 4);
            Due.is("stopped", x.between(a, b, 0, 3), 1);
            Due.is("the lesser's t", x.between(a, b, 0, 5), 6);
            Due.is("winner", x.between(a, b, 0, 6), 0);
            Due.is("cell", x.between(a, b, 0, 7), 3);
            Due.is("whose", x.between(a, b, 0, 8), 0);
        }
        x.change(1, 1, 1 << 7 | 1 << 16);
        Due.is("held: hacks", x.between(0, 1, 0, 4), 1);
        Due.is("held: t", x.between(0, 1, 0, 5), 5);
        Due.is("not held: the lesser's g", x.between(0, 1, 0, 0), 2);
        x.change(0, 1, 1 << 7);
        Due.is("no agreement", x.between(0, 1, 0, 0), -3);
        Due.is("bad before not", x.between(0, 1, 0, 9), -2);
        Due.is("halves without agreement", x.halves(0, 1, 0, 4), 0);
    }

    private static void halves() {
        ElevenCodes x = Due.with("g8=3;t1;k2", "n7;g8=4;e1");
        x.club(0, 0);
        x.club(1, 0);
        Due.match(x, 1, 4, 8, 4, 8, 17, 8);
        // 3 moments under the first, from there on under the second; none of both ends it
        Due.is("points", x.halves(0, 1, 0, 0), 3 + 4);
        Due.is("moments", x.halves(0, 1, 0, 5), 7);
        Due.is("let", x.halves(0, 1, 0, 2), 5);
        Due.is("stopped", x.halves(0, 1, 0, 3), 0);
        Due.is("hurt", x.halves(0, 1, 0, 4), 0);
        Due.is("winner", x.halves(0, 1, 0, 6), 0);
        Due.is("cell", x.halves(0, 1, 0, 7), 3);
        Due.is("whose", x.halves(0, 1, 0, 8), 2);
        // k0 of the second leaves it nobody's, so that the run behind it is empty
        Due.is("back: points", x.halves(1, 0, 0, 0), 4);
        Due.is("back: let", x.halves(1, 0, 0, 2), 3);
        Due.match(x, 1, 17);
        Due.is("an even cut", x.halves(0, 1, 1, 3), 1);
        Due.is("an even cut, back", x.halves(1, 0, 1, 4), 1);
        Due.match(x, 17);
        Due.match(x);
        Due.is("one moment goes by the second", x.halves(0, 1, 2, 5), 1);
        Due.is("no moments", x.halves(0, 1, 3, 5), 0);
    }
}
