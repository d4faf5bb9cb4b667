/** Promises 25 to 31: member, rule, law, enact, motion, put, best. */
public final class AssociationTest {
    public static void main(String[] args) {
        members();
        rules();
        law();
        motions();
        carried();
        put();
        bestStay();
        bestHurt();
        bestRefusals();
        Due.end();
    }

    private static void members() {
        ElevenCodes x = new ElevenCodes();
        Due.is("member of no club", x.member(0, true), -2);
        x.club(0, 0);
        x.club(0, 0);
        Due.is("no member at first", x.member(0, false), 0);
        Due.is("member", x.member(0, true), 1);
        Due.is("member already", x.member(0, true), 0);
        Due.is("members", x.count(3), 1);
        Due.is("member no more", x.member(0, false), 1);
        Due.is("members", x.count(3), 0);
        Due.is("member -1", x.member(-1, true), -2);
        Due.is("member 2", x.member(2, false), -2);
    }

    private static void rules() {
        ElevenCodes x = new ElevenCodes();
        Due.is("A above B", x.rule(0, 4), -2);
        Due.is("A 0", x.rule(0, 0), -2);
        Due.is("A 3", x.rule(0, 3), 2);
        Due.is("B below A", x.rule(1, 2), -2);
        Due.is("B 10", x.rule(1, 10), -2);
        Due.is("B 9", x.rule(1, 9), 3);
        Due.is("A 9", x.rule(0, 9), 3);
        Due.is("A 10", x.rule(0, 10), -2);
        Due.is("A 1", x.rule(0, 1), 9);
        Due.is("B 0", x.rule(1, 0), -2);
        Due.is("B 1", x.rule(1, 1), 9);
        Due.is("quorum -1", x.rule(2, -1), -2);
        Due.is("quorum 13", x.rule(2, 13), -2);
        Due.is("quorum 12", x.rule(2, 12), 1);
        Due.is("quorum 0", x.rule(2, 0), 12);
        Due.is("rule 3", x.rule(3, 1), -2);
        Due.is("rule -1", x.rule(-1, 1), -2);
        Due.is("A", x.count(5), 1);
        Due.is("B", x.count(6), 1);
        Due.is("quorum", x.count(7), 0);
    }

    private static void law() {
        ElevenCodes x = Due.with("n0;g4=2;a1;k2;e3;t4");
        Due.is("law at first", x.law(0), 127);
        Due.is("enact", x.enact(0), 1);
        int[] due = {0, 127, 127, 127, 127, 127, 127, 127, 127, 127, 2, 1, 1, 1, 2, 3, 4};
        x.wipe(0);
        for (int i = 0; i < 17; i++) {
            Due.is("law " + i + " stays when the text goes", x.law(i), due[i]);
        }
        Due.is("law -1", x.law(-1), -2);
        Due.is("law 17", x.law(17), -2);
        Due.is("enact -1", x.enact(-1), -2);
        Due.is("enact 11", x.enact(11), -2);
    }

    /** Clubs 0 to 4 with codes 0, 1, 2, 0, 0; all hold e; the last is no member. */
    private static ElevenCodes association() {
        ElevenCodes x = Due.with("e5", "e7", "");
        int[] codes = {0, 1, 2, 0, 0};
        for (int i = 0; i < 5; i++) {
            x.club(codes[i], 1 << 15);
            x.member(i, i < 4);
        }
        return x;
    }

    private static void motions() {
        ElevenCodes x = association();
        Due.is("for", x.motion(15, 0, 0), 2);
        Due.is("against", x.motion(15, 0, 1), 1);
        Due.is("carried 2 of 3", x.motion(15, 0, 2), 1);
        Due.is("leaving", x.motion(15, 0, 3), 2 | 4);
        Due.is("for 7", x.motion(15, 1, 0), 1);
        Due.is("against 7", x.motion(15, 1, 1), 1);
        Due.is("not carried", x.motion(15, 1, 2), 0);
        Due.is("would leave", x.motion(15, 1, 3), 1 | 4 | 8);
        // what the law has already: nobody is against it
        Due.is("for the law's own", x.motion(15, 2, 0), 1);
        Due.is("against the law's own", x.motion(15, 2, 1), 0);
        Due.is("carried", x.motion(15, 2, 2), 1);
        Due.is("for another item", x.motion(3, 0, 0), 4);
        x.change(1, 1, 0);
        Due.is("who holds it not stays", x.motion(15, 0, 3), 4);
        Due.is("motion item -1", x.motion(-1, 0, 0), -2);
        Due.is("motion item 17", x.motion(17, 0, 0), -2);
        Due.is("motion code -1", x.motion(0, -1, 0), -2);
        Due.is("motion code 11", x.motion(0, 11, 0), -2);
        Due.is("motion what -1", x.motion(0, 0, -1), -2);
        Due.is("motion what 4", x.motion(0, 0, 4), -2);
    }

    private static void carried() {
        ElevenCodes x = association();
        x.rule(1, 4);
        x.rule(0, 3);
        Due.is("2 of 3 is below 3 of 4", x.motion(15, 0, 2), 0);
        x.rule(0, 2);
        Due.is("2 of 3 is above 1 of 2", x.motion(15, 0, 2), 1);
        x.rule(2, 4);
        Due.is("silent ones count for no quorum", x.motion(15, 0, 2), 0);
        x.rule(2, 3);
        Due.is("quorum met", x.motion(15, 0, 2), 1);
        for (int i = 0; i < 4; i++) {
            x.member(i, false);
        }
        x.rule(2, 1);
        Due.is("nobody, quorum 1", x.motion(15, 0, 2), 0);
        x.rule(2, 0);
        Due.is("nobody, quorum 0", x.motion(15, 0, 2), 1);
    }

    private static void put() {
        ElevenCodes x = association();
        Due.is("put, not carried", x.put(15, 1), 0);
        Due.is("law as before", x.law(15), 0);
        Due.is("members as before", x.count(3), 4);
        Due.is("put", x.put(15, 0), 1);
        Due.is("law", x.law(15), 5);
        Due.is("law of another item", x.law(16), 99);
        Due.is("members left", x.count(3), 2);
        Due.is("0 stays", x.member(0, true), 0);
        Due.is("1 left", x.member(1, true), 1);
        Due.is("2 left", x.member(2, false), 0);
        ElevenCodes y = association();
        y.member(3, false);
        y.member(4, false);
        y.rule(0, 1);
        Due.is("put by half of them", y.put(15, 1), 1);
        Due.is("the first left, too", y.member(0, false), 0);
        Due.is("one is left", y.count(3), 1);
        Due.is("put item -1", x.put(-1, 0), -2);
        Due.is("put item 17", x.put(17, 0), -2);
        Due.is("put code -1", x.put(0, -1), -2);
        Due.is("put code 11", x.put(0, 11), -2);
    }

    private static void bestStay() {
        ElevenCodes x = Due.with("n0;n1;n2", "n1", "n9");
        Due.is("nobody: nothing is taken", x.best(7, 0, 0), 0);
        Due.is("nobody stays", x.best(7, 0, 1), 0);
        x.club(0, 1 | 2);
        x.club(1, 1 | 2);
        x.club(1, 2);
        x.club(2, 1 << 9);
        for (int i = 0; i < 4; i++) {
            x.member(i, true);
        }
        // with item 1 alone clubs 1 and 2 stay; with 0 and 1 clubs 0 and 2
        Due.is("best", x.best(7, 0, 0), 2);
        Due.is("best stay", x.best(7, 0, 1), 2);
        x.change(1, 1, 0);
        Due.is("best of two items", x.best(7, 0, 0), 3);
        Due.is("three stay", x.best(7, 0, 1), 3);
        Due.is("an item not told holds them off", x.best(1 << 9, 0, 1), 1);
        Due.is("it is taken from another code", x.best(1 << 9, 2, 0), 1 << 9);
        Due.is("then one more stays", x.best(1 << 9, 2, 1), 2);
        x.member(2, false);
        Due.is("no member, no voice", x.best(7, 0, 1), 2);
        x.member(2, true);
        Due.is("law as before", x.law(0), 127);
        x.enact(0);
        Due.is("the law has them", x.best(7, 0, 0), 0);
        Due.is("and they stay", x.best(7, 0, 1), 3);
    }

    private static void bestHurt() {
        // hacks can be kept down by n7, by n1 or by t
        ElevenCodes x = Due.with("n7;n1;t2", "n7", "t2;n0", "e1;g4=9");
        Due.match(x, 1, 17, 1, 17);
        Due.match(x, 99, 1, 17);
        Due.is("n7 and t2: one item is enough", x.best(1 << 7 | 1 << 16, 0, 0), 1 << 7);
        Due.is("hurt by it", x.best(1 << 7 | 1 << 16, 0, 2), 0);
        // n1 gives the ball to side 1, so that no hack can be
        Due.is("of like ones the least bits", x.best(1 << 1 | 1 << 7 | 1 << 16, 0, 0), 1 << 1);
        Due.is("t2 keeps some", x.best(1 << 0 | 1 << 16, 2, 0), 1 << 16);
        Due.is("hurt still", x.best(1 << 0 | 1 << 16, 2, 2), 1);
        Due.is("no lines", x.best(0, 1, 2), 3);
        Due.is("nothing gained", x.best(1 << 10 | 1 << 15, 3, 0), 0);
        Due.is("hurt as before", x.best(1 << 10 | 1 << 15, 3, 2), 3);
        // picks and kicks together keep down as much as hacks alone
        ElevenCodes y = Due.with("n0;n2;n7", "n0;n2");
        Due.match(y, 1, 2, 17);
        Due.match(y, 11, 10, 13, 7);
        Due.is("without", y.best(0, 0, 2), 2);
        Due.is("kicks alone", y.best(1, 0, 2), 1);
        Due.is("picks alone", y.best(4, 0, 2), 1);
        Due.is("both", y.best(1 | 4, 0, 0), 5);
        Due.is("both are hurt by none", y.best(1 | 4, 0, 2), 0);
        Due.is("fewer items before less bits", y.best(1 | 4 | 1 << 7, 0, 0), 1 << 7);
        // staying comes before hurt
        x.club(4, 1 << 7);
        x.member(0, true);
        Due.is("who holds to hacks", x.best(1 << 7, 1, 0), 0);
        Due.is("stays", x.best(1 << 7, 1, 1), 1);
        Due.is("and is hurt", x.best(1 << 7, 1, 2), 3);
    }

    private static void bestRefusals() {
        ElevenCodes x = Due.with("n0;n1;n2;n3;n4;n5;n6;n7;n8;n9");
        Due.is("9 items", x.best(511, 0, 0), 0);
        Due.is("10 items", x.best(1023, 0, 0), -2);
        Due.is("items -1", x.best(-1, 0, 0), -2);
        Due.is("items 131072", x.best(131072, 0, 0), -2);
        Due.is("best code -1", x.best(0, -1, 0), -2);
        Due.is("best code 11", x.best(0, 11, 0), -2);
        Due.is("best what -1", x.best(0, 0, -1), -2);
        Due.is("best what 3", x.best(0, 0, 3), -2);
        x.club(0, 511);
        x.member(0, true);
        Due.is("all 9 are taken", x.best(511, 0, 0), 511);
        for (int i = 1; i < 12; i++) {
            x.club(0, 511);
            x.member(i, true);
        }
        Due.is("all 12 stay", x.best(511, 0, 1), 12);
        Due.is("12 members", x.count(3), 12);
        Due.is("12 for it", x.motion(0, 0, 0), 12);
        Due.is("12 would leave", x.motion(0, 1, 3), 4095);
        Due.is("all are silent", x.put(0, 1), 0);
        Due.is("so the law stays", x.law(0), 127);
    }
}
