import java.util.ArrayList;
import java.util.List;

/** Two objects of one state, of which one is given a call more: all that can be seen of both is alike. */
final class Twins {
    private static final String A_FINDING = "sheet(0, 0, -1)";
    private static final int CODES = 11;
    private static final int MATCHES = 12;
    private static final int CLUBS = 12;
    private static final int[] SHEET_ITEMS = {-1, 0, 1, 2, 3, 4, 5, 6, 7, 38, 39, 40, 41, 57, 58, 59, 60};
    private static final List<List<String>> LOOKS =
        List.of(ofCodes(), ofReasons(), ofCounts(), ofMatches(), ofClubs(), ofSheets());

    private Twins() {
    }

    /** The finding is the number that count(8) is to tell behind the call; 0: what it told before. */
    static void unchanged(List<String> before, String call, int finding) {
        for (List<String> look : LOOKS) {
            if (before.size() + look.size() + 3 > Edge.CALLS) {
                Due.is("calls to look behind " + call + ", " + Sentences.now(), before.size() + look.size(), 0);
                return;
            }
            ElevenCodes with = broughtBy(before);
            ElevenCodes without = broughtBy(before);
            Calls.answer(with, call);
            long was = Calls.answer(without, "count(8)");
            Sentences.is("finding behind " + call, Calls.answer(with, "count(8)"), finding == 0 ? was : finding);
            for (String one : look) {
                long due = Calls.answer(without, one);
                long got = Calls.answer(with, one);
                if (got != due) {
                    Sentences.is(one + ", changed by " + call + " behind " + before, got, due);
                }
            }
        }
    }

    /** A finding comes first, so that a lost one is seen. */
    private static ElevenCodes broughtBy(List<String> calls) {
        ElevenCodes x = new ElevenCodes();
        Calls.answer(x, A_FINDING);
        for (String call : calls) {
            Calls.answer(x, call);
        }
        return x;
    }

    private static String call(String name, int... given) {
        StringBuilder text = new StringBuilder(name).append('(');
        for (int i = 0; i < given.length; i++) {
            text.append(i == 0 ? "" : ", ").append(given[i]);
        }
        return text.append(')').toString();
    }

    private static List<String> ofCodes() {
        List<String> look = new ArrayList<>();
        for (int code = 0; code < CODES; code++) {
            look.add(call("fault", code));
            for (int item = 0; item < 17; item++) {
                look.add(call("item", code, item));
            }
        }
        for (int code = 0; code < CODES; code++) {
            look.add(call("wipe", code));
        }
        return look;
    }

    private static List<String> ofReasons() {
        List<String> look = new ArrayList<>();
        for (int code : new int[] {0, 1, 10}) {
            for (int act = 0; act < 10; act++) {
                for (int cell = 0; cell < 7; cell++) {
                    look.add(call("why", code, act, cell));
                }
            }
        }
        return look;
    }

    private static List<String> ofCounts() {
        List<String> look = new ArrayList<>();
        for (int what = 0; what < 8; what++) {
            look.add(call("count", what));
        }
        look.add("digest()");
        look.add("fitting()");
        for (int item = 0; item < 17; item++) {
            look.add(call("law", item));
        }
        for (int act = 0; act < 10; act++) {
            for (int cell = 0; cell < 7; cell++) {
                look.add(call("found", act, cell));
            }
        }
        return look;
    }

    private static List<String> ofMatches() {
        List<String> look = new ArrayList<>();
        for (int match = 0; match < MATCHES; match++) {
            for (int what = 0; what < 9; what++) {
                look.add(call("played", match, 0, 0, 0, what));
            }
            look.add(call("fits", 0, match));
        }
        for (int match : new int[] {0, 11}) {
            for (int i = 0; i < 40; i++) {
                look.add(call("goes", match, 1, i));
            }
        }
        return look;
    }

    private static List<String> ofClubs() {
        List<String> look = new ArrayList<>();
        for (int a = 0; a < CLUBS; a++) {
            look.add(call("change", a, 0, 0));
            look.add(call("change", a, 1, 0));
            look.add("member(" + a + ", false)");
            for (int b = a + 1; b < CLUBS; b++) {
                look.add(call("way", b, a, 0));
            }
        }
        return look;
    }

    private static List<String> ofSheets() {
        List<String> look = new ArrayList<>();
        for (int s = 0; s < 4; s++) {
            for (int type = 0; type < 3; type++) {
                for (int i : SHEET_ITEMS) {
                    look.add(call("get", s, type, i));
                }
            }
            look.add(call("lose", s));
        }
        return look;
    }
}
