import java.util.ArrayList;
import java.util.List;

/**
 * A new object, called by texts, with each answer beside the one that is due. It keeps to the 512 calls
 * of the document. Behind each refused call it is looked whether the call has changed anything.
 */
final class Edge {
    static final int NONE = -1;
    static final int BAD = -2;
    static final int NOT = -3;
    static final int FULL = -4;
    static final int NULL = -11;
    static final int INDEX = -12;
    static final int CAST = -13;
    static final int STORE = -14;
    static final int SIZE = -15;
    static final int LEAST = Integer.MIN_VALUE;
    static final int[] WITHOUT_PARTS =
        {127, 127, 127, 127, 127, 127, 127, 127, 127, 127, 0, 1, 1, 0, 0, 0, 99};
    static final int CALLS = 512;

    private final ElevenCodes x = new ElevenCodes();
    private final List<String> calls = new ArrayList<>();
    private int matches = 0;

    /** A new object with these texts as codes 0, 1, .. */
    Edge(String... texts) {
        for (int code = 0; code < texts.length; code++) {
            text(code, texts[code]);
        }
    }

    Edge due(String call, long due) {
        long got = Calls.answer(x, call);
        Sentences.is(got == due ? call : call + " behind " + calls, got, due);
        if (due == BAD || due == NOT || due == FULL || due <= NULL) {
            // A value of get may look like a refusal: of get only the least int is one, told by 'got'.
            if (!Calls.nameOf(call).equals("get") && !Calls.nameOf(call).equals("digest")) {
                Twins.unchanged(calls, call, due <= NULL ? (int) (-10 - due) : 0);
            }
        }
        return recorded(call);
    }

    /** The same answer is due of all these calls. */
    Edge all(long due, String... them) {
        for (String call : them) {
            due(call, due);
        }
        return this;
    }

    /** An answer that is no refusal, of a call that changes nothing all the same. */
    Edge still(String call, long due) {
        Sentences.is(call, Calls.answer(x, call), due);
        Twins.unchanged(calls, call, 0);
        return recorded(call);
    }

    /** A get that is refused, with this finding (0: it is BAD, which is none). */
    Edge got(String call, int finding) {
        Sentences.is(call, Calls.answer(x, call), LEAST);
        Twins.unchanged(calls, call, finding);
        return recorded(call);
    }

    Edge text(int code, String text) {
        for (int i = 0; i < text.length(); i++) {
            due("type(" + code + ", " + (int) text.charAt(i) + ")", i + 1);
        }
        return this;
    }

    Edge row(int s, int type, int... items) {
        due("sheet(" + s + ", " + type + ", " + items.length + ")", items.length);
        for (int i = 0; i < items.length; i++) {
            due("lay(" + s + ", " + type + ", " + i + ", " + items[i] + ")", 1);
        }
        return this;
    }

    /** A match more, by sheet 3, which is lost behind it. */
    Edge match(int... moments) {
        row(3, 2, moments);
        due("match(3, " + moments.length + ")", matches);
        matches++;
        return due("lose(3)", moments.length);
    }

    Edge verdicts(int match, int... told) {
        row(3, 2, told);
        due("verdicts(" + match + ", 3)", 1);
        return due("lose(3)", told.length);
    }

    /** Clubs more, with codes 0 and no items held. */
    Edge clubs(int from, int to) {
        for (int i = from; i < to; i++) {
            due("club(0, 0)", i);
        }
        return this;
    }

    Edge members(int from, int to) {
        for (int i = from; i < to; i++) {
            due("member(" + i + ", true)", 1);
        }
        return this;
    }

    private Edge recorded(String call) {
        calls.add(call);
        if (calls.size() > CALLS) {
            Due.is("calls on one object, " + Sentences.now(), calls.size(), CALLS);
        }
        return this;
    }
}
