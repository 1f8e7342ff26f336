import java.util.function.IntSupplier;

/**
 * One object under test, and the sentence of the document that it is made for: each call is told with that sentence
 * if its answer is not the one that is due.
 */
final class Names {
    private static final int MOST_CALLS = 512;

    private final ReferredNames object = new ReferredNames();
    private final String sentence;
    private int calls = 0;

    Names(String sentence) {
        this.sentence = sentence;
    }

    void put(long v, int n, boolean want) {
        told("put(" + v + ", " + n + ")", () -> object.put(v, n) ? 1 : 0, want ? 1 : 0);
    }

    void put(long v, int n) {
        put(v, n, true);
    }

    void give(int want) {
        told("give()", () -> object.give(), want);
    }

    void refer(int want) {
        told("refer()", () -> object.refer(), want);
    }

    void find(int want) {
        told("find()", () -> object.find(), want);
    }

    void look(int number, int what, int want) {
        told("look(" + number + ", " + what + ")", () -> object.look(number, what), want);
    }

    void byteOf(int number, int i, int want) {
        told("byteOf(" + number + ", " + i + ")", () -> object.byteOf(number, i), want);
    }

    void count(int what, int want) {
        told("count(" + what + ")", () -> object.count(what), want);
    }

    void clear(int want) {
        told("clear()", () -> object.clear(), want);
    }

    /** All that count tells, from count(0) on. */
    void counts(int... want) {
        for (int what = 0; what < want.length; what++) {
            count(what, want[what]);
        }
    }

    /** All that look tells of one name, from look(number, 0) on. */
    void looks(int number, int... want) {
        for (int what = 0; what < want.length; what++) {
            look(number, what, want[what]);
        }
    }

    /** A name of one byte is given: two calls. */
    void giveName(int letter, int want) {
        put(letter, 1);
        give(want);
    }

    /** A name of one byte is referred to: two calls. */
    void referName(int letter, int want) {
        put(letter, 1);
        refer(want);
    }

    /** The names of one byte from, .. to - 1, all new, are given: two calls for each. */
    void giveNames(int from, int to, int firstNumber) {
        for (int letter = from; letter < to; letter++) {
            giveName(letter, firstNumber + letter - from);
        }
    }

    /** The names of one byte from, .. to - 1, all new, are referred to: two calls for each. */
    void referNames(int from, int to, int firstNumber) {
        for (int letter = from; letter < to; letter++) {
            referName(letter, firstNumber + letter - from);
        }
    }

    /** So many bytes more come in hand, all the same: a call for each 8 and one for the rest. */
    void putMany(int howMany, int each) {
        long eight = 0x0101010101010101L * each;
        for (int left = howMany; left > 0; left -= 8) {
            put(eight, Math.min(left, 8));
        }
    }

    /** Calls that change nothing, until so many calls were made in all. */
    void callUntil(int made, int known) {
        while (calls < made) {
            count(0, known);
        }
    }

    // The answers of calls after the 512th are free: a test that compared them would ask for more than the document.
    private void told(String call, IntSupplier answer, int want) {
        calls++;
        String at = sentence + " | call " + calls + ", " + call;
        try {
            Due.is(at, answer.getAsInt(), want);
        } catch (RuntimeException thrown) {
            Due.isWrong(at + " threw " + thrown + ", due is " + want);
        }
        if (calls > MOST_CALLS) {
            Due.is(at + ": calls that the test may make", calls, MOST_CALLS);
        }
    }
}
