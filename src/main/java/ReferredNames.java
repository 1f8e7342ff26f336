/**
 * Names that are given as identifiers and referred to: none may be given twice,
 * all that are referred to are to be given, sooner or later.
 */
public final class ReferredNames {
    private static final int MOST_NAMES = 200;
    private static final int MOST_BYTES = 60;
    private static final int BYTES_OF_LONG = 8;

    private static final int NONE = -1;
    private static final int GIVEN_BEFORE = -1;
    private static final int NO_ROOM = -2;
    private static final int NOTHING_IN_HAND = -3;

    private final byte[] hand;
    private int handLength;

    // Name k has its bytes from k * MOST_BYTES on: all rows are made once, so that no call makes an object.
    private final byte[] bytes;
    private final int[] lengths;
    private final int[] givings;
    private final int[] referrals;
    private int known;

    public ReferredNames() {
        hand = new byte[MOST_BYTES];
        handLength = 0;
        bytes = new byte[MOST_NAMES * MOST_BYTES];
        lengths = new int[MOST_NAMES];
        givings = new int[MOST_NAMES];
        referrals = new int[MOST_NAMES];
        known = 0;
    }

    public boolean put(long v, int n) {
        if (n < 1 || n > BYTES_OF_LONG || n > MOST_BYTES - handLength) {
            return false;
        }
        for (int left = n - 1; left >= 0; left--) {
            hand[handLength] = (byte) (v >>> (8 * left));
            handLength++;
        }
        return true;
    }

    public int give() {
        if (handLength == 0) {
            return NOTHING_IN_HAND;
        }
        int number = takeHand();
        if (number < 0) {
            return number;
        }
        boolean before = isGiven(number);
        givings[number]++;
        return before ? GIVEN_BEFORE : number;
    }

    public int refer() {
        if (handLength == 0) {
            return NOTHING_IN_HAND;
        }
        int number = takeHand();
        if (number < 0) {
            return number;
        }
        referrals[number]++;
        return number;
    }

    public int find() {
        // No known name has length 0, so an empty hand is never found.
        for (int number = 0; number < known; number++) {
            if (isInHand(number)) {
                return number;
            }
        }
        return NONE;
    }

    public int look(int number, int what) {
        if (!isKnown(number)) {
            return NONE;
        }
        switch (what) {
            case 0:
                return givings[number];
            case 1:
                return referrals[number];
            case 2:
                return lengths[number];
            case 3:
                return firstMissingFrom(number + 1);
            default:
                return NONE;
        }
    }

    public int byteOf(int number, int i) {
        if (!isKnown(number) || i < 0 || i >= lengths[number]) {
            return NONE;
        }
        return bytes[number * MOST_BYTES + i] & 255;
    }

    public int count(int what) {
        switch (what) {
            case 0:
                return known;
            case 1:
                return countGiven();
            case 2:
                return countMissing();
            case 3:
                return countGivingsInVain();
            case 4:
                return handLength;
            case 5:
                return firstMissingFrom(0);
            default:
                return NONE;
        }
    }

    public int clear() {
        int were = known;
        known = 0;
        handLength = 0;
        return were;
    }

    // The hand is emptied for want of room too: the document calls only the empty hand's answer refused.
    private int takeHand() {
        int number = find();
        if (number == NONE) {
            number = learnHand();
        }
        handLength = 0;
        return number;
    }

    private int learnHand() {
        if (known >= MOST_NAMES) {
            return NO_ROOM;
        }
        int number = known;
        for (int i = 0; i < handLength; i++) {
            bytes[number * MOST_BYTES + i] = hand[i];
        }
        lengths[number] = handLength;
        // The row may hold the counts of a name from before a clear.
        givings[number] = 0;
        referrals[number] = 0;
        known++;
        return number;
    }

    private boolean isInHand(int number) {
        if (lengths[number] != handLength) {
            return false;
        }
        for (int i = 0; i < handLength; i++) {
            if (bytes[number * MOST_BYTES + i] != hand[i]) {
                return false;
            }
        }
        return true;
    }

    private boolean isKnown(int number) {
        return number >= 0 && number < known;
    }

    private boolean isGiven(int number) {
        return givings[number] != 0;
    }

    private boolean isMissing(int number) {
        return referrals[number] != 0 && !isGiven(number);
    }

    private int firstMissingFrom(int start) {
        for (int number = start; number < known; number++) {
            if (isMissing(number)) {
                return number;
            }
        }
        return NONE;
    }

    private int countGiven() {
        int sum = 0;
        for (int number = 0; number < known; number++) {
            if (isGiven(number)) {
                sum++;
            }
        }
        return sum;
    }

    private int countMissing() {
        int sum = 0;
        for (int number = 0; number < known; number++) {
            if (isMissing(number)) {
                sum++;
            }
        }
        return sum;
    }

    // Summed over the known names, so that a clear leaves none.
    private int countGivingsInVain() {
        int sum = 0;
        for (int number = 0; number < known; number++) {
            if (isGiven(number)) {
                sum += givings[number] - 1;
            }
        }
        return sum;
    }
}
