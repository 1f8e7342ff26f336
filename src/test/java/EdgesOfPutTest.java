/** Each sentence of promise 2 that names a boundary case. */
public final class EdgesOfPutTest {
    private static final long EIGHT = 0x8182838485868788L;

    public static void main(String[] args) {
        theLowestBytes();
        theHighestFirst();
        bytesWithTheSignBit();
        smallestAndLargestValues();
        behindThoseInHand();
        oneAndEightAreTaken();
        lengthTooSmall();
        lengthTooLarge();
        lengthThatWouldWrapAround();
        wrongLengthWithAFullHand();
        sixtyExactly();
        moreThanSixty();
        roomAgainAfterGiveReferAndClear();
        Due.end();
    }

    // Promise 2: "The lowest n bytes of v": the higher ones are left out, for each n
    private static void theLowestBytes() {
        Names x = new Names("Promise 2: \"The lowest n bytes of v\"");
        for (int n = 1; n <= 8; n++) {
            x.put(EIGHT, n);
            x.count(4, n);
            x.give(n - 1);
            x.look(n - 1, 2, n);
            for (int i = 0; i < n; i++) {
                x.byteOf(n - 1, i, 0x88 - (n - 1 - i));
            }
        }
        // The same low bytes under other high ones are the same name.
        x.put(0x7788L, 1);
        x.find(0);
        x.give(-1);
        x.put(0x0100_0000_0000_0000L | EIGHT & 0xFFFFFFFFFFFFFFL, 7);
        x.find(6);
    }

    // Promise 2: "the highest of them first"
    private static void theHighestFirst() {
        Names x = new Names("Promise 2: \"the highest of them first\"");
        x.put(0x6162L, 2);
        x.give(0);
        x.put(0x6261L, 2);
        x.give(1);
        x.byteOf(0, 0, 0x61);
        x.byteOf(0, 1, 0x62);
        x.byteOf(1, 0, 0x62);
        x.byteOf(1, 1, 0x61);
        x.put('a', 1);
        x.put('b', 1);
        x.find(0);
    }

    // Promise 2: "The lowest n bytes of v": the sign of v is a bit like the others, for each place of the byte
    private static void bytesWithTheSignBit() {
        Names x = new Names("Promise 2: \"The lowest n bytes of v\", the highest bit of each byte");
        for (int place = 0; place < 8; place++) {
            x.put(0x80L << (8 * place), 8);
            x.give(place);
            for (int i = 0; i < 8; i++) {
                x.byteOf(place, i, i == 7 - place ? 0x80 : 0);
            }
        }
    }

    // Promise 2: "The lowest n bytes of v": of the smallest and the largest long, of -1 and of 0
    private static void smallestAndLargestValues() {
        Names x = new Names("Promise 2: \"The lowest n bytes of v\", smallest and largest v");
        long[] values = {Long.MIN_VALUE, Long.MAX_VALUE, -1L, 0L};
        int[] first = {0x80, 0x7F, 0xFF, 0};
        int[] rest = {0, 0xFF, 0xFF, 0};
        for (int k = 0; k < values.length; k++) {
            x.put(values[k], 8);
            x.give(k);
            x.byteOf(k, 0, first[k]);
            for (int i = 1; i < 8; i++) {
                x.byteOf(k, i, rest[k]);
            }
        }
        x.put(Long.MIN_VALUE, 1);
        x.give(4);
        x.byteOf(4, 0, 0);
        x.put(Long.MAX_VALUE, 1);
        x.give(5);
        x.byteOf(5, 0, 255);
    }

    // Promise 2: "come behind those in hand"
    private static void behindThoseInHand() {
        Names x = new Names("Promise 2: \"come behind those in hand\"");
        int[] lengths = {1, 8, 2, 7, 3, 6, 4, 5, 8, 8, 7, 1};
        int length = 0;
        for (int k = 0; k < lengths.length; k++) {
            x.put(0x0101010101010101L * (k + 1), lengths[k]);
            length += lengths[k];
            x.count(4, length);
        }
        x.refer(0);
        int i = 0;
        for (int k = 0; k < lengths.length; k++) {
            for (int end = i + lengths[k]; i < end; i++) {
                x.byteOf(0, i, k + 1);
            }
        }
    }

    // Promise 2: "true; false if n is not 1 .. 8": 1 and 8 themselves are taken
    private static void oneAndEightAreTaken() {
        Names x = new Names("Promise 2: \"false if n is not 1 .. 8\", smallest and largest");
        x.put(EIGHT, 1, true);
        x.count(4, 1);
        x.put(EIGHT, 8, true);
        x.count(4, 9);
    }

    // Promise 2: "false if n is not 1 .. 8": too small
    private static void lengthTooSmall() {
        Names x = new Names("Promise 2: \"false if n is not 1 .. 8\", too small");
        for (int n : new int[] {0, -1, -2, -7, -8, -60, -61, Integer.MIN_VALUE}) {
            x.put(EIGHT, n, false);
            x.count(4, 0);
        }
        x.put('a', 1);
        for (int n : new int[] {0, -1, -2, -7, -8, -60, -61, Integer.MIN_VALUE}) {
            x.put(EIGHT, n, false);
            x.count(4, 1);
        }
    }

    // Promise 2: "false if n is not 1 .. 8": too large, though the hand has room
    private static void lengthTooLarge() {
        Names x = new Names("Promise 2: \"false if n is not 1 .. 8\", too large");
        for (int n : new int[] {9, 10, 16, 32, 59, 60, 61, 64, Integer.MAX_VALUE}) {
            x.put(EIGHT, n, false);
            x.count(4, 0);
        }
        x.put('a', 1);
        for (int n : new int[] {9, 10, 16, 32, 59, 60, 61, 64, Integer.MAX_VALUE}) {
            x.put(EIGHT, n, false);
            x.count(4, 1);
        }
    }

    // Promise 2: "false if n is not 1 .. 8": an n that in fewer bits, or times 8, or with the hand added, would be one
    private static void lengthThatWouldWrapAround() {
        Names x = new Names("Promise 2: \"false if n is not 1 .. 8\", wrap-around");
        x.putMany(20, 'a');
        int[] lengths = {
            257, 264, 65537, 65544, -255, -248, -65535, 0x20000001, 0x20000008, Integer.MIN_VALUE + 1,
            Integer.MIN_VALUE + 8, Integer.MAX_VALUE - 19, Integer.MAX_VALUE - 20, Integer.MAX_VALUE - 7};
        for (int n : lengths) {
            x.put(EIGHT, n, false);
            x.count(4, 20);
        }
    }

    // Promise 2: "false if n is not 1 .. 8, or there would be more than 60": both at once
    private static void wrongLengthWithAFullHand() {
        Names x = new Names("Promise 2: \"false if n is not 1 .. 8, or there would be more than 60\"");
        x.putMany(60, 'a');
        for (int n : new int[] {Integer.MIN_VALUE, -60, -8, -1, 0, 1, 8, 9, 60, Integer.MAX_VALUE}) {
            x.put(EIGHT, n, false);
            x.count(4, 60);
        }
        x.give(0);
        x.byteOf(0, 0, 'a');
        x.byteOf(0, 59, 'a');
    }

    // Promise 2: "or there would be more than 60": sixty are not more than 60, for each n that comes to them
    private static void sixtyExactly() {
        for (int n = 1; n <= 8; n++) {
            Names x = new Names("Promise 2: \"or there would be more than 60\", 60 exactly");
            x.putMany(60 - n, 'a');
            x.put(EIGHT, n, true);
            x.count(4, 60);
            x.refer(0);
            x.look(0, 2, 60);
            x.byteOf(0, 59 - n, 'a');
            for (int i = 0; i < n; i++) {
                x.byteOf(0, 59 - i, 0x88 - i);
            }
        }
    }

    // Promise 2: "or there would be more than 60": one more is too many, for each n that comes to 61
    private static void moreThanSixty() {
        for (int n = 1; n <= 8; n++) {
            Names x = new Names("Promise 2: \"or there would be more than 60\", 61");
            x.putMany(61 - n, 'a');
            for (int more = n; more <= 8; more++) {
                x.put(EIGHT, more, false);
                x.count(4, 61 - n);
            }
            if (n > 1) {
                x.put(EIGHT, n - 1, true);
            }
            x.count(4, 60);
        }
    }

    // Promise 2: "or there would be more than 60": only what is in hand counts, not what was
    private static void roomAgainAfterGiveReferAndClear() {
        Names x = new Names("Promise 2: \"or there would be more than 60\", an emptied hand");
        x.putMany(60, 'a');
        x.give(0);
        x.putMany(60, 'b');
        x.put('b', 1, false);
        x.refer(1);
        x.putMany(60, 'a');
        x.give(-1);
        x.putMany(60, 'c');
        x.clear(2);
        x.putMany(60, 'd');
        x.put('d', 1, false);
        x.count(4, 60);
        x.give(0);
        x.byteOf(0, 0, 'd');
        x.byteOf(0, 59, 'd');
    }
}
