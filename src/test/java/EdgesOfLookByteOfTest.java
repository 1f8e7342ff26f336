/** Each sentence of promises 6 and 7 that names a boundary case. */
public final class EdgesOfLookByteOfTest {
    private static final int MIN = Integer.MIN_VALUE;
    private static final int MAX = Integer.MAX_VALUE;

    public static void main(String[] args) {
        timesGiven();
        timesReferredTo();
        howManyBytes();
        nextMissingIsBehindTheNumber();
        nextMissingSkipsGivenOnes();
        missingIsReferredToAndNotGiven();
        noneMissingBehind();
        noneMissingBehindTheLastOf200();
        lookAtNoSuchName();
        lookAtNoSuchNameAmong200();
        lookAtNoSuchWhat();
        lookChangesNothing();
        bytesFrom0To255();
        byteBelowTheFirst();
        byteBehindTheLast();
        byteOfAShorterNameAfterClear();
        byteOfNoSuchName();
        byteWhosePlaceWouldWrapAround();
        byteOfTheNameInHand();
        Due.end();
    }

    // Promise 6: "0 how many times it was given (also in vain)": never, once, in vain
    private static void timesGiven() {
        Names x = new Names("Promise 6: \"0 how many times it was given (also in vain)\"");
        x.referName('a', 0);
        x.look(0, 0, 0);
        x.giveName('a', 0);
        x.look(0, 0, 1);
        x.giveName('a', -1);
        x.look(0, 0, 2);
        x.giveName('a', -1);
        x.look(0, 0, 3);
        x.referName('a', 0);
        x.look(0, 0, 3);
        x.giveName('b', 1);
        x.look(1, 0, 1);
        x.look(0, 0, 3);
    }

    // Promise 6: "1 how many times referred to": never, once, more often, and after it was given
    private static void timesReferredTo() {
        Names x = new Names("Promise 6: \"1 how many times referred to\"");
        x.giveName('a', 0);
        x.look(0, 1, 0);
        x.referName('a', 0);
        x.look(0, 1, 1);
        x.referName('a', 0);
        x.look(0, 1, 2);
        x.giveName('a', -1);
        x.look(0, 1, 2);
        x.referName('b', 1);
        x.look(1, 1, 1);
        x.look(0, 1, 2);
    }

    // Promise 6: "2 how many bytes it has": the fewest and the most
    private static void howManyBytes() {
        Names x = new Names("Promise 6: \"2 how many bytes it has\"");
        x.giveName('a', 0);
        x.putMany(60, 'a');
        x.refer(1);
        x.putMany(59, 'a');
        x.refer(2);
        x.putMany(5, 'a');
        x.look(0, 2, 1);
        x.look(1, 2, 60);
        x.look(2, 2, 59);
    }

    // Promise 6: "3 the number of the next known one that is MISSING": next to a missing one is not that one itself
    private static void nextMissingIsBehindTheNumber() {
        Names x = new Names("Promise 6: \"3 the number of the next known one that is MISSING\"");
        x.referNames(0, 200, 0);
        for (int number : new int[] {0, 1, 99, 126, 127, 128, 197, 198}) {
            x.look(number, 3, number + 1);
        }
    }

    // Promise 6: "3 the number of the next known one that is MISSING": those between are left out, to the very last
    private static void nextMissingSkipsGivenOnes() {
        Names x = new Names("Promise 6: \"3 the number of the next known one that is MISSING\", far away");
        x.referName(0, 0);
        x.giveNames(1, 199, 1);
        x.referName(199, 199);
        x.look(0, 3, 199);
        x.look(1, 3, 199);
        x.look(198, 3, 199);
        x.look(199, 3, -1);
        x.referName(1, 1);
        x.look(0, 3, 199);
    }

    // Promise 6: "MISSING (referred to, and not given)"
    private static void missingIsReferredToAndNotGiven() {
        Names x = new Names("Promise 6: \"MISSING (referred to, and not given)\"");
        x.giveName('a', 0);
        x.giveName('b', 1);
        x.look(0, 3, -1);
        x.referName('b', 1);
        x.look(0, 3, -1);
        x.referName('c', 2);
        x.look(0, 3, 2);
        x.referName('c', 2);
        x.look(0, 3, 2);
        x.giveName('c', 2);
        x.look(0, 3, -1);
        x.referName('c', 2);
        x.look(0, 3, -1);
        x.giveName('c', -1);
        x.look(0, 3, -1);
    }

    // Promise 6: "-1 if there is none": it does not begin again from the first
    private static void noneMissingBehind() {
        Names x = new Names("Promise 6: \"-1 if there is none\"");
        x.referName('a', 0);
        x.look(0, 3, -1);
        x.referName('b', 1);
        x.giveName('c', 2);
        x.look(0, 3, 1);
        x.look(1, 3, -1);
        x.look(2, 3, -1);
    }

    // Promise 6: "-1 if there is none": behind the last name that there may be
    private static void noneMissingBehindTheLastOf200() {
        Names x = new Names("Promise 6: \"-1 if there is none\", behind number 199");
        x.referNames(0, 200, 0);
        x.look(199, 3, -1);
        x.giveName(199, 199);
        x.look(198, 3, -1);
        x.look(199, 3, -1);
    }

    // Promise 6: "-1 for no such name": too small, too large
    private static void lookAtNoSuchName() {
        Names x = new Names("Promise 6: \"-1 for no such name\"");
        x.referName('a', 0);
        x.referName('b', 1);
        x.put('c', 1);
        int[] numbers = {MIN, MIN + 1, -200, -2, -1, 2, 3, 199, 200, 201, 255, 256, 257, 65536, MAX - 1, MAX};
        for (int number : numbers) {
            x.looks(number, -1, -1, -1, -1);
        }
    }

    // Promise 6: "-1 for no such name": when as many are known as there may be
    private static void lookAtNoSuchNameAmong200() {
        Names x = new Names("Promise 6: \"-1 for no such name\", 200 known");
        x.referNames(0, 200, 0);
        for (int number : new int[] {MIN, -1, 200, 201, 256, MAX}) {
            x.looks(number, -1, -1, -1, -1);
        }
        x.looks(199, 0, 1, 1, -1);
    }

    // Promise 6: "-1 for no such .. what": too small, too large
    private static void lookAtNoSuchWhat() {
        Names x = new Names("Promise 6: \"-1 for no such name or what\"");
        x.giveName('a', 0);
        x.referName('a', 0);
        x.referName('b', 1);
        for (int what : new int[] {MIN, MIN + 1, -2, -1, 4, 5, 6, 7, 256, 257, 65536, MAX - 1, MAX}) {
            x.look(0, what, -1);
            x.look(1, what, -1);
            x.look(2, what, -1);
            x.look(-1, what, -1);
        }
        x.looks(0, 1, 1, 1, 1);
    }

    // Promise 6: "Of a known name": a look, right or wrong, leaves names and hand as they are
    private static void lookChangesNothing() {
        Names x = new Names("Promise 6: \"Of a known name\", nothing changes");
        x.giveName('a', 0);
        x.referName('b', 1);
        x.put(0x6364L, 2);
        x.looks(0, 1, 0, 1, 1);
        x.looks(2, -1, -1, -1, -1);
        x.byteOf(0, 0, 'a');
        x.byteOf(2, 0, -1);
        x.looks(0, 1, 0, 1, 1);
        x.counts(2, 1, 1, 0, 2, 1);
    }

    // Promise 7: "Byte i of a known name, 0 .. 255"
    private static void bytesFrom0To255() {
        Names x = new Names("Promise 7: \"Byte i of a known name, 0 .. 255\"");
        for (int part = 0; part < 8; part++) {
            for (int b = 32 * part; b < 32 * part + 32; b++) {
                if (b % 4 == 0) {
                    x.put((long) b << 24 | (b + 1) << 16 | (b + 2) << 8 | (b + 3), 4);
                }
            }
            x.give(part);
        }
        for (int b = 0; b < 256; b++) {
            x.byteOf(b / 32, b % 32, b);
        }
    }

    // Promise 7: "-1 if there is none": below byte 0, where another name's last byte could stand
    private static void byteBelowTheFirst() {
        Names x = new Names("Promise 7: \"-1 if there is none\", i too small");
        x.putMany(60, 'a');
        x.give(0);
        x.putMany(60, 'b');
        x.refer(1);
        for (int i : new int[] {-1, -2, -59, -60, -61, MIN, MIN + 1}) {
            x.byteOf(0, i, -1);
            x.byteOf(1, i, -1);
        }
        x.byteOf(0, 0, 'a');
        x.byteOf(1, 0, 'b');
    }

    // Promise 7: "-1 if there is none": behind the last byte, where another name's first byte could stand
    private static void byteBehindTheLast() {
        Names x = new Names("Promise 7: \"-1 if there is none\", i too large");
        x.putMany(60, 'a');
        x.give(0);
        x.putMany(59, 'b');
        x.refer(1);
        x.giveName('c', 2);
        x.byteOf(0, 59, 'a');
        x.byteOf(1, 58, 'b');
        x.byteOf(1, 59, -1);
        x.byteOf(2, 0, 'c');
        x.byteOf(2, 1, -1);
        for (int i : new int[] {60, 61, 119, 120, 121, 256, 65536, MAX - 1, MAX}) {
            x.byteOf(0, i, -1);
            x.byteOf(1, i, -1);
            x.byteOf(2, i, -1);
        }
    }

    // Promise 7: "-1 if there is none": bytes of a longer name from before a clear are none of a shorter one's
    private static void byteOfAShorterNameAfterClear() {
        Names x = new Names("Promise 7: \"-1 if there is none\", a longer name before");
        x.putMany(60, 'a');
        x.give(0);
        x.clear(1);
        x.byteOf(0, 0, -1);
        x.put(0x6263L, 2);
        x.give(0);
        x.byteOf(0, 0, 'b');
        x.byteOf(0, 1, 'c');
        x.byteOf(0, 2, -1);
        x.byteOf(0, 59, -1);
    }

    // Promise 7: "-1 if there is none": no such name
    private static void byteOfNoSuchName() {
        String sentence = "Promise 7: \"-1 if there is none\", no such name";
        Names x = new Names(sentence);
        x.byteOf(0, 0, -1);
        x.giveName('a', 0);
        x.referName('b', 1);
        for (int number : new int[] {MIN, MIN + 1, -2, -1, 2, 3, 199, 200, 201, 256, 65536, MAX - 1, MAX}) {
            x.byteOf(number, 0, -1);
            x.byteOf(number, -1, -1);
            x.byteOf(number, 60, -1);
            x.byteOf(number, MIN, -1);
            x.byteOf(number, MAX, -1);
        }
        Names full = new Names(sentence);
        full.giveNames(0, 200, 0);
        full.byteOf(199, 0, 199);
        full.byteOf(200, 0, -1);
        full.byteOf(-1, 0, -1);
        full.byteOf(199, 1, -1);
    }

    // Promise 7: "-1 if there is none": numbers whose place in a row of 60 or 64 for each name wraps around to a name's
    private static void byteWhosePlaceWouldWrapAround() {
        Names x = new Names("Promise 7: \"-1 if there is none\", wrap-around");
        x.putMany(60, 'a');
        x.give(0);
        x.putMany(60, 'b');
        x.give(1);
        for (int number : new int[] {71582789, 143165577, 1 << 26, (1 << 26) + 1, 1 << 30, -(1 << 26), MIN}) {
            x.byteOf(number, 0, -1);
            x.byteOf(number, 20, -1);
        }
        // Number and byte together come to a place of the rows, though neither is one of its own.
        x.byteOf(-1, 60, -1);
        x.byteOf(-1, 119, -1);
        x.byteOf(2, -60, -1);
        x.byteOf(2, -1, -1);
    }

    // Promise 7: "of a known name": the bytes in hand are none of a name's
    private static void byteOfTheNameInHand() {
        Names x = new Names("Promise 7: \"of a known name\", in hand alone");
        x.giveName('a', 0);
        x.put(0x6162L, 2);
        x.byteOf(0, 1, -1);
        x.byteOf(1, 0, -1);
        x.give(1);
        x.byteOf(1, 0, 'a');
        x.byteOf(1, 1, 'b');
    }
}
