/** Each sentence of promises 8 and 9 that names a boundary case. */
public final class EdgesOfCountClearTest {
    private static final int MIN = Integer.MIN_VALUE;
    private static final int MAX = Integer.MAX_VALUE;

    public static void main(String[] args) {
        namesKnown();
        givenOnes();
        missingOnes();
        givingsInVain();
        bytesInHand();
        firstMissingOne();
        firstMissingOneOf200();
        noMissingOne();
        anotherWhat();
        clearOfNone();
        clearOfOne();
        clearOf200();
        noNameIsKnownAfterClear();
        noBytesAreInHandAfterClear();
        noGivingInVainAfterClear();
        namesAreNewAfterClear();
        roomFor200AfterClear();
        clearAgainAndAgain();
        Due.end();
    }

    // Promise 8: "0 how many names are known": none, one, as many as there may be, and no more
    private static void namesKnown() {
        Names x = new Names("Promise 8: \"0 how many names are known\"");
        x.count(0, 0);
        x.giveName(0, 0);
        x.count(0, 1);
        x.giveName(0, -1);
        x.referName(0, 0);
        x.count(0, 1);
        x.referNames(1, 200, 1);
        x.count(0, 200);
        x.giveName(200, -2);
        x.referName(200, -2);
        x.count(0, 200);
    }

    // Promise 8: "1 given ones": names, not givings; none, all of 200
    private static void givenOnes() {
        Names x = new Names("Promise 8: \"1 given ones\"");
        x.count(1, 0);
        x.referName(0, 0);
        x.count(1, 0);
        x.giveName(0, 0);
        x.count(1, 1);
        x.giveName(0, -1);
        x.count(1, 1);
        x.giveNames(1, 200, 1);
        x.count(1, 200);
        x.giveName(200, -2);
        x.count(1, 200);
    }

    // Promise 8: "2 missing ones": names, not referrals; none, all of 200
    private static void missingOnes() {
        Names x = new Names("Promise 8: \"2 missing ones\"");
        x.count(2, 0);
        x.giveName(0, 0);
        x.referName(0, 0);
        x.count(2, 0);
        x.referName(1, 1);
        x.referName(1, 1);
        x.count(2, 1);
        x.giveName(1, 1);
        x.count(2, 0);
        x.clear(2);
        x.referNames(0, 200, 0);
        x.count(2, 200);
        x.referName(200, -2);
        x.count(2, 200);
        x.giveName(199, 199);
        x.giveName(199, -1);
        x.count(2, 199);
    }

    // Promise 8: "3 givings in vain": not those refused, nor those without room, nor the first of a name
    private static void givingsInVain() {
        Names x = new Names("Promise 8: \"3 givings in vain\"");
        x.count(3, 0);
        x.give(-3);
        x.count(3, 0);
        x.referName(0, 0);
        x.giveName(0, 0);
        x.count(3, 0);
        x.giveName(0, -1);
        x.count(3, 1);
        x.giveNames(1, 200, 1);
        x.count(3, 1);
        x.giveName(200, -2);
        x.count(3, 1);
        x.giveName(199, -1);
        x.giveName(0, -1);
        x.count(3, 3);
    }

    // Promise 8: "4 bytes in hand": 0 .. 60
    private static void bytesInHand() {
        Names x = new Names("Promise 8: \"4 bytes in hand\"");
        x.count(4, 0);
        for (int length = 1; length <= 60; length++) {
            x.put(length, 1);
            x.count(4, length);
        }
        x.put(61, 1, false);
        x.count(4, 60);
        x.find(-1);
        x.count(4, 60);
        x.give(0);
        x.count(4, 0);
        x.put(1, 8);
        x.count(4, 8);
        x.refer(1);
        x.count(4, 0);
    }

    // Promise 8: "5 the number of the first missing one": the first by its number, be it number 0
    private static void firstMissingOne() {
        Names x = new Names("Promise 8: \"5 the number of the first missing one\"");
        x.referName('a', 0);
        x.count(5, 0);
        x.referName('b', 1);
        x.giveName('c', 2);
        x.referName('d', 3);
        x.count(5, 0);
        x.giveName('a', 0);
        x.count(5, 1);
        x.giveName('b', 1);
        x.count(5, 3);
        x.referName('a', 0);
        x.count(5, 3);
    }

    // Promise 8: "5 the number of the first missing one": be it the last of as many as there may be
    private static void firstMissingOneOf200() {
        Names x = new Names("Promise 8: \"5 the number of the first missing one\", number 199");
        x.giveNames(0, 199, 0);
        x.referName(199, 199);
        x.count(5, 199);
        x.giveName(199, 199);
        x.count(5, -1);
    }

    // Promise 8: "(-1: none)"
    private static void noMissingOne() {
        Names x = new Names("Promise 8: \"(-1: none)\"");
        x.count(5, -1);
        x.put('a', 1);
        x.count(5, -1);
        x.give(0);
        x.count(5, -1);
        x.referName('a', 0);
        x.count(5, -1);
        x.referName('b', 1);
        x.count(5, 1);
        x.giveName('b', 1);
        x.count(5, -1);
        x.referName('c', 2);
        x.clear(3);
        x.count(5, -1);
    }

    // Promise 8: "-1 for another what": too small, too large
    private static void anotherWhat() {
        Names x = new Names("Promise 8: \"-1 for another what\"");
        int[] others = {MIN, MIN + 1, -6, -5, -4, -3, -2, -1, 6, 7, 8, 200, 256, 257, 261, 65536, MAX - 1, MAX};
        for (int what : others) {
            x.count(what, -1);
        }
        x.giveName('a', 0);
        x.giveName('a', -1);
        x.referName('b', 1);
        x.put(0x6162L, 2);
        for (int what : others) {
            x.count(what, -1);
        }
        x.counts(2, 1, 1, 1, 2, 1);
    }

    // Promise 9: "how many names were known": none
    private static void clearOfNone() {
        Names x = new Names("Promise 9: \"how many names were known\", none");
        x.clear(0);
        x.counts(0, 0, 0, 0, 0, -1);
        x.put('a', 1);
        x.find(-1);
        x.clear(0);
        x.counts(0, 0, 0, 0, 0, -1);
    }

    // Promise 9: "how many names were known": one, however often it was given and referred to
    private static void clearOfOne() {
        Names x = new Names("Promise 9: \"how many names were known\", one");
        x.giveName('a', 0);
        x.giveName('a', -1);
        x.referName('a', 0);
        x.clear(1);
        x.counts(0, 0, 0, 0, 0, -1);
    }

    // Promise 9: "how many names were known": as many as there may be
    private static void clearOf200() {
        Names x = new Names("Promise 9: \"how many names were known\", 200");
        x.giveNames(0, 100, 0);
        x.referNames(100, 200, 100);
        x.giveName(200, -2);
        x.clear(200);
        x.counts(0, 0, 0, 0, 0, -1);
        x.giveName(200, 0);
        x.clear(1);
    }

    // Promise 9: "No name is known any more"
    private static void noNameIsKnownAfterClear() {
        Names x = new Names("Promise 9: \"No name is known any more\"");
        x.giveName('a', 0);
        x.referName('b', 1);
        x.referName('c', 2);
        x.clear(3);
        for (int number = 0; number < 4; number++) {
            x.looks(number, -1, -1, -1, -1);
            x.byteOf(number, 0, -1);
        }
        x.counts(0, 0, 0, 0, 0, -1);
        x.put('a', 1);
        x.find(-1);
        x.clear(0);
        x.put('b', 1);
        x.find(-1);
    }

    // Promise 9: "no bytes are in hand": few, and as many as there may be
    private static void noBytesAreInHandAfterClear() {
        Names x = new Names("Promise 9: \"no bytes are in hand\"");
        x.put('a', 1);
        x.clear(0);
        x.count(4, 0);
        x.give(-3);
        x.refer(-3);
        x.putMany(60, 'b');
        x.clear(0);
        x.count(4, 0);
        x.find(-1);
        x.put('c', 1);
        x.count(4, 1);
        x.give(0);
        x.look(0, 2, 1);
        x.byteOf(0, 0, 'c');
        x.byteOf(0, 1, -1);
    }

    // Promise 9: "No name is known any more": then there is none that was given in vain either
    private static void noGivingInVainAfterClear() {
        Names x = new Names("Promise 9: \"No name is known any more\", givings in vain");
        x.giveName('a', 0);
        x.giveName('a', -1);
        x.giveName('a', -1);
        x.count(3, 2);
        x.clear(1);
        x.count(3, 0);
        x.giveName('b', 0);
        x.count(3, 0);
        x.giveName('b', -1);
        x.count(3, 1);
    }

    // Promise 9: "No name is known any more": the same names are numbered and counted from the beginning
    private static void namesAreNewAfterClear() {
        Names x = new Names("Promise 9: \"No name is known any more\", the same names again");
        x.giveName('a', 0);
        x.giveName('a', -1);
        x.referName('b', 1);
        x.referName('b', 1);
        x.clear(2);
        x.referName('b', 0);
        x.looks(0, 0, 1, 1, -1);
        x.counts(1, 0, 1, 0, 0, 0);
        x.giveName('a', 1);
        x.looks(1, 1, 0, 1, -1);
        x.counts(2, 1, 1, 0, 0, 0);
        x.byteOf(0, 0, 'b');
        x.byteOf(1, 0, 'a');
    }

    // Promise 9: "No name is known any more": there is room for 200 again, and for no more
    private static void roomFor200AfterClear() {
        Names x = new Names("Promise 9: \"No name is known any more\", room for 200 again");
        x.referNames(0, 40, 0);
        x.clear(40);
        x.giveNames(20, 220, 0);
        x.giveName(220, -2);
        x.referName(0, -2);
        x.counts(200, 200, 0, 0, 0, -1);
        x.byteOf(0, 0, 20);
        x.byteOf(199, 0, 219);
        x.look(39, 1, 0);
        x.look(0, 1, 0);
        x.clear(200);
    }

    // Promise 9: "how many names were known": since the clear before
    private static void clearAgainAndAgain() {
        Names x = new Names("Promise 9: \"how many names were known\", again and again");
        for (int known = 0; known < 20; known++) {
            x.referNames(0, known, 0);
            x.clear(known);
            x.clear(0);
        }
    }
}
