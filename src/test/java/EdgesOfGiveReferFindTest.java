/** Each sentence of promises 3, 4 and 5 that names a boundary case. */
public final class EdgesOfGiveReferFindTest {
    public static void main(String[] args) {
        giveEmptiesTheHand();
        giveTellsTheNumber();
        giveOfOneReferredToIsNotInVain();
        giveInVainIsCounted();
        giveInVainEmptiesTheHand();
        giveWithoutRoom();
        giveWithoutRoomEmptiesTheHand();
        giveOfKnownOnesWithoutRoom();
        giveOfNothing();
        giveOfNothingWithoutRoom();
        referEmptiesTheHand();
        referTellsTheNumber();
        referToAGivenOne();
        referWithoutRoom();
        referWithoutRoomEmptiesTheHand();
        referToKnownOnesWithoutRoom();
        referToNothing();
        referToNothingWithoutRoom();
        findLeavesTheHand();
        findOfEachOf200();
        findOfOneNotKnown();
        findOfNeighbours();
        findOfNothing();
        findAfterTheHandWasLonger();
        Due.end();
    }

    // Promise 3: "The name in hand is given; nothing is in hand then"
    private static void giveEmptiesTheHand() {
        Names x = new Names("Promise 3: \"nothing is in hand then\"");
        x.put(0x6162L, 2);
        x.give(0);
        x.count(4, 0);
        x.find(-1);
        x.give(-3);
        x.put('c', 1);
        x.count(4, 1);
        x.give(1);
        x.look(1, 2, 1);
        x.byteOf(1, 0, 'c');
    }

    // Promise 3: "The name in hand is given ..: its number"
    private static void giveTellsTheNumber() {
        Names x = new Names("Promise 3: \"its number\"");
        x.giveNames(0, 200, 0);
        x.look(0, 0, 1);
        x.look(199, 0, 1);
        x.counts(200, 200, 0, 0, 0, -1);
    }

    // Promise 3: "-1 if it was given": one that was only referred to was not
    private static void giveOfOneReferredToIsNotInVain() {
        Names x = new Names("Promise 3: \"-1 if it was given\", only referred to before");
        x.referName('a', 0);
        x.referName('b', 1);
        x.referName('b', 1);
        x.giveName('b', 1);
        x.giveName('a', 0);
        x.count(3, 0);
        x.looks(0, 1, 1, 1, -1);
        x.looks(1, 1, 2, 1, -1);
        x.giveName('a', -1);
        x.giveName('b', -1);
        x.count(3, 2);
    }

    // Promise 3: "-1 if it was given (that is counted)"
    private static void giveInVainIsCounted() {
        Names x = new Names("Promise 3: \"-1 if it was given (that is counted)\"");
        x.giveName('a', 0);
        x.counts(1, 1, 0, 0, 0, -1);
        x.giveName('a', -1);
        x.counts(1, 1, 0, 1, 0, -1);
        x.look(0, 0, 2);
        x.giveName('b', 1);
        x.referName('a', 0);
        x.giveName('a', -1);
        x.giveName('b', -1);
        x.counts(2, 2, 0, 3, 0, -1);
        x.looks(0, 3, 1, 1, -1);
        x.looks(1, 2, 0, 1, -1);
    }

    // Promise 3: "nothing is in hand then": also if the name was given before
    private static void giveInVainEmptiesTheHand() {
        Names x = new Names("Promise 3: \"nothing is in hand then\", given in vain");
        x.giveName('a', 0);
        x.giveName('a', -1);
        x.count(4, 0);
        x.give(-3);
        x.giveName('b', 1);
        x.look(1, 2, 1);
    }

    // Promise 3: "-2 if there is no room for one more"
    private static void giveWithoutRoom() {
        Names x = new Names("Promise 3: \"-2 if there is no room for one more\"");
        x.referNames(0, 199, 0);
        x.giveName(199, 199);
        x.giveName(200, -2);
        x.giveName(200, -2);
        x.giveName(255, -2);
        x.putMany(60, 'a');
        x.give(-2);
        x.counts(200, 1, 199, 0, 0, 0);
        x.look(199, 0, 1);
        x.byteOf(199, 0, 199);
        x.look(200, 0, -1);
        x.byteOf(200, 0, -1);
    }

    // Promise 3: "nothing is in hand then": also if there was no room, since only -3 is called refused
    private static void giveWithoutRoomEmptiesTheHand() {
        Names x = new Names("Promise 3: \"nothing is in hand then\", without room");
        x.giveNames(0, 200, 0);
        x.put(0xC8C8L, 2);
        x.give(-2);
        x.count(4, 0);
        x.give(-3);
        x.giveName(7, -1);
        x.count(3, 1);
    }

    // Promise 3: "-2 if there is no room for one more": a known name needs none
    private static void giveOfKnownOnesWithoutRoom() {
        Names x = new Names("Promise 3: \"-2 if there is no room for one more\", a known one");
        x.giveNames(0, 100, 0);
        x.referNames(100, 200, 100);
        x.giveName(0, -1);
        x.giveName(99, -1);
        x.giveName(100, 100);
        x.giveName(199, 199);
        x.giveName(199, -1);
        x.counts(200, 102, 98, 3, 0, 101);
    }

    // Promise 3: "-3, refused, if nothing is in hand"
    private static void giveOfNothing() {
        Names x = new Names("Promise 3: \"-3, refused, if nothing is in hand\"");
        x.give(-3);
        x.put('a', 9, false);
        x.give(-3);
        x.giveName('a', 0);
        x.give(-3);
        x.referName('a', 0);
        x.give(-3);
        x.put('b', 1);
        x.clear(1);
        x.give(-3);
        x.counts(0, 0, 0, 0, 0, -1);
    }

    // Promise 3: "-3, refused, if nothing is in hand": also if there is no room
    private static void giveOfNothingWithoutRoom() {
        Names x = new Names("Promise 3: \"-3, refused, if nothing is in hand\", without room");
        x.giveNames(0, 200, 0);
        x.give(-3);
        x.counts(200, 200, 0, 0, 0, -1);
        x.look(0, 0, 1);
        x.look(199, 0, 1);
    }

    // Promise 4: "The name in hand is referred to; nothing is in hand then"
    private static void referEmptiesTheHand() {
        Names x = new Names("Promise 4: \"nothing is in hand then\"");
        x.put(0x6162L, 2);
        x.refer(0);
        x.count(4, 0);
        x.find(-1);
        x.refer(-3);
        x.put('c', 1);
        x.count(4, 1);
        x.refer(1);
        x.look(1, 2, 1);
        x.byteOf(1, 0, 'c');
        x.referName('c', 1);
        x.count(4, 0);
    }

    // Promise 4: "The name in hand is referred to ..: its number"
    private static void referTellsTheNumber() {
        Names x = new Names("Promise 4: \"its number\"");
        x.referNames(0, 200, 0);
        x.referName(0, 0);
        x.referName(199, 199);
        x.look(0, 1, 2);
        x.look(1, 1, 1);
        x.look(199, 1, 2);
        x.counts(200, 0, 200, 0, 0, 0);
    }

    // Promise 4: "its number": of a name that was given too, once or in vain; nothing is given by it
    private static void referToAGivenOne() {
        Names x = new Names("Promise 4: \"its number\", of a given one");
        x.giveName('a', 0);
        x.giveName('b', 1);
        x.giveName('b', -1);
        x.referName('a', 0);
        x.referName('b', 1);
        x.looks(0, 1, 1, 1, -1);
        x.looks(1, 2, 1, 1, -1);
        x.counts(2, 2, 0, 1, 0, -1);
    }

    // Promise 4: "-2 if there is no room for one more"
    private static void referWithoutRoom() {
        Names x = new Names("Promise 4: \"-2 if there is no room for one more\"");
        x.giveNames(0, 199, 0);
        x.referName(199, 199);
        x.referName(200, -2);
        x.referName(200, -2);
        x.referName(255, -2);
        x.putMany(60, 'a');
        x.refer(-2);
        x.counts(200, 199, 1, 0, 0, 199);
        x.look(199, 1, 1);
        x.byteOf(199, 0, 199);
        x.look(200, 1, -1);
        x.byteOf(200, 0, -1);
    }

    // Promise 4: "nothing is in hand then": also if there was no room, since only -3 is called refused
    private static void referWithoutRoomEmptiesTheHand() {
        Names x = new Names("Promise 4: \"nothing is in hand then\", without room");
        x.giveNames(0, 200, 0);
        x.put(0xC8C8L, 2);
        x.refer(-2);
        x.count(4, 0);
        x.refer(-3);
        x.referName(7, 7);
        x.look(7, 1, 1);
    }

    // Promise 4: "-2 if there is no room for one more": a known name needs none
    private static void referToKnownOnesWithoutRoom() {
        Names x = new Names("Promise 4: \"-2 if there is no room for one more\", a known one");
        x.giveNames(0, 100, 0);
        x.referNames(100, 200, 100);
        x.referName(0, 0);
        x.referName(99, 99);
        x.referName(100, 100);
        x.referName(199, 199);
        x.look(0, 1, 1);
        x.look(199, 1, 2);
        x.counts(200, 100, 100, 0, 0, 100);
    }

    // Promise 4: "-3, refused, if nothing is in hand"
    private static void referToNothing() {
        Names x = new Names("Promise 4: \"-3, refused, if nothing is in hand\"");
        x.refer(-3);
        x.put('a', 0, false);
        x.refer(-3);
        x.referName('a', 0);
        x.refer(-3);
        x.giveName('a', 0);
        x.refer(-3);
        x.put('b', 1);
        x.clear(1);
        x.refer(-3);
        x.counts(0, 0, 0, 0, 0, -1);
    }

    // Promise 4: "-3, refused, if nothing is in hand": also if there is no room
    private static void referToNothingWithoutRoom() {
        Names x = new Names("Promise 4: \"-3, refused, if nothing is in hand\", without room");
        x.referNames(0, 200, 0);
        x.refer(-3);
        x.counts(200, 0, 200, 0, 0, 0);
        x.look(0, 1, 1);
        x.look(199, 1, 1);
    }

    // Promise 5: "The number of the name in hand, which stays"
    private static void findLeavesTheHand() {
        Names x = new Names("Promise 5: \"the name in hand, which stays\"");
        x.referName('a', 0);
        x.put('a', 1);
        x.find(0);
        x.count(4, 1);
        x.find(0);
        x.put('b', 1);
        x.find(-1);
        x.count(4, 2);
        x.counts(1, 0, 1, 0, 2, 0);
        x.looks(0, 0, 1, 1, -1);
        x.give(1);
        x.byteOf(1, 0, 'a');
        x.byteOf(1, 1, 'b');
    }

    // Promise 5: "The number of the name in hand": the first, the last and those between, of as many as there may be
    private static void findOfEachOf200() {
        Names x = new Names("Promise 5: \"The number of the name in hand\", of 200");
        x.giveNames(0, 100, 0);
        x.referNames(100, 200, 100);
        for (int letter : new int[] {0, 1, 99, 100, 127, 128, 198, 199}) {
            x.put(letter, 1);
            x.find(letter);
            x.refer(letter);
        }
    }

    // Promise 5: "-1 if it is not known": with none known, with some, with as many as there may be, and after clear
    private static void findOfOneNotKnown() {
        Names x = new Names("Promise 5: \"-1 if it is not known\"");
        x.put(200, 1);
        x.find(-1);
        x.clear(0);
        x.giveNames(0, 200, 0);
        x.put(200, 1);
        x.find(-1);
        x.give(-2);
        x.put(200, 1);
        x.find(-1);
        x.count(0, 200);
        x.clear(200);
        x.put(199, 1);
        x.find(-1);
    }

    // Promise 5: "-1 if it is not known": a name that is one byte shorter, longer or other is another name
    private static void findOfNeighbours() {
        Names x = new Names("Promise 5: \"-1 if it is not known\", neighbours of a known one");
        x.put(0x616263L, 3);
        x.give(0);
        long[] values = {
            0x6162L, 0x6263L, 0x61626300L, 0x00616263L, 0x61626364L, 0x616264L, 0x626263L, 0x616363L, 0xE16263L};
        int[] lengths = {2, 2, 4, 4, 4, 3, 3, 3, 3};
        for (int k = 0; k < values.length; k++) {
            x.put(values[k], lengths[k]);
            x.find(-1);
            x.give(k + 1);
        }
        x.put(0x616263L, 3);
        x.find(0);
    }

    // Promise 5: "-1 if .. nothing is in hand"
    private static void findOfNothing() {
        Names x = new Names("Promise 5: \"or nothing is in hand\"");
        x.find(-1);
        x.giveName(0, 0);
        x.find(-1);
        x.referName(0, 0);
        x.find(-1);
        x.giveName(0, -1);
        x.find(-1);
        x.put(0, 0, false);
        x.find(-1);
        x.put(0, 1);
        x.find(0);
        x.clear(1);
        x.find(-1);
    }

    // Promise 5: "The number of the name in hand": bytes that were in hand before are no part of it
    private static void findAfterTheHandWasLonger() {
        Names x = new Names("Promise 5: \"The number of the name in hand\", a longer one before");
        x.put(0x61L, 1);
        x.give(0);
        x.put(0x6162636465666768L, 8);
        x.give(1);
        x.put(0x61L, 1);
        x.find(0);
        x.put(0x62636465666768L, 7);
        x.find(1);
    }
}
