/** Each sentence under "What it is" and "Terms" that names a boundary case, and promise 1. */
public final class EdgesOfTermsTest {
    private static final int[] ODD = {
        Integer.MIN_VALUE, -1, 0, 1, 3, 4, 5, 6, 8, 9, 59, 60, 61, 199, 200, 201, Integer.MAX_VALUE};

    public static void main(String[] args) {
        noneMayBeGivenTwice();
        allReferredToAreToBeGiven();
        the512thCallIsPromised();
        countsReachWhat512CallsCanMake();
        callsAfterThe512thEnd();
        aNameHasOneByteAtLeast();
        aNameHasSixtyBytesAtMost();
        eachLengthIsANameOfItsOwn();
        manyNamesOfSixtyBytes();
        knownByGivingOrReferringAlone();
        numbersInTheOrderOfFirstBeingKnown();
        atMost200GivenOnes();
        atMost200ReferredOnes();
        atMost200OfBothKinds();
        memoryIsTheObjectsOwn();
        refusedPutOfWrongLengthChangesNothing();
        refusedPutOfTooManyChangesNothing();
        refusedGiveChangesNothing();
        refusedReferChangesNothing();
        aNewObject();
        aNewObjectAfterAFullOne();
        Due.end();
    }

    // What it is: "none may be given twice": each of many, in whatever order the second giving comes
    private static void noneMayBeGivenTwice() {
        Names x = new Names("What it is: \"none may be given twice\"");
        x.giveNames(0, 100, 0);
        for (int letter = 99; letter >= 0; letter--) {
            x.giveName(letter, -1);
        }
        x.counts(100, 100, 0, 100, 0, -1);
    }

    // What it is: "all that are referred to are to be given, sooner or later": before, after, or not yet
    private static void allReferredToAreToBeGiven() {
        Names x = new Names("What it is: \"all that are referred to are to be given, sooner or later\"");
        x.giveNames(0, 30, 0);
        x.referNames(30, 60, 30);
        for (int letter = 0; letter < 30; letter++) {
            x.referName(letter, letter);
        }
        for (int letter = 58; letter >= 30; letter -= 2) {
            x.giveName(letter, letter);
        }
        x.count(2, 15);
        x.count(5, 31);
        for (int letter = 31; letter < 59; letter += 2) {
            x.look(letter, 3, letter + 2);
        }
        x.look(59, 3, -1);
        for (int letter = 31; letter < 60; letter += 2) {
            x.giveName(letter, letter);
            x.count(5, letter == 59 ? -1 : letter + 2);
        }
        x.counts(60, 60, 0, 0, 0, -1);
    }

    // What it is: "An object is used for at most 512 calls after it has been made"
    private static void the512thCallIsPromised() {
        String sentence = "What it is: \"at most 512 calls after it has been made\"";
        Names put = new Names(sentence);
        put.callUntil(511, 0);
        put.put('a', 1, true);
        Names give = new Names(sentence);
        give.callUntil(510, 0);
        give.giveName('a', 0);
        Names vain = new Names(sentence);
        vain.giveName('a', 0);
        vain.callUntil(510, 1);
        vain.giveName('a', -1);
        Names full = new Names(sentence);
        full.giveNames(0, 200, 0);
        full.callUntil(510, 200);
        full.giveName(200, -2);
        Names refer = new Names(sentence);
        refer.callUntil(510, 0);
        refer.referName('a', 0);
        Names find = new Names(sentence);
        find.giveNames(0, 200, 0);
        find.put(199, 1);
        find.callUntil(511, 200);
        find.find(199);
        Names look = new Names(sentence);
        look.referNames(0, 200, 0);
        look.callUntil(511, 200);
        look.look(198, 3, 199);
        Names byteOf = new Names(sentence);
        byteOf.giveNames(0, 200, 0);
        byteOf.callUntil(511, 200);
        byteOf.byteOf(199, 0, 199);
        Names count = new Names(sentence);
        count.giveNames(0, 200, 0);
        count.callUntil(511, 200);
        count.count(1, 200);
        Names clear = new Names(sentence);
        clear.referNames(0, 200, 0);
        clear.callUntil(511, 200);
        clear.clear(200);
    }

    // What it is: "at most 512 calls": so one name can be given or referred to 255 times, and then be looked at
    private static void countsReachWhat512CallsCanMake() {
        String sentence = "What it is: \"at most 512 calls\", counts of 255";
        Names given = new Names(sentence);
        given.giveName('a', 0);
        for (int k = 1; k < 255; k++) {
            given.giveName('a', -1);
        }
        given.look(0, 0, 255);
        given.count(3, 254);
        Names referred = new Names(sentence);
        for (int k = 0; k < 255; k++) {
            referred.referName('a', 0);
        }
        referred.look(0, 1, 255);
        referred.count(2, 1);
    }

    // What it is: "what later calls answer is free": they still end, and none throws (LANGUAGE.md, rule 7)
    private static void callsAfterThe512thEnd() {
        ReferredNames object = new ReferredNames();
        try {
            for (int k = 0; k < 70_000; k++) {
                callEach(object, k);
            }
        } catch (RuntimeException thrown) {
            Due.isWrong("What it is: \"what later calls answer is free\" | threw " + thrown);
        }
    }

    private static void callEach(ReferredNames object, int k) {
        int a = ODD[k % ODD.length];
        int b = ODD[k / ODD.length % ODD.length];
        object.put(k, k % 2 == 0 ? 2 : 8);
        object.put(k, a);
        object.find();
        if (k % 3 == 0) {
            object.give();
        } else if (k % 100 < 50) {
            object.refer();
        }
        object.look(a, b);
        object.byteOf(a, b);
        object.count(a);
        if (k % 20_000 == 19_999) {
            object.clear();
        }
    }

    // Terms: "A NAME are 1 .. 60 bytes": none at all are no name, one is
    private static void aNameHasOneByteAtLeast() {
        Names x = new Names("Terms: \"A NAME are 1 .. 60 bytes\", too small and smallest");
        x.give(-3);
        x.refer(-3);
        x.find(-1);
        x.count(0, 0);
        x.giveName(0, 0);
        x.look(0, 2, 1);
        x.byteOf(0, 0, 0);
        x.find(-1);
    }

    // Terms: "A NAME are 1 .. 60 bytes": sixty are a name, and a byte more is not taken
    private static void aNameHasSixtyBytesAtMost() {
        Names x = new Names("Terms: \"A NAME are 1 .. 60 bytes\", largest and too large");
        x.putMany(60, 'a');
        x.put('b', 1, false);
        x.refer(0);
        x.look(0, 2, 60);
        x.byteOf(0, 59, 'a');
        x.byteOf(0, 60, -1);
        x.putMany(60, 'a');
        x.find(0);
        x.give(0);
        x.putMany(59, 'a');
        x.find(-1);
        x.put('b', 1);
        x.find(-1);
        x.give(1);
    }

    // Terms: "A NAME are 1 .. 60 bytes": each length from 1 to 60, with the same bytes, is another name
    private static void eachLengthIsANameOfItsOwn() {
        Names x = new Names("Terms: \"A NAME are 1 .. 60 bytes\", each length");
        for (int length = 1; length <= 60; length++) {
            x.putMany(length, 0);
            x.refer(length - 1);
        }
        for (int length = 1; length <= 60; length++) {
            x.look(length - 1, 2, length);
            x.byteOf(length - 1, length - 1, 0);
            x.byteOf(length - 1, length, -1);
        }
    }

    // Terms: "A NAME are 1 .. 60 bytes": as many of 60 bytes as 512 calls can make and look at
    private static void manyNamesOfSixtyBytes() {
        Names x = new Names("Terms: \"A NAME are 1 .. 60 bytes\", many of 60");
        for (int k = 0; k < 42; k++) {
            x.put(k, 1);
            x.putMany(58, 200);
            x.put(255 - k, 1);
            x.refer(k);
        }
        for (int k = 0; k < 42; k++) {
            x.byteOf(k, k % 2 == 0 ? 0 : 59, k % 2 == 0 ? k : 255 - k);
        }
    }

    // Terms: "A name that was given or referred to is KNOWN": one that is only put in hand, or only found, is not
    private static void knownByGivingOrReferringAlone() {
        Names x = new Names("Terms: \"given or referred to is KNOWN\"");
        x.put('a', 1);
        x.count(0, 0);
        x.find(-1);
        x.find(-1);
        x.count(0, 0);
        x.look(0, 2, -1);
        x.byteOf(0, 0, -1);
        x.give(0);
        x.count(0, 1);
        x.look(0, 2, 1);
        x.byteOf(0, 0, 'a');
        x.referName('b', 1);
        x.count(0, 2);
        x.look(1, 2, 1);
        x.byteOf(1, 0, 'b');
        x.look(2, 2, -1);
    }

    // Terms: "NUMBERS 0, 1, .. in the order in which they first were"
    private static void numbersInTheOrderOfFirstBeingKnown() {
        Names x = new Names("Terms: \"NUMBERS 0, 1, .. in the order in which they first were\"");
        x.referName('z', 0);
        x.giveName('m', 1);
        x.referName('a', 2);
        x.referName('m', 1);
        x.giveName('a', 2);
        x.giveName('z', 0);
        x.giveName('m', -1);
        x.giveName('b', 3);
        int[] letters = {'z', 'm', 'a', 'b'};
        for (int k = 0; k < letters.length; k++) {
            x.byteOf(k, 0, letters[k]);
        }
        x.count(0, 4);
    }

    // Terms: "There are at most 200 known ones": the 200th given one is known, one more is not
    private static void atMost200GivenOnes() {
        Names x = new Names("Terms: \"at most 200 known ones\", given");
        x.giveNames(0, 199, 0);
        x.count(0, 199);
        x.giveName(199, 199);
        x.count(0, 200);
        x.look(199, 0, 1);
        x.byteOf(199, 0, 199);
        x.giveName(200, -2);
        x.referName(200, -2);
        x.count(0, 200);
        x.look(200, 0, -1);
        x.look(200, 2, -1);
        x.byteOf(200, 0, -1);
        x.put(200, 1);
        x.find(-1);
    }

    // Terms: "There are at most 200 known ones": the 200th one that is referred to is known, one more is not
    private static void atMost200ReferredOnes() {
        Names x = new Names("Terms: \"at most 200 known ones\", referred to");
        x.referNames(0, 199, 0);
        x.count(0, 199);
        x.referName(199, 199);
        x.count(0, 200);
        x.look(199, 1, 1);
        x.byteOf(199, 0, 199);
        x.referName(200, -2);
        x.giveName(200, -2);
        x.count(0, 200);
        x.look(200, 1, -1);
        x.look(200, 2, -1);
        x.byteOf(200, 0, -1);
        x.put(200, 1);
        x.find(-1);
    }

    // Terms: "There are at most 200 known ones": given ones and those referred to share the room
    private static void atMost200OfBothKinds() {
        Names x = new Names("Terms: \"at most 200 known ones\", both kinds");
        x.giveNames(0, 100, 0);
        x.referNames(100, 200, 100);
        x.giveName(200, -2);
        x.referName(200, -2);
        x.counts(200, 100, 100, 0, 0, 100);
    }

    // Terms: "All memory is the class's own": what is done to one object is not seen in another
    private static void memoryIsTheObjectsOwn() {
        String sentence = "Terms: \"All memory is the class's own\"";
        Names x = new Names(sentence);
        Names y = new Names(sentence);
        x.put('a', 1);
        y.count(4, 0);
        y.put('b', 1);
        x.give(0);
        y.count(4, 1);
        y.count(0, 0);
        y.refer(0);
        x.counts(1, 1, 0, 0, 0, -1);
        y.counts(1, 0, 1, 0, 0, 0);
        x.byteOf(0, 0, 'a');
        y.byteOf(0, 0, 'b');
        x.giveName('a', -1);
        y.count(3, 0);
        x.clear(1);
        y.count(0, 1);
        y.byteOf(0, 0, 'b');
    }

    // Terms: "A call that is refused changes nothing": put with an n that is not 1 .. 8
    private static void refusedPutOfWrongLengthChangesNothing() {
        Names x = new Names("Terms: \"refused changes nothing\", put of a wrong length");
        x.giveName('a', 0);
        x.giveName('a', -1);
        x.referName('b', 1);
        x.put(0x6162L, 2);
        for (int n : new int[] {0, -1, 9, Integer.MIN_VALUE, Integer.MAX_VALUE}) {
            x.put(0x7A7A7A7A7A7A7A7AL, n, false);
        }
        x.counts(2, 1, 1, 1, 2, 1);
        x.looks(0, 2, 0, 1, 1);
        x.looks(1, 0, 1, 1, -1);
        x.put('c', 1);
        x.give(2);
        x.look(2, 2, 3);
        x.byteOf(2, 0, 'a');
        x.byteOf(2, 1, 'b');
        x.byteOf(2, 2, 'c');
    }

    // Terms: "A call that is refused changes nothing": put of more than there is room for
    private static void refusedPutOfTooManyChangesNothing() {
        Names x = new Names("Terms: \"refused changes nothing\", put of too many");
        x.giveName('a', 0);
        x.giveName('a', -1);
        x.referName('b', 1);
        x.putMany(58, 'h');
        for (int n = 3; n <= 8; n++) {
            x.put(0x7A7A7A7A7A7A7A7AL, n, false);
        }
        x.counts(2, 1, 1, 1, 58, 1);
        x.looks(0, 2, 0, 1, 1);
        x.looks(1, 0, 1, 1, -1);
        x.put(0x6364L, 2);
        x.put('z', 1, false);
        x.count(4, 60);
        x.give(2);
        x.look(2, 2, 60);
        for (int i = 0; i < 58; i++) {
            x.byteOf(2, i, 'h');
        }
        x.byteOf(2, 58, 'c');
        x.byteOf(2, 59, 'd');
    }

    // Terms: "A call that is refused changes nothing": give with nothing in hand
    private static void refusedGiveChangesNothing() {
        Names x = new Names("Terms: \"refused changes nothing\", give");
        x.giveName('a', 0);
        x.giveName('a', -1);
        x.referName('b', 1);
        x.give(-3);
        x.give(-3);
        x.counts(2, 1, 1, 1, 0, 1);
        x.looks(0, 2, 0, 1, 1);
        x.looks(1, 0, 1, 1, -1);
        x.byteOf(0, 0, 'a');
        x.byteOf(1, 0, 'b');
        x.look(2, 0, -1);
        x.giveName('c', 2);
    }

    // Terms: "A call that is refused changes nothing": refer with nothing in hand
    private static void refusedReferChangesNothing() {
        Names x = new Names("Terms: \"refused changes nothing\", refer");
        x.giveName('a', 0);
        x.giveName('a', -1);
        x.referName('b', 1);
        x.refer(-3);
        x.refer(-3);
        x.counts(2, 1, 1, 1, 0, 1);
        x.looks(0, 2, 0, 1, 1);
        x.looks(1, 0, 1, 1, -1);
        x.byteOf(0, 0, 'a');
        x.byteOf(1, 0, 'b');
        x.look(2, 1, -1);
        x.referName('c', 2);
    }

    // Promise 1: "No name is known, no bytes are in hand."
    private static void aNewObject() {
        String sentence = "Promise 1: \"No name is known, no bytes are in hand\"";
        Names x = new Names(sentence);
        x.counts(0, 0, 0, 0, 0, -1);
        x.find(-1);
        for (int number : ODD) {
            x.looks(number, -1, -1, -1, -1);
            x.byteOf(number, 0, -1);
        }
        x.give(-3);
        x.refer(-3);
        x.clear(0);
        Names first = new Names(sentence);
        first.put(0, 1);
        first.find(-1);
        first.count(4, 1);
        first.give(0);
    }

    // Promise 1: "No name is known, no bytes are in hand.": also when another object is full
    private static void aNewObjectAfterAFullOne() {
        String sentence = "Promise 1: \"No name is known, no bytes are in hand\", after a full one";
        Names full = new Names(sentence);
        full.referNames(0, 200, 0);
        full.putMany(60, 'a');
        Names x = new Names(sentence);
        x.counts(0, 0, 0, 0, 0, -1);
        x.put(0, 1);
        x.find(-1);
        x.give(0);
        full.counts(200, 0, 200, 0, 60, 0);
    }
}
