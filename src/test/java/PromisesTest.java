/** Each promise of the document: ordinary inputs, the edges that it names, and wrong inputs. */
public final class PromisesTest {
    private static final int MIN = Integer.MIN_VALUE;
    private static final int MAX = Integer.MAX_VALUE;

    public static void main(String[] args) {
        promise1NewObject();
        promise1ObjectsAreApart();
        promise2OrderOfBytes();
        promise2WrongLengths();
        promise2SixtyBytes();
        promise3Give();
        promise3GiveInVain();
        promise3GiveNothing();
        promise3GiveWithoutRoom();
        promise4Refer();
        promise4ReferNothing();
        promise4ReferWithoutRoom();
        promise5Find();
        promise5FindTellsNamesApart();
        promise6Look();
        promise6LookNextMissing();
        promise6LookWrong();
        promise7ByteOf();
        promise7ByteOfWrong();
        promise8Count();
        promise8CountWrong();
        promise8FirstMissing();
        promise9Clear();
        promise9ClearAndFillAgain();
        Due.end();
    }

    private static void promise1NewObject() {
        ReferredNames x = new ReferredNames();
        for (int what = 0; what <= 4; what++) {
            Due.is("1: count(" + what + ") of a new object", x.count(what), 0);
        }
        Due.is("1: count(5) of a new object", x.count(5), -1);
        Due.is("1: find() of a new object", x.find(), -1);
        for (int what = 0; what <= 3; what++) {
            Due.is("1: look(0, " + what + ") of a new object", x.look(0, what), -1);
        }
        Due.is("1: byteOf(0, 0) of a new object", x.byteOf(0, 0), -1);
        Due.is("1: clear() of a new object", x.clear(), 0);
    }

    private static void promise1ObjectsAreApart() {
        ReferredNames x = new ReferredNames();
        giveName(x, 'a');
        x.put('b', 1);
        ReferredNames y = new ReferredNames();
        Due.is("1: count(0) of another object", y.count(0), 0);
        Due.is("1: count(4) of another object", y.count(4), 0);
        giveName(y, 'c');
        Due.is("1: byteOf(0, 0) of the first object", x.byteOf(0, 0), 'a');
        Due.is("1: count(4) of the first object", x.count(4), 1);
    }

    private static void promise2OrderOfBytes() {
        ReferredNames x = new ReferredNames();
        Due.is("2: put of 8", x.put(0x80FF7F0001020304L, 8), true);
        Due.is("2: put of 3", x.put(0x1122334455AABBCCL, 3), true);
        Due.is("2: put of 1", x.put(-2L, 1), true);
        Due.is("2: put of 5", x.put(0x99_0A0B0C0D0EL, 5), true);
        Due.is("2: count(4)", x.count(4), 17);
        Due.is("2: refer()", x.refer(), 0);
        int[] want = {0x80, 0xFF, 0x7F, 0, 1, 2, 3, 4, 0xAA, 0xBB, 0xCC, 0xFE, 0x0A, 0x0B, 0x0C, 0x0D, 0x0E};
        for (int i = 0; i < want.length; i++) {
            Due.is("2: byteOf(0, " + i + ")", x.byteOf(0, i), want[i]);
        }
    }

    private static void promise2WrongLengths() {
        ReferredNames x = new ReferredNames();
        x.put('a', 1);
        int[] wrong = {0, -1, -8, 9, 16, 60, MIN, MIN + 1, MAX, MAX - 1};
        for (int n : wrong) {
            Due.is("2: put(1, " + n + ")", x.put(1L, n), false);
            Due.is("2: count(4) after put(1, " + n + ")", x.count(4), 1);
        }
        Due.is("2: give() after refused puts", x.give(), 0);
        Due.is("2: byteOf(0, 0) after refused puts", x.byteOf(0, 0), 'a');
        for (int n = 1; n <= 8; n++) {
            Due.is("2: put(1, " + n + ")", x.put(1L, n), true);
        }
        Due.is("2: count(4) after 1 .. 8 bytes", x.count(4), 36);
    }

    private static void promise2SixtyBytes() {
        ReferredNames x = new ReferredNames();
        for (int k = 0; k < 7; k++) {
            x.put(0x0101010101010101L * (k + 1), 8);
        }
        for (int n = 5; n <= 8; n++) {
            Due.is("2: put of " + n + " behind 56", x.put(-1L, n), false);
        }
        Due.is("2: count(4) after too much", x.count(4), 56);
        Due.is("2: put of 3 behind 56", x.put(0x414243L, 3), true);
        Due.is("2: put of 2 behind 59", x.put(0x4445L, 2), false);
        Due.is("2: put of 1 behind 59", x.put(0x46L, 1), true);
        Due.is("2: put of 1 behind 60", x.put(0x47L, 1), false);
        Due.is("2: count(4) of a full hand", x.count(4), 60);
        Due.is("2: give() of a full hand", x.give(), 0);
        Due.is("2: look(0, 2) of 60 bytes", x.look(0, 2), 60);
        Due.is("2: byteOf(0, 55)", x.byteOf(0, 55), 7);
        Due.is("2: byteOf(0, 56)", x.byteOf(0, 56), 0x41);
        Due.is("2: byteOf(0, 59)", x.byteOf(0, 59), 0x46);
        Due.is("2: put after give()", x.put(1L, 8), true);
    }

    private static void promise3Give() {
        ReferredNames x = new ReferredNames();
        Due.is("3: give() of a", giveName(x, 'a'), 0);
        Due.is("3: count(4) after give()", x.count(4), 0);
        Due.is("3: give() of b", giveName(x, 'b'), 1);
        referName(x, 'c');
        Due.is("3: give() of c, referred to before", giveName(x, 'c'), 2);
        Due.is("3: look(2, 0)", x.look(2, 0), 1);
        Due.is("3: look(2, 1)", x.look(2, 1), 1);
        Due.is("3: count(0)", x.count(0), 3);
        Due.is("3: count(3)", x.count(3), 0);
    }

    private static void promise3GiveInVain() {
        ReferredNames x = new ReferredNames();
        giveName(x, 'a');
        giveName(x, 'b');
        Due.is("3: give() of a again", giveName(x, 'a'), -1);
        Due.is("3: count(4) after giving in vain", x.count(4), 0);
        Due.is("3: give() of a once more", giveName(x, 'a'), -1);
        Due.is("3: give() of b again", giveName(x, 'b'), -1);
        Due.is("3: look(0, 0) of a", x.look(0, 0), 3);
        Due.is("3: look(1, 0) of b", x.look(1, 0), 2);
        Due.is("3: count(3)", x.count(3), 3);
        Due.is("3: count(1)", x.count(1), 2);
        Due.is("3: count(0)", x.count(0), 2);
    }

    private static void promise3GiveNothing() {
        ReferredNames x = new ReferredNames();
        Due.is("3: give() of nothing", x.give(), -3);
        giveName(x, 'a');
        Due.is("3: give() behind give()", x.give(), -3);
        referName(x, 'a');
        Due.is("3: give() behind refer()", x.give(), -3);
        Due.is("3: count(0) after refused ones", x.count(0), 1);
        Due.is("3: count(3) after refused ones", x.count(3), 0);
        Due.is("3: look(0, 0) after refused ones", x.look(0, 0), 1);
    }

    private static void promise3GiveWithoutRoom() {
        ReferredNames x = new ReferredNames();
        for (int k = 0; k < 200; k++) {
            Due.is("3: give() of name " + k, giveName(x, k), k);
        }
        Due.is("3: give() of name 200", giveName(x, 200), -2);
        Due.is("3: count(4) without room", x.count(4), 0);
        Due.is("3: count(0) without room", x.count(0), 200);
        Due.is("3: count(1) without room", x.count(1), 200);
        Due.is("3: count(3) without room", x.count(3), 0);
        Due.is("3: give() behind one without room", x.give(), -3);
        Due.is("3: look(200, 0) without room", x.look(200, 0), -1);
        Due.is("3: give() of name 199 again", giveName(x, 199), -1);
        Due.is("3: refer() to name 0", referName(x, 0), 0);
        Due.is("3: give() of name 201", giveName(x, 201), -2);
        Due.is("3: byteOf(199, 0)", x.byteOf(199, 0), 199);
    }

    private static void promise4Refer() {
        ReferredNames x = new ReferredNames();
        Due.is("4: refer() to a", referName(x, 'a'), 0);
        Due.is("4: count(4) after refer()", x.count(4), 0);
        Due.is("4: refer() to b", referName(x, 'b'), 1);
        Due.is("4: refer() to a again", referName(x, 'a'), 0);
        giveName(x, 'c');
        Due.is("4: refer() to c, given before", referName(x, 'c'), 2);
        Due.is("4: look(0, 1)", x.look(0, 1), 2);
        Due.is("4: look(1, 1)", x.look(1, 1), 1);
        Due.is("4: look(2, 1)", x.look(2, 1), 1);
        Due.is("4: look(0, 0)", x.look(0, 0), 0);
        Due.is("4: look(2, 0)", x.look(2, 0), 1);
        Due.is("4: count(3)", x.count(3), 0);
    }

    private static void promise4ReferNothing() {
        ReferredNames x = new ReferredNames();
        Due.is("4: refer() to nothing", x.refer(), -3);
        referName(x, 'a');
        Due.is("4: refer() behind refer()", x.refer(), -3);
        giveName(x, 'a');
        Due.is("4: refer() behind give()", x.refer(), -3);
        Due.is("4: count(0) after refused ones", x.count(0), 1);
        Due.is("4: look(0, 1) after refused ones", x.look(0, 1), 1);
    }

    private static void promise4ReferWithoutRoom() {
        ReferredNames x = new ReferredNames();
        for (int k = 0; k < 200; k++) {
            Due.is("4: refer() to name " + k, referName(x, k), k);
        }
        Due.is("4: refer() to name 200", referName(x, 200), -2);
        Due.is("4: count(4) without room", x.count(4), 0);
        Due.is("4: refer() behind one without room", x.refer(), -3);
        Due.is("4: count(0) without room", x.count(0), 200);
        Due.is("4: count(2) without room", x.count(2), 200);
        Due.is("4: refer() to name 199 again", referName(x, 199), 199);
        Due.is("4: give() of name 0", giveName(x, 0), 0);
        Due.is("4: look(0, 3)", x.look(0, 3), 1);
        Due.is("4: look(198, 3)", x.look(198, 3), 199);
        Due.is("4: look(199, 3)", x.look(199, 3), -1);
    }

    private static void promise5Find() {
        ReferredNames x = new ReferredNames();
        giveName(x, 'a');
        referName(x, 'b');
        Due.is("5: find() of nothing", x.find(), -1);
        x.put('b', 1);
        Due.is("5: find() of b", x.find(), 1);
        Due.is("5: find() of b, which stays", x.find(), 1);
        Due.is("5: count(4) after find()", x.count(4), 1);
        Due.is("5: look(1, 0) after find()", x.look(1, 0), 0);
        Due.is("5: look(1, 1) after find()", x.look(1, 1), 1);
        x.put('a', 1);
        Due.is("5: find() of ba", x.find(), -1);
        Due.is("5: count(0) after find()", x.count(0), 2);
        Due.is("5: give() after find()", x.give(), 2);
        x.put('a', 1);
        Due.is("5: find() of a", x.find(), 0);
    }

    private static void promise5FindTellsNamesApart() {
        ReferredNames x = new ReferredNames();
        long[] values = {0, 0, 0, 0xFF, 0x7F, 0x6100, 0x61, 0x0061, 0x61626364, 0x61626365, 0x60626364};
        int[] lengths = {1, 2, 8, 1, 1, 2, 1, 2, 4, 4, 4};
        for (int k = 0; k < values.length; k++) {
            x.put(values[k], lengths[k]);
            Due.is("5: find() of new name " + k, x.find(), -1);
            Due.is("5: refer() to new name " + k, x.refer(), k);
        }
        for (int k = 0; k < values.length; k++) {
            x.put(values[k], lengths[k]);
            Due.is("5: find() of name " + k, x.find(), k);
            x.give();
        }
        fillHand(x, 1);
        Due.is("5: give() of 60 bytes", x.give(), values.length);
        fillHand(x, 2);
        Due.is("5: find() of 60 bytes, the last another", x.find(), -1);
        x.refer();
        fillHand(x, 1);
        Due.is("5: find() of 60 bytes", x.find(), values.length);
    }

    private static void promise6Look() {
        ReferredNames x = new ReferredNames();
        x.put(0x616263L, 3);
        x.give();
        referName(x, 'd');
        referName(x, 'd');
        x.put(0x616263L, 3);
        x.give();
        Due.is("6: look(0, 0)", x.look(0, 0), 2);
        Due.is("6: look(0, 1)", x.look(0, 1), 0);
        Due.is("6: look(0, 2)", x.look(0, 2), 3);
        Due.is("6: look(0, 3)", x.look(0, 3), 1);
        Due.is("6: look(1, 0)", x.look(1, 0), 0);
        Due.is("6: look(1, 1)", x.look(1, 1), 2);
        Due.is("6: look(1, 2)", x.look(1, 2), 1);
        Due.is("6: look(1, 3)", x.look(1, 3), -1);
    }

    private static void promise6LookNextMissing() {
        ReferredNames x = new ReferredNames();
        giveName(x, 'a');
        referName(x, 'b');
        giveName(x, 'c');
        referName(x, 'c');
        giveName(x, 'd');
        referName(x, 'e');
        referName(x, 'f');
        giveName(x, 'g');
        int[] want = {1, 4, 4, 4, 5, -1, -1};
        for (int k = 0; k < want.length; k++) {
            Due.is("6: look(" + k + ", 3)", x.look(k, 3), want[k]);
        }
        giveName(x, 'e');
        Due.is("6: look(1, 3) after 4 was given", x.look(1, 3), 5);
        giveName(x, 'f');
        Due.is("6: look(1, 3) after all were given", x.look(1, 3), -1);
    }

    private static void promise6LookWrong() {
        ReferredNames x = new ReferredNames();
        referName(x, 'a');
        referName(x, 'b');
        int[] numbers = {-1, 2, 3, 199, 200, 201, MIN, MAX};
        for (int number : numbers) {
            for (int what = 0; what <= 3; what++) {
                Due.is("6: look(" + number + ", " + what + ")", x.look(number, what), -1);
            }
        }
        int[] whats = {-1, 4, 5, MIN, MAX};
        for (int what : whats) {
            Due.is("6: look(0, " + what + ")", x.look(0, what), -1);
        }
    }

    private static void promise7ByteOf() {
        ReferredNames x = new ReferredNames();
        for (int b = 0; b < 32; b++) {
            long v = 0;
            for (int k = 0; k < 8; k++) {
                v = v << 8 | (8 * b + k);
            }
            x.put(v, 8);
            Due.is("7: give()", x.give(), b);
        }
        for (int b = 0; b < 256; b++) {
            Due.is("7: byteOf(" + b / 8 + ", " + b % 8 + ")", x.byteOf(b / 8, b % 8), b);
        }
    }

    private static void promise7ByteOfWrong() {
        ReferredNames x = new ReferredNames();
        x.put(0x6162L, 2);
        x.give();
        x.put(0x636465L, 3);
        x.refer();
        x.put(0x66L, 1);
        int[] wrong = {-1, 3, 59, 60, 61, 200, MIN, MAX};
        for (int k : wrong) {
            Due.is("7: byteOf(0, " + k + ")", x.byteOf(0, k), -1);
            Due.is("7: byteOf(1, " + k + ")", x.byteOf(1, k), -1);
            Due.is("7: byteOf(" + k + ", 0)", x.byteOf(k, 0), -1);
        }
        Due.is("7: byteOf(0, 2)", x.byteOf(0, 2), -1);
        Due.is("7: byteOf(1, 2)", x.byteOf(1, 2), 0x65);
        Due.is("7: byteOf(2, 0) while it is only in hand", x.byteOf(2, 0), -1);
    }

    private static void promise8Count() {
        ReferredNames x = new ReferredNames();
        giveName(x, 'a');
        giveName(x, 'a');
        giveName(x, 'a');
        referName(x, 'b');
        referName(x, 'b');
        referName(x, 'c');
        giveName(x, 'd');
        referName(x, 'd');
        referName(x, 'e');
        giveName(x, 'e');
        giveName(x, 'e');
        x.put(0x616263L, 3);
        int[] want = {5, 3, 2, 3, 3, 1};
        for (int what = 0; what < want.length; what++) {
            Due.is("8: count(" + what + ")", x.count(what), want[what]);
        }
    }

    private static void promise8CountWrong() {
        ReferredNames x = new ReferredNames();
        referName(x, 'a');
        int[] whats = {-1, -2, 6, 7, 200, MIN, MAX};
        for (int what : whats) {
            Due.is("8: count(" + what + ")", x.count(what), -1);
        }
    }

    private static void promise8FirstMissing() {
        ReferredNames x = new ReferredNames();
        giveName(x, 'a');
        Due.is("8: count(5) with none missing", x.count(5), -1);
        referName(x, 'b');
        referName(x, 'c');
        Due.is("8: count(5) with 1 and 2 missing", x.count(5), 1);
        giveName(x, 'b');
        Due.is("8: count(5) with 2 missing", x.count(5), 2);
        Due.is("8: count(2) with 2 missing", x.count(2), 1);
        giveName(x, 'c');
        Due.is("8: count(5) with none missing any more", x.count(5), -1);
        Due.is("8: count(2) with none missing any more", x.count(2), 0);
        ReferredNames y = new ReferredNames();
        referName(y, 'a');
        Due.is("8: count(5) with 0 missing", y.count(5), 0);
    }

    private static void promise9Clear() {
        ReferredNames x = new ReferredNames();
        giveName(x, 'a');
        giveName(x, 'a');
        referName(x, 'b');
        referName(x, 'c');
        x.put(0x6162L, 2);
        Due.is("9: clear()", x.clear(), 3);
        for (int what = 0; what <= 4; what++) {
            Due.is("9: count(" + what + ") after clear()", x.count(what), 0);
        }
        Due.is("9: count(5) after clear()", x.count(5), -1);
        Due.is("9: look(0, 0) after clear()", x.look(0, 0), -1);
        Due.is("9: byteOf(0, 0) after clear()", x.byteOf(0, 0), -1);
        Due.is("9: give() after clear()", x.give(), -3);
        Due.is("9: clear() again", x.clear(), 0);
        x.put('a', 1);
        Due.is("9: find() of a after clear()", x.find(), -1);
        Due.is("9: clear() with bytes in hand alone", x.clear(), 0);
        Due.is("9: count(4) after that", x.count(4), 0);
        Due.is("9: refer() to b after clear()", referName(x, 'b'), 0);
        Due.is("9: look(0, 0) of b", x.look(0, 0), 0);
        Due.is("9: look(0, 1) of b", x.look(0, 1), 1);
        Due.is("9: give() of a after clear()", giveName(x, 'a'), 1);
        Due.is("9: look(1, 0) of a", x.look(1, 0), 1);
        Due.is("9: look(1, 1) of a", x.look(1, 1), 0);
        Due.is("9: count(3)", x.count(3), 0);
    }

    private static void promise9ClearAndFillAgain() {
        ReferredNames x = new ReferredNames();
        for (int k = 0; k < 200; k++) {
            referName(x, k);
        }
        Due.is("9: clear() of 200", x.clear(), 200);
        Due.is("9: give() of name 255 after clear()", giveName(x, 255), 0);
        Due.is("9: give() of name 7 after clear()", giveName(x, 7), 1);
        Due.is("9: count(0)", x.count(0), 2);
        Due.is("9: count(2)", x.count(2), 0);
        Due.is("9: byteOf(0, 0)", x.byteOf(0, 0), 255);
        Due.is("9: look(2, 1)", x.look(2, 1), -1);
    }

    private static int giveName(ReferredNames x, int letter) {
        x.put(letter, 1);
        return x.give();
    }

    private static int referName(ReferredNames x, int letter) {
        x.put(letter, 1);
        return x.refer();
    }

    private static void fillHand(ReferredNames x, int last) {
        for (int k = 0; k < 7; k++) {
            x.put(0x6162636465666768L, 8);
        }
        x.put(last, 4);
    }
}
