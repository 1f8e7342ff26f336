import java.util.ArrayList;
import java.util.List;

/** Runs of 512 calls, the same each time, compared with a plain model; after them, calls need only not throw. */
public final class ModelTest {
    private static final int CALLS = 512;
    private static final int CALLS_AFTER = 3000;
    private static final int[] ODD = {-1, 0, 1, 9, 59, 60, 199, 200, Integer.MIN_VALUE, Integer.MAX_VALUE};

    private long seed;

    private ModelTest(long seed) {
        this.seed = seed;
    }

    public static void main(String[] args) {
        for (int run = 0; run < 300; run++) {
            // Few names to choose from meet often, many fill the room; many puts for each name fill the hand.
            int names = new int[] {3, 20, 250, 400}[run % 4];
            int clearOnceIn = run % 3 == 0 ? 60 : 100000;
            int putsEach = run % 5 == 0 ? 20 : 1;
            new ModelTest(run).mixedRun("run " + run, names, clearOnceIn, putsEach);
        }
        for (int run = 0; run < 40; run++) {
            new ModelTest(1000 + run).fillingRun("filling run " + run);
        }
        Due.end();
    }

    private void mixedRun(String run, int names, int clearOnceIn, int putsEach) {
        ReferredNames x = new ReferredNames();
        Model m = new Model();
        for (int call = 0; call < CALLS; call++) {
            String at = run + ", call " + call + ": ";
            if (below(clearOnceIn) == 0) {
                Due.is(at + "clear()", x.clear(), m.clear());
            } else if (below(3) == 0) {
                ask(at, x, m, argument(m.known.size()), argument(60));
            } else if (below(putsEach + 1) != 0) {
                putSome(at, x, m, names);
            } else {
                giveOrRefer(at, x, m);
            }
        }
        callAfter(x);
    }

    private void fillingRun(String run) {
        ReferredNames x = new ReferredNames();
        Model m = new Model();
        for (int call = 0; call < CALLS; call += 2) {
            String at = run + ", call " + call + ": ";
            if (call > 420 && below(2) == 0) {
                ask(at, x, m, argument(m.known.size()), argument(4));
                ask(at, x, m, argument(m.known.size()), argument(4));
            } else {
                long v = call < 400 ? call : below(500);
                Due.is(at + "put(" + v + ", 2)", x.put(v, 2), m.put(v, 2));
                giveOrRefer(at, x, m);
            }
        }
        callAfter(x);
    }

    private void putSome(String at, ReferredNames x, Model m, int names) {
        boolean odd = below(12) == 0;
        long v = odd ? next() : below(names);
        int n = odd ? argument(9) : below(8) == 0 ? 8 : 2;
        Due.is(at + "put(" + v + ", " + n + ")", x.put(v, n), m.put(v, n));
    }

    private void giveOrRefer(String at, ReferredNames x, Model m) {
        if (below(2) == 0) {
            Due.is(at + "give()", x.give(), m.give());
        } else {
            Due.is(at + "refer()", x.refer(), m.refer());
        }
    }

    private void ask(String at, ReferredNames x, Model m, int a, int b) {
        int what = below(6);
        switch (below(4)) {
            case 0 -> Due.is(at + "find()", x.find(), m.find());
            case 1 -> {
                int w = below(9) == 0 ? b : what;
                Due.is(at + "look(" + a + ", " + w + ")", x.look(a, w), m.look(a, w));
            }
            case 2 -> Due.is(at + "byteOf(" + a + ", " + b + ")", x.byteOf(a, b), m.byteOf(a, b));
            default -> {
                int w = below(9) == 0 ? a : what;
                Due.is(at + "count(" + w + ")", x.count(w), m.count(w));
            }
        }
    }

    private void callAfter(ReferredNames x) {
        for (int call = 0; call < CALLS_AFTER; call++) {
            x.put(next(), below(7) + 2);
            x.put(next(), argument(9));
            if (below(2) == 0) {
                x.give();
            } else {
                x.refer();
            }
            x.find();
            x.look(argument(200), argument(4));
            x.byteOf(argument(200), argument(60));
            x.count(argument(6));
        }
    }

    private int argument(int bound) {
        return bound == 0 || below(6) == 0 ? ODD[below(ODD.length)] : below(bound);
    }

    private int below(int bound) {
        return (int) Math.floorMod(next() >> 20, (long) bound);
    }

    private long next() {
        seed = seed * 6364136223846793005L + 1442695040888963407L;
        return seed ^ (seed >>> 29);
    }

    private static final class Name {
        final List<Integer> bytes;
        int given = 0;
        int referred = 0;

        Name(List<Integer> bytes) {
            this.bytes = bytes;
        }

        boolean missing() {
            return referred > 0 && given == 0;
        }
    }

    private static final class Model {
        List<Name> known = new ArrayList<>();
        List<Integer> hand = new ArrayList<>();
        int inVain = 0;

        boolean put(long v, int n) {
            if (n < 1 || n > 8 || hand.size() + n > 60) {
                return false;
            }
            for (int k = n - 1; k >= 0; k--) {
                hand.add((int) (v >> (8 * k) & 255));
            }
            return true;
        }

        int give() {
            int number = take();
            if (number < 0) {
                return number;
            }
            if (known.get(number).given++ == 0) {
                return number;
            }
            inVain++;
            return -1;
        }

        int refer() {
            int number = take();
            if (number >= 0) {
                known.get(number).referred++;
            }
            return number;
        }

        private int take() {
            if (hand.isEmpty()) {
                return -3;
            }
            int number = find();
            if (number < 0 && known.size() == 200) {
                number = -2;
            } else if (number < 0) {
                number = known.size();
                known.add(new Name(hand));
            }
            hand = new ArrayList<>();
            return number;
        }

        int find() {
            for (int k = 0; k < known.size(); k++) {
                if (known.get(k).bytes.equals(hand)) {
                    return k;
                }
            }
            return -1;
        }

        int look(int number, int what) {
            if (number < 0 || number >= known.size()) {
                return -1;
            }
            Name name = known.get(number);
            return switch (what) {
                case 0 -> name.given;
                case 1 -> name.referred;
                case 2 -> name.bytes.size();
                case 3 -> missingBehind(number);
                default -> -1;
            };
        }

        private int missingBehind(int number) {
            for (int k = number + 1; k < known.size(); k++) {
                if (known.get(k).missing()) {
                    return k;
                }
            }
            return -1;
        }

        int byteOf(int number, int i) {
            if (number < 0 || number >= known.size() || i < 0 || i >= known.get(number).bytes.size()) {
                return -1;
            }
            return known.get(number).bytes.get(i);
        }

        int count(int what) {
            return switch (what) {
                case 0 -> known.size();
                case 1 -> (int) known.stream().filter(name -> name.given > 0).count();
                case 2 -> (int) known.stream().filter(Name::missing).count();
                case 3 -> inVain;
                case 4 -> hand.size();
                case 5 -> missingBehind(-1);
                default -> -1;
            };
        }

        int clear() {
            int were = known.size();
            known = new ArrayList<>();
            hand = new ArrayList<>();
            inVain = 0;
            return were;
        }
    }
}
