import java.util.NoSuchElementException;
import java.util.Random;

/** Any arguments in any state: a call answers, or throws just what the document names for it, by a throw of its own. */
public final class WildCallsTest {
    private static final int[] EDGES = {Integer.MIN_VALUE, Integer.MIN_VALUE + 1, -1000, -25, -24, -3, -2, -1, 0, 1, 2, 3, 4, 5, 6,
        7, 8, 9, 12, 13, 20, 21, 22, 23, 24, 25, 40, 41, 50, 100, 899, 900, 901, 923, 924, 1000, Integer.MAX_VALUE - 1,
        Integer.MAX_VALUE};

    private final Random random;
    private RingDater x = new RingDater();
    private int asked = 0;

    private WildCallsTest(long seed) {
        random = new Random(seed);
    }

    public static void main(String[] args) {
        for (int seed = 0; seed < 400; seed++) {
            WildCallsTest test = new WildCallsTest(seed);
            for (int i = 0; i < 500; i++) {
                int k = test.random.nextInt(30);
                try {
                    test.call(k);
                } catch (NoSuchElementException e) {
                    thrown(seed, k, e, ",3,4,5,6,9,10,11,12,13,14,23,24,26,27,", "java.util.NoSuchElementException");
                } catch (IllegalArgumentException e) {
                    thrown(seed, k, e, ",1,10,11,14,26,", "java.lang.IllegalArgumentException");
                } catch (RuntimeException e) {
                    thrown(seed, k, e, ",", "");
                }
            }
        }
        System.out.println("WildCallsTest: nothing else is thrown");
    }

    private static void thrown(int seed, int k, RuntimeException e, String may, String name) {
        if (!may.contains("," + k + ",") || !e.getClass().getName().equals(name)) {
            System.out.println("WildCallsTest, seed " + seed + ", call " + k + " throws " + e);
            e.printStackTrace(System.out);
            System.exit(1);
        }
    }

    private int any() {
        return switch (random.nextInt(3)) {
            case 0 -> EDGES[random.nextInt(EDGES.length)];
            case 1 -> random.nextInt(9);
            default -> random.nextInt(4) == 0 ? random.nextInt() : random.nextInt(25);
        };
    }

    private void call(int k) {
        asked++;
        if (asked > 512) {
            fresh();
        }
        switch (k) {
            case 0 -> x.feed(any(), any(), any(), any(), any());
            case 1 -> yard();
            case 2 -> x.fault();
            case 3 -> x.count(any());
            case 4 -> x.timber(any(), any());
            case 5 -> x.house(any(), any());
            case 6 -> x.ring(any(), any(), any());
            case 7 -> x.index(any());
            case 8 -> x.depth(any());
            case 9 -> x.pointer(any(), any());
            case 10 -> x.slid(any(), any(), any(), any());
            case 11 -> x.best(any(), any(), any());
            case 12 -> x.link(any(), any());
            case 13 -> x.grown(any(), any());
            case 14 -> x.help(any(), any());
            case 15 -> x.date(any(), any());
            case 16 -> x.settle(any());
            case 17 -> x.grow();
            case 18 -> x.mend(any(), any(), random.nextBoolean());
            case 19 -> x.doubt(any(), any());
            case 20 -> x.move(any(), any());
            case 21 -> x.undo();
            case 22 -> x.note(any(), any());
            case 23 -> x.fits(any());
            case 24 -> x.look(any());
            case 25 -> x.forget();
            case 26 -> x.chance(any(), any(), any(), any());
            case 27 -> x.told(any(), any());
            case 28 -> x.image();
            default -> x.restore();
        }
    }

    private void yard() {
        int way = random.nextInt(6);
        if (way < 3) {
            x.yard(any());
            return;
        }
        String text = way == 5 ? RandomTexts.spoilt(random) : RandomTexts.yard(random);
        asked += (text.length() + 19) / 20;
        if (way == 3 || asked > 512) {
            fresh();
        }
        Tape.yard(x, text);
    }

    /** Nothing is promised of an object behind its 512th call. */
    private void fresh() {
        x = new RingDater();
        asked = 46;
    }
}
