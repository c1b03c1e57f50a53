import java.util.NoSuchElementException;
import java.util.function.IntSupplier;

/** What the tests by hand have in common: an answer is held against the one that is due. */
abstract class Checks {
    static final int NONE = RingDater.NONE;
    static final long NO_SUCH = Long.MAX_VALUE;
    static final long ILLEGAL = Long.MAX_VALUE - 1;
    static final int LEAST = Integer.MIN_VALUE;
    static final int GREATEST = Integer.MAX_VALUE;

    /** Rings that rise and fall as no stretch of them does twice. */
    static final String LONG = "10 40 30 35 20 60 70 15 80 25 50 45";

    /** Two timbers, the first one known; the second one is its last three rings. */
    static final String TWO =
            "lap 3;margin 0;bound 50;timber 0 2 10 20 15 30 25;timber 1 3 15 30 25;known 0 100;";

    private static int wrong = 0;
    private static int promise = 0;
    private static String sentence = "";

    /** The checks that follow are of this promise. */
    static void begins(int number) {
        promise = number;
        sentence = "";
    }

    /** The checks that follow hold this sentence of the promise, or of a term in it. */
    static void says(int number, String words) {
        promise = number;
        sentence = " \"" + words + "\"";
    }

    static void due(String what, long got, long due) {
        if (got != due) {
            wrong++;
            System.out.println("promise " + promise + sentence + ", " + what + ": " + tell(got) + ", due is " + tell(due));
        }
    }

    static void due(String what, String got, String due) {
        if (!got.equals(due)) {
            wrong++;
            System.out.println("promise " + promise + sentence + ", " + what + ":\n" + got + "\ndue is\n" + due);
        }
    }

    static void due(String what, IntSupplier call, long due) {
        due(what, answer(call), due);
    }

    /** A call's answer; an exception that the document names counts as one. */
    static long answer(IntSupplier call) {
        try {
            return call.getAsInt();
        } catch (NoSuchElementException e) {
            return NO_SUCH;
        } catch (IllegalArgumentException e) {
            return ILLEGAL;
        }
    }

    private static String tell(long answer) {
        return answer == NO_SUCH ? "NoSuchElementException" : answer == ILLEGAL ? "IllegalArgumentException" : "" + answer;
    }

    static void dueFault(String text, int fault, int at) {
        RingDater x = new RingDater();
        due("yard " + text, Tape.yard(x, text), fault);
        due("fault of " + text, x.fault(), at);
    }

    /** What is drawn by a seed, in numbers that don't wrap: widths of 1 to 99. */
    static int[] draws(long seed, int n) {
        int[] drawn = new int[n];
        long s = seed & 0xffffffffL;
        for (int i = 0; i < n; i++) {
            s = (s * 1103515245L + 12345L) % 4294967296L;
            drawn[i] = (int) (s / 65536 % 32768 % 99) + 1;
        }
        return drawn;
    }

    static int as01(boolean so) {
        return so ? 1 : 0;
    }

    static void ends(String test) {
        System.out.println(wrong == 0 ? test + ": all is as promised" : test + ": " + wrong + " wrong");
        System.exit(wrong == 0 ? 0 : 1);
    }
}
