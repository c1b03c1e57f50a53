/** Feeds texts to a dater, as the bytes of its tape. */
final class Tape {
    private Tape() {
    }

    /** The numbers for feed(), five of each twenty bytes; blanks fill up the last ones. */
    static int[] numbers(String text) {
        int[] numbers = new int[(text.length() + 19) / 20 * 5];
        for (int i = 0; i < numbers.length * 4; i++) {
            int sign = i < text.length() ? text.charAt(i) : ' ';
            numbers[i / 4] = numbers[i / 4] << 8 | sign & 255;
        }
        return numbers;
    }

    static void feed(RingDater x, String text) {
        int[] n = numbers(text);
        for (int i = 0; i < n.length; i += 5) {
            x.feed(n[i], n[i + 1], n[i + 2], n[i + 3], n[i + 4]);
        }
    }

    static int yard(RingDater x, String text) {
        feed(x, text);
        return x.yard(text.length());
    }

    static RingDater of(String text) {
        RingDater x = new RingDater();
        int fault = yard(x, text);
        if (fault != 0) {
            throw new IllegalStateException("fault " + fault + " at " + x.fault() + " in: " + text);
        }
        return x;
    }

    /** A timber as the dater tells it, sign by sign. */
    static String told(RingDater x, int timber) {
        StringBuilder text = new StringBuilder();
        int length = x.told(timber, RingDater.NONE);
        for (int i = 0; i < length; i++) {
            text.append((char) x.told(timber, i));
        }
        return text.toString();
    }

    /** All timbers: rings, years, houses. */
    static String timbers(RingDater x) {
        StringBuilder all = new StringBuilder();
        for (int t = 0; t < x.count(0); t++) {
            all.append(told(x, t)).append(" year ").append(x.timber(t, 4)).append(" house ").append(x.timber(t, 11)).append('\n');
        }
        return all.toString();
    }
}
