import java.util.NoSuchElementException;
import java.util.Random;
import java.util.function.IntSupplier;

/** Random runs of calls, the same ones on the program and on the plain model: all answers must be alike. */
public final class ModelTest {
    private static final String[] CALLS = {"count", "timber", "house", "ring", "index", "depth", "pointer", "slid", "best",
        "link", "grown", "help", "date", "settle", "grow", "mend", "doubt", "move", "undo", "note", "fits", "look",
        "forget", "chance", "told", "image", "restore", "yard", "spoilt", "fault", "feed"};

    private final RingDater x = new RingDater();
    private final PlainModel m = new PlainModel();
    private final Random random;
    private final StringBuilder run = new StringBuilder();
    private final int[] heard;
    private int asked = 0;

    private ModelTest(long seed, int[] heard) {
        random = new Random(seed);
        this.heard = heard;
    }

    public static void main(String[] args) {
        int runs = args.length > 0 ? Integer.parseInt(args[0]) : 500;
        int from = args.length > 1 ? Integer.parseInt(args[1]) : 0;
        int[] heard = new int[CALLS.length];
        for (int seed = from; seed < from + runs; seed++) {
            ModelTest test = new ModelTest(seed, heard);
            if (!test.runs(80)) {
                System.out.println("ModelTest, seed " + seed + ":\n" + test.run);
                System.exit(1);
            }
        }
        for (int k = 0; k < heard.length; k++) {
            if (heard[k] == 0) {
                System.out.println("ModelTest never called " + CALLS[k]);
                System.exit(1);
            }
        }
        System.out.println("ModelTest: " + runs + " runs are alike");
    }

    /** A run ends in one of three ways: all is asked, all acts are undone, or it just goes on. */
    private boolean runs(int calls) {
        if (!text(RandomTexts.yard(random))) {
            return false;
        }
        for (int i = 0; i < calls; i++) {
            if (!oneCall()) {
                return false;
            }
        }
        int end = random.nextInt(3);
        for (int i = 0; i < (m.woods.isEmpty() ? 0 : 100); i++) {
            boolean alike = end == 2 ? oneCall() : act(CALLS[12 + random.nextInt(6)], anyTimber());
            if (!alike) {
                return false;
            }
        }
        return end == 0 ? everything() : end == 2 || undone();
    }

    /** One act after the other is taken back, till none is left: one timber is looked at as a whole, the others' years. */
    private boolean undone() {
        for (int k = 0; k < 41; k++) {
            int timber = k % Math.max(1, m.woods.size());
            if (!alike("undo()", x::undo, m::undo) || !alike("dated", () -> x.count(4), () -> m.count(4))
                    || !alike("house 0", () -> x.house(0, 0), () -> m.house(0, 0))) {
                return false;
            }
            for (int what : new int[] {0, 4, 5, 11}) {
                if (!alike("timber(" + timber + ", " + what + ")", () -> x.timber(timber, what), () -> m.timber(timber, what))) {
                    return false;
                }
            }
        }
        for (int t = 0; t < m.woods.size(); t++) {
            int timber = t;
            for (int r = 0; r < m.woods.get(t).rings.size(); r++) {
                int ring = r;
                if (!alike("ring(" + t + ", " + r + ")", () -> x.ring(timber, ring, 0), () -> m.ring(timber, ring, 0))
                        || !alike("doubtful " + t + ", " + r, () -> x.ring(timber, ring, 1), () -> m.ring(timber, ring, 1))) {
                    return false;
                }
            }
        }
        return true;
    }

    /** All that can be asked, once more at the end. */
    private boolean everything() {
        for (int what = 0; what <= 22; what++) {
            int w = what;
            if (!alike("count(" + w + ")", () -> x.count(w), () -> m.count(w))) {
                return false;
            }
        }
        for (int k = 0; k < 9 * 14; k++) {
            int t = k / 14;
            int w = k % 14;
            if (!alike("timber(" + t + ", " + w + ")", () -> x.timber(t, w), () -> m.timber(t, w))) {
                return false;
            }
        }
        return true;
    }

    private static long answer(IntSupplier call) {
        try {
            return call.getAsInt();
        } catch (NoSuchElementException e) {
            return Long.MAX_VALUE;
        } catch (IllegalArgumentException e) {
            return Long.MAX_VALUE - 1;
        } catch (RuntimeException e) {
            e.printStackTrace(System.out);
            return Long.MAX_VALUE - 2;
        }
    }

    /** Nothing is promised of an object behind its 512th call. */
    private boolean alike(String call, IntSupplier program, IntSupplier model) {
        asked++;
        if (asked > 512) {
            return true;
        }
        long got = answer(program);
        long due = answer(model);
        run.append("  ").append(call).append(" answered ").append(got);
        run.append(got == due ? "\n" : ", the model " + due + "\n");
        return got == due;
    }

    private boolean text(String text) {
        int[] n = Tape.numbers(text);
        for (int i = 0; i < n.length; i += 5) {
            int at = i;
            if (!alike("feed", () -> x.feed(n[at], n[at + 1], n[at + 2], n[at + 3], n[at + 4]),
                    () -> m.feed(n[at], n[at + 1], n[at + 2], n[at + 3], n[at + 4]))) {
                return false;
            }
        }
        return alike("yard: " + text, () -> x.yard(text.length()), () -> m.yard(text.length()))
                && alike("fault()", x::fault, m::fault);
    }

    private int any(int most) {
        return random.nextInt(40) == 0 ? -1 - random.nextInt(2) : random.nextInt(most + 1);
    }

    private int anyTimber() {
        int timbers = m.woods.size();
        return timbers == 0 || random.nextInt(25) == 0 ? random.nextInt(11) - 1 : random.nextInt(timbers);
    }

    private int anyYear() {
        Integer first = PlainModel.first(PlainModel.dated(m.woods, null));
        return first == null || random.nextInt(8) == 0 ? random.nextInt(904) - 2 : first + random.nextInt(60) - 20;
    }

    private boolean oneCall() {
        int k = random.nextInt(CALLS.length);
        String name = CALLS[k];
        heard[k]++;
        if (name.equals("yard") || name.equals("spoilt")) {
            boolean now = random.nextInt(4) == 0;
            return !now || text(name.equals("yard") ? RandomTexts.yard(random) : RandomTexts.spoilt(random));
        }
        int t = anyTimber();
        return k < 12 ? question(name, t) : act(name, t);
    }

    private boolean question(String name, int t) {
        int i = any(5);
        int w = any(5);
        String call = name + "(" + t + ", " + i + ", " + w + ")";
        switch (name) {
            case "count": {
                int what = any(22);
                return alike("count(" + what + ")", () -> x.count(what), () -> m.count(what));
            }
            case "timber": {
                int what = any(13);
                return alike("timber(" + t + ", " + what + ")", () -> x.timber(t, what), () -> m.timber(t, what));
            }
            case "house":
                return alike(call, () -> x.house(i, w), () -> m.house(i, w));
            case "ring": {
                int r = any(24);
                return alike(call + " ring " + r, () -> x.ring(t, r, w), () -> m.ring(t, r, w));
            }
            case "index": {
                int year = anyYear();
                return alike("index(" + year + ")", () -> x.index(year), () -> m.index(year));
            }
            case "depth": {
                int year = anyYear();
                return alike("depth(" + year + ")", () -> x.depth(year), () -> m.depth(year));
            }
            case "pointer":
                return alike(call, () -> x.pointer(i, w / 2), () -> m.pointer(i, w / 2));
            case "slid": {
                int on = anyTimber();
                int by = random.nextInt(50) - 25;
                return alike(call + " on " + on + " by " + by, () -> x.slid(t, on, by, w), () -> m.slid(t, on, by, w));
            }
            case "best": {
                int on = random.nextBoolean() ? -1 : anyTimber();
                return alike(call + " on " + on, () -> x.best(t, on, w), () -> m.best(t, on, w));
            }
            case "link":
                return alike(call, () -> x.link(i, w), () -> m.link(i, w));
            case "grown":
                return alike(call, () -> x.grown(i / 2, w), () -> m.grown(i / 2, w));
            default:
                return alike(call, () -> x.help(t, w / 2), () -> m.help(t, w / 2));
        }
    }

    private boolean act(String name, int t) {
        int i = any(24);
        String call = name + "(" + t + ", " + i + ")";
        switch (name) {
            case "date": {
                int year = random.nextInt(3) == 0 ? -1 : anyYear();
                return alike("date(" + t + ", " + year + ")", () -> x.date(t, year), () -> m.date(t, year));
            }
            case "settle":
                return alike(call, () -> x.settle(t), () -> m.settle(t));
            case "grow":
                return random.nextBoolean() || alike(call, x::grow, m::grow);
            case "mend": {
                boolean more = random.nextBoolean();
                return alike(call + more, () -> x.mend(t, i, more), () -> m.mend(t, i, more));
            }
            case "doubt":
                return alike(call, () -> x.doubt(t, i), () -> m.doubt(t, i));
            case "move":
                return alike(call, () -> x.move(t, i / 5), () -> m.move(t, i / 5));
            case "undo":
                return alike(call, x::undo, m::undo);
            case "note": {
                int year = random.nextInt(3) == 0 ? -1 : anyYear();
                return alike(call + year, () -> x.note(t, year), () -> m.note(t, year));
            }
            case "fits":
                return alike(call, () -> x.fits(i % 3), () -> m.fits(i % 3));
            case "look":
                return alike(call, () -> x.look(i % 3), () -> m.look(i % 3));
            default:
                return rest(name, t, i);
        }
    }

    private boolean rest(String name, int t, int i) {
        switch (name) {
            case "forget":
                asked++;
                x.forget();
                m.forget();
                run.append("  forget()\n");
                return true;
            case "chance": {
                int seed = random.nextInt();
                int n = any(41) / (1 + random.nextInt(4));
                return alike("chance(" + t + ", " + seed + ", " + n + ", " + i % 4 + ")",
                        () -> x.chance(t, seed, n, i % 4), () -> m.chance(t, seed, n, i % 4));
            }
            case "told": {
                int sign = random.nextInt(80) - 2;
                return alike("told(" + t + ", " + sign + ")", () -> x.told(t, sign), () -> m.told(t, sign));
            }
            case "image":
                asked++;
                x.image();
                m.image();
                run.append("  image()\n");
                return true;
            case "restore":
                return alike("restore()", () -> x.restore() ? 1 : 0, () -> m.restore() ? 1 : 0);
            case "fault":
                return alike("fault()", x::fault, m::fault);
            default: {
                int a = random.nextInt();
                return alike("feed(" + a + ")", () -> x.feed(a, i, t, -a, 1), () -> m.feed(a, i, t, -a, 1))
                        && alike("yard(" + i + ")", () -> x.yard(i), () -> m.yard(i));
            }
        }
    }
}
