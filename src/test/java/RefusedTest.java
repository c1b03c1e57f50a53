import java.util.ArrayList;
import java.util.List;

/**
 * What a refused call leaves is as it was, and asking changes nothing. Of two objects with the same calls behind them
 * one is asked for what it refuses; then all that can be asked, all that is undone and all that is restored is alike.
 */
public final class RefusedTest extends Checks {
    /** A call on an object. */
    private interface Call {
        int on(RingDater x);
    }

    private static final int NO_STATUS = -1;

    private RefusedTest() {
    }

    public static void main(String[] args) {
        feedRefused();
        yardRefused();
        askingRefused();
        actsRefused();
        undoRefused();
        notesRefused();
        restoreRefused();
        askingChangesNothing();
        ends("RefusedTest");
    }

    /** Acts of each kind, notes, an image that is another one, refused calls of each kind, twenty bytes on the tape. */
    private static RingDater busy() {
        RingDater x = Tape.of("lap 3;margin 0;bound 50;timber 0 2 10 20? 15 30 25;timber 1 3 15 30? 25 9;timber 0 0 1 2 3 4;"
                + "timber 0 0 20 15 30;known 0 100;house 2 3;");
        Tape.yard(x, "lap 3;x");
        x.date(2, 900);
        x.note(0, 100);
        x.note(8, 100);
        x.mend(1, 1, false);
        x.image();
        x.doubt(0, 4);
        x.move(2, 1);
        x.settle(3);
        x.mend(1, 2, true);
        x.note(2, 900);
        x.note(1, NONE);
        x.settle(9);
        Tape.feed(x, "lap 4;bound 60;");
        return x;
    }

    private static void ask(StringBuilder all, String what, Call call, RingDater x) {
        all.append(what).append(' ').append(answer(() -> call.on(x))).append('\n');
    }

    /** All that can be asked, but for the status that the refused calls raise. */
    private static String asked(RingDater x, int status, int raised) {
        StringBuilder all = new StringBuilder(Tape.timbers(x));
        for (int what = 0; what <= 21; what++) {
            all.append("count ").append(what).append(' ').append(x.count(what) - (what == 19 + status ? raised : 0)).append('\n');
        }
        for (int house = 0; house <= 3; house++) {
            int h = house;
            ask(all, "house", y -> y.house(h, 1) * 1000 + y.house(h, 3), x);
        }
        ask(all, "fault", y -> y.fault(), x);
        ask(all, "pieces", y -> y.timber(1, 6) * 100 + y.timber(1, 7), x);
        ask(all, "index", y -> y.index(101), x);
        ask(all, "depth", y -> y.depth(101), x);
        ask(all, "best", y -> y.best(1, NONE, 1), x);
        ask(all, "link", y -> y.link(0, 3), x);
        ask(all, "grown", y -> y.grown(0, 1), x);
        ask(all, "fits", y -> y.fits(0) * 100 + y.fits(1), x);
        ask(all, "look", y -> y.look(0) * 100 + y.look(1), x);
        return all.toString();
    }

    /** What stands behind: the acts one by one, the image, its acts, the tape. */
    private static String behind(RingDater x) {
        StringBuilder all = new StringBuilder();
        for (int k = 0; k < 4; k++) {
            all.append(x.undo()).append(' ').append(x.timber(1, 0)).append(x.timber(2, 11)).append(x.timber(3, 3)).append(x.timber(0, 5));
        }
        all.append('\n').append(x.restore()).append('\n').append(Tape.timbers(x));
        for (int what = 16; what <= 21; what++) {
            all.append(x.count(what)).append(' ');
        }
        all.append(x.fits(0)).append(' ').append(x.undo()).append(' ').append(x.undo()).append(' ').append(x.undo()).append('\n').append(Tape.timbers(x));
        all.append(answer(() -> x.yard(15))).append(' ').append(x.count(1)).append(x.count(2));
        return all.toString();
    }

    /** A call that is refused so on a busy object, which is then as another one that wasn't asked. */
    private static void refused(int status, long due, String what, Call call) {
        RingDater asked = busy();
        RingDater other = busy();
        due(what, () -> call.on(asked), due);
        due(what + ", once more", () -> call.on(asked), due);
        due("all behind " + what, asked(asked, status, status == NO_STATUS ? 0 : 2), asked(other, NO_STATUS, 0));
        due("what is undone and restored behind " + what, behind(asked), behind(other));
    }

    private static void feedRefused() {
        says(2, "NONE, and none come, if it would have more than 900");
        RingDater[] full = {busy(), busy()};
        for (RingDater x : full) {
            while (x.count(18) < 900) {
                x.feed(0x20202020, 0x20202020, 0x20202020, 0x20202020, 0x20202020);
            }
        }
        due("feed", full[0].feed(-1, -1, -1, -1, -1), NONE);
        due("feed, once more", full[0].feed(0, 0, 0, 0, 0), NONE);
        due("all", asked(full[0], NO_STATUS, 0), asked(full[1], NO_STATUS, 0));
        due("the whole tape", answer(() -> full[0].yard(900)), 0);
        due("timbers", full[0].count(0), 0);
    }

    private static void yardRefused() {
        says(3, "IllegalArgumentException: the tape has not so many, n below 0 (nothing changes)");
        for (int n : new int[] {LEAST, -1, 21, 900, GREATEST}) {
            refused(NO_STATUS, ILLEGAL, "yard(" + n + ")", x -> x.yard(n));
        }
        says(3, "or the FAULT (all else stays, but STATUS)");
        String[] texts = {"x", "lap 2;", "known 0 5;", "bound 60;bound", "timber 3 2", "bound 100;lap 24;margin 50;timber 9 9 9? 9? 9?;known 0 5;house 0 1;lap"};
        for (String text : texts) {
            RingDater spoilt = busy();
            RingDater other = busy();
            for (RingDater x : new RingDater[] {spoilt, other}) {
                due("a text, so that the tape is empty", Tape.yard(x, "x"), 1);
            }
            int places = 0;
            for (int k = 0; k < 2; k++) {
                due("a fault of " + text, as01(Tape.yard(spoilt, text) > 0), 1);
                places += spoilt.fault();
            }
            due("its place, twice", places % 2, 0);
            Tape.yard(spoilt, "x");
            due("all behind the fault of " + text, asked(spoilt, 0, 3), asked(other, NO_STATUS, 0));
            Tape.feed(spoilt, "lap 4;bound 60;");
            Tape.feed(other, "lap 4;bound 60;");
            due("what is undone and restored behind the fault of " + text, behind(spoilt), behind(other));
        }
    }

    private static void askingRefused() {
        says(5, "NoSuchElementException, IllegalArgumentException (not counted where an exception tells it)");
        List<Call> none = new ArrayList<>();
        none.add(x -> x.count(22));
        none.add(x -> x.timber(4, 0));
        none.add(x -> x.timber(0, 13));
        none.add(x -> x.house(4, 0));
        none.add(x -> x.ring(0, 5, 0));
        none.add(x -> x.ring(0, 0, 2));
        none.add(x -> x.pointer(9, 0));
        none.add(x -> x.slid(0, 4, 0, 0));
        none.add(x -> x.best(0, -2, 0));
        none.add(x -> x.link(99, 0));
        none.add(x -> x.grown(8, 0));
        none.add(x -> x.help(4, 0));
        none.add(x -> x.fits(2));
        none.add(x -> x.look(2));
        none.add(x -> x.chance(4, 0, 0, 0));
        none.add(x -> x.told(0, -2));
        for (int i = 0; i < none.size(); i++) {
            refused(NO_STATUS, NO_SUCH, "what there is none of, " + i, none.get(i));
        }
        refused(NO_STATUS, ILLEGAL, "slid along itself", x -> x.slid(1, 1, 0, 0));
        refused(NO_STATUS, ILLEGAL, "best on itself", x -> x.best(1, 1, 0));
        refused(NO_STATUS, ILLEGAL, "help for a dated one", x -> x.help(0, 0));
        refused(NO_STATUS, ILLEGAL, "chance 41 times", x -> x.chance(0, 0, 41, 0));
    }

    private static void actsRefused() {
        says(17, "-2 (STATUS 1)");
        refused(1, -2, "date of no timber", x -> x.date(4, 5));
        refused(1, -2, "date 901", x -> x.date(0, 901));
        refused(1, -2, "date -2", x -> x.date(1, -2));
        refused(1, -2, "date as it is", x -> x.date(0, 100));
        refused(1, -2, "none as it is", x -> x.date(1, NONE));
        says(18, "NONE (STATUS 1)");
        refused(1, NONE, "settle of no timber", x -> x.settle(-1));
        refused(1, NONE, "settle of a dated one", x -> x.settle(0));
        RingDater[] alone = {busy(), busy()};
        for (RingDater x : alone) {
            for (int t : new int[] {0, 2, 3}) {
                x.date(t, NONE);
            }
        }
        due("settle without a chronology", alone[0].settle(1), NONE);
        due("all behind it", asked(alone[0], 1, 1), asked(alone[1], NO_STATUS, 0));
        due("what is undone and restored behind it", behind(alone[0]), behind(alone[1]));
        says(19, "NONE (STATUS 1)");
        for (int k = 0; k < 2; k++) {
            RingDater asked = busy();
            RingDater other = busy();
            for (RingDater x : new RingDater[] {asked, other}) {
                x.grow();
            }
            due("grow, once more", asked.grow(), NONE);
            due("all behind it", asked(asked, 1, 1), asked(other, NO_STATUS, 0));
            due("what is undone and restored behind it", behind(asked), behind(other));
        }
        says(20, "NONE (STATUS 1)");
        refused(1, NONE, "mend of no timber", x -> x.mend(4, 1, true));
        refused(1, NONE, "mend of a dated one", x -> x.mend(0, 1, false));
        refused(1, NONE, "mend without what isn't doubtful", x -> x.mend(1, 0, false));
        refused(1, NONE, "mend without no such ring", x -> x.mend(1, 4, false));
        refused(1, NONE, "mend ahead of ring 0", x -> x.mend(1, 0, true));
        refused(1, NONE, "mend behind the last", x -> x.mend(1, 4, true));
        says(21, "NONE (STATUS 1)");
        refused(1, NONE, "doubt of no timber", x -> x.doubt(-1, 0));
        refused(1, NONE, "doubt of no ring", x -> x.doubt(0, 5));
        says(22, "NONE (STATUS 1)");
        refused(1, NONE, "move of no timber", x -> x.move(4, 1));
        refused(1, NONE, "move to no house", x -> x.move(0, 4));
        refused(1, NONE, "move as it is", x -> x.move(2, 1));
    }

    private static void undoRefused() {
        says(23, "NONE: there is none");
        RingDater[] both = {busy(), busy()};
        for (RingDater x : both) {
            while (x.count(16) > 0) {
                x.undo();
            }
        }
        due("undo", both[0].undo(), NONE);
        due("undo, once more", both[0].undo(), NONE);
        due("all", asked(both[0], NO_STATUS, 0), asked(both[1], NO_STATUS, 0));
        due("what is restored", behind(both[0]), behind(both[1]));
    }

    private static void notesRefused() {
        says(24, "NONE (STATUS 2): there are 8, no such TIMBER, not 0 to 900");
        refused(2, NONE, "note of no timber", x -> x.note(4, 5));
        refused(2, NONE, "note 901", x -> x.note(0, 901));
        refused(2, NONE, "note -2", x -> x.note(0, -2));
        RingDater[] full = {busy(), busy()};
        for (RingDater x : full) {
            while (x.count(17) < 8) {
                x.note(0, 100);
            }
        }
        due("a ninth", full[0].note(0, 5), NONE);
        due("all", asked(full[0], 2, 1), asked(full[1], NO_STATUS, 0));
        due("what is restored", behind(full[0]), behind(full[1]));
    }

    private static void restoreRefused() {
        says(31, "False: there is none");
        RingDater[] both = {Tape.of(TWO), Tape.of(TWO)};
        for (RingDater x : both) {
            x.settle(1);
            x.note(1, 100);
            x.settle(1);
        }
        due("restore", as01(both[0].restore()), 0);
        due("all", asked(both[0], NO_STATUS, 0), asked(both[1], NO_STATUS, 0));
        due("what is undone", both[0].undo() * 10 + both[0].timber(1, 3), both[1].undo() * 10 + both[1].timber(1, 3));
    }

    private static void askingChangesNothing() {
        says(5, "nothing is promised beyond the answers and state changes described");
        RingDater asked = busy();
        RingDater other = busy();
        for (int what = 0; what <= 21; what++) {
            asked.count(what);
        }
        for (int what = 0; what <= 12; what++) {
            asked.timber(1, what);
            asked.timber(2, what);
        }
        asked.help(1, 0);
        asked.help(1, 1);
        asked.chance(0, 5, 40, 0);
        asked.chance(1, 5, 40, 2);
        asked.slid(0, 1, 0, 0);
        asked.best(0, NONE, 0);
        asked.best(2, 1, 4);
        answer(() -> asked.pointer(0, 0));
        asked.fits(0);
        asked.look(1);
        asked.count(15);
        due("all", asked(asked, NO_STATUS, 0), asked(other, NO_STATUS, 0));
        due("what is undone and restored", behind(asked), behind(other));
    }
}
