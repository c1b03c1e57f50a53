/** The boundary cases of promises 29 to 31, a sentence a time: a timber as a text, the image, and back to it. */
public final class KeepEdgeTest extends Checks {
    private KeepEdgeTest() {
    }

    public static void main(String[] args) {
        toldSigns();
        toldAtTheEnds();
        noImage();
        imageInPlaceOfAnother();
        imageOfAll();
        imageStaysAsItIs();
        imageIsGone();
        ends("KeepEdgeTest");
    }

    // ---- promise 29

    private static void toldSigns() {
        says(29, "'timber', LEAST, MOST, then WIDTHS, each but the first word with a blank (32) ahead, ? right behind what is DOUBTFUL, at the end a ;");
        String[] texts = {"timber 0 0 1 1 1;", "timber 0 0 1? 1? 1?;", "timber 9 10 9 10 99?;", "timber 30 30" + " 99?".repeat(24) + ";",
            "timber 0 30 1? 99 10? 9;", "timber 10 30" + " 1 22?".repeat(12) + ";"};
        for (String text : texts) {
            RingDater x = Tape.of(text);
            due("length", x.told(0, NONE), text.length());
            due("signs", Tape.told(x, 0), text);
            due("read again", Tape.told(Tape.of(Tape.told(x, 0)), 0), text);
        }
        RingDater loose = Tape.of("\ntimber00 007\n1 ?02 003?;timber 1 2 3 4 5;");
        due("blanks and noughts aren't kept", Tape.told(loose, 0), "timber 0 7 1? 2 3?;");
        due("the second timber", Tape.told(loose, 1), "timber 1 2 3 4 5;");
        loose.mend(0, 1, true);
        loose.doubt(0, 0);
        due("as it is now", Tape.told(loose, 0), "timber 0 7 1 1? 2 3?;");
        due("then the other", Tape.told(loose, 1), "timber 1 2 3 4 5;");
        loose.undo();
        loose.undo();
        due("as it was", Tape.told(loose, 0), "timber 0 7 1? 2 3?;");
    }

    private static void toldAtTheEnds() {
        says(29, "how many signs (i NONE), the i-th of them. NoSuchElementException: also there is none");
        RingDater x = Tape.of("timber 0 0 1 1 1;timber 30 30" + " 99?".repeat(24) + ";");
        for (int i : new int[] {LEAST, -3, -2, 17, 18, 109, GREATEST}) {
            due("sign " + i, () -> x.told(0, i), NO_SUCH);
        }
        due("the first", () -> x.told(0, 0), 't');
        due("the last", () -> x.told(0, 16), ';');
        due("the longest", () -> x.told(1, NONE), 109);
        due("its last", () -> x.told(1, 108), ';');
        due("behind it", () -> x.told(1, 109), NO_SUCH);
        for (int t : new int[] {LEAST, -2, -1, 2, 8, GREATEST}) {
            due("timber " + t, () -> x.told(t, 0), NO_SUCH);
            due("timber " + t + ", how many", () -> x.told(t, NONE), NO_SUCH);
        }
    }

    // ---- promises 30 and 31

    private static void noImage() {
        says(31, "False: there is none");
        RingDater x = new RingDater();
        due("a new one", as01(x.restore()), 0);
        x = Tape.of(TWO);
        due("behind a text", as01(x.restore()), 0);
        x.doubt(0, 0);
        due("behind an act", as01(x.restore()), 0);
        due("nothing changes", x.ring(0, 0, 1), 1);
        due("no act is gone", x.count(16), 1);
        due("it isn't counted", x.count(19) + x.count(20) + x.count(21), 0);
        RingDater none = new RingDater();
        none.grow();
        none.image();
        none.grow();
        due("of no timbers", as01(none.restore()), 1);
        due("status 1", none.count(20), 1);
        due("timbers", none.count(0), 0);
        due("it is kept on", as01(none.restore()), 1);
    }

    private static void imageInPlaceOfAnother() {
        says(30, "AN IMAGE is kept, in place of another one");
        RingDater x = Tape.of(TWO);
        x.image();
        x.date(0, 5);
        x.note(0, 5);
        x.image();
        x.date(0, 6);
        x.forget();
        due("restored", as01(x.restore()), 1);
        due("the later one", x.timber(0, 4), 5);
        due("noted", x.count(17), 1);
        due("acts", x.count(16), 1);
        x.undo();
        x.image();
        x.date(0, 7);
        due("restored", as01(x.restore()), 1);
        due("the latest one", x.timber(0, 4), 100);
        due("acts", x.count(16), 0);
        due("it is no act", x.undo(), NONE);
    }

    private static RingDater before() {
        RingDater x = Tape.of("lap 3;margin 0;bound 50;timber 0 2 10 20? 15 30 25;timber 1 3 15 30 25;timber 0 0 1 2 3 4;known 0 100;");
        Tape.yard(x, "x");
        x.date(2, 900);
        x.mend(1, 2, true);
        x.doubt(1, 0);
        x.move(2, 3);
        x.mend(1, 0, false);
        x.doubt(0, 4);
        x.settle(9);
        x.note(0, 100);
        x.note(2, 900);
        x.note(9, 9);
        x.note(9, 9);
        return x;
    }

    private static void change(RingDater x) {
        for (int k = 0; k < 5; k++) {
            x.undo();
        }
        x.doubt(1, 2);
        x.doubt(0, 3);
        x.date(0, NONE);
        x.date(2, NONE);
        x.mend(1, 1, true);
        x.move(2, 1);
        x.move(0, 2);
        x.doubt(2, 0);
        x.doubt(2, 1);
        x.mend(2, 0, false);
        x.forget();
        for (int k = 0; k < 9; k++) {
            x.note(1, k);
        }
        x.settle(-1);
        x.grow();
        Tape.yard(x, "lap 3;x");
    }

    private static String whole(RingDater x) {
        StringBuilder whole = new StringBuilder(Tape.timbers(x));
        for (int what = 0; what <= 21; what++) {
            whole.append(x.count(what)).append(' ');
        }
        return whole.append(" fits ").append(x.fits(0)).append(" from ").append(x.fits(1)).append('\n').toString();
    }

    private static String allUndone(RingDater x) {
        StringBuilder all = new StringBuilder();
        for (int k = 0; k < 9; k++) {
            int left = x.undo();
            all.append(left).append(':').append(x.timber(0, 4)).append(',').append(x.timber(2, 4)).append(',').append(x.timber(1, 0)).append(',')
                    .append(x.timber(2, 11)).append(',').append(x.timber(1, 5)).append(' ');
        }
        return all.append(Tape.told(x, 1)).toString();
    }

    private static void imageOfAll() {
        says(31, "It is as the IMAGE again: true. AN IMAGE keeps all that ACTS change, ACTS that are kept, what is NOTED, STATUS");
        RingDater x = before();
        x.image();
        change(x);
        due("it is another one", as01(whole(x).equals(whole(before()))), 0);
        due("restored", as01(x.restore()), 1);
        due("all", whole(x), whole(before()));
        due("what is noted is so by all", x.fits(0), 51);
        due("all acts", allUndone(x), allUndone(before()));
        RingDater at = before();
        at.image();
        due("at once", as01(at.restore()), 1);
        due("nothing changes", whole(at), whole(before()));
        due("the tape isn't kept", tapeBehind(), 20);
    }

    private static int tapeBehind() {
        RingDater x = before();
        x.image();
        Tape.feed(x, "lap 3;");
        x.restore();
        due("what came behind is a text still", () -> x.yard(6), 0);
        Tape.feed(x, "lap 3;");
        x.image();
        x.restore();
        return x.count(18);
    }

    private static void imageStaysAsItIs() {
        says(31, "It is as the IMAGE again: true");
        RingDater x = before();
        x.image();
        for (int k = 0; k < 3; k++) {
            change(x);
            due("restored", as01(x.restore()), 1);
        }
        due("as often as one likes", whole(x), whole(before()));
        due("its acts", allUndone(x), allUndone(before()));
        RingDater full = Tape.of(TWO);
        for (int k = 0; k < 40; k++) {
            full.date(0, 200 + k);
        }
        full.image();
        for (int k = 0; k < 50; k++) {
            full.doubt(1, k % 3);
        }
        full.restore();
        due("forty acts", full.count(16), 40);
        for (int k = 39; k >= 1; k--) {
            full.undo();
            due("as it was", full.timber(0, 4), 199 + k);
        }
        due("the first", full.undo(), 0);
        due("as it was told", full.timber(0, 4), 100);
        due("no doubt is undone", full.timber(1, 5), 0);
    }

    private static void imageIsGone() {
        says(3, "ACTS, what is NOTED, the image are gone");
        RingDater x = before();
        x.image();
        due("a fault", Tape.yard(x, "lap 2;"), 2);
        due("the image stays", as01(x.restore()), 1);
        due("a refused one", () -> x.yard(1), ILLEGAL);
        due("the image stays", as01(x.restore()), 1);
        due("a text", Tape.yard(x, ""), 0);
        due("it is gone", as01(x.restore()), 0);
        due("timbers", x.count(0), 0);
        x.image();
        due("another one", as01(x.restore()), 1);
        due("of none", x.count(0), 0);
    }
}
