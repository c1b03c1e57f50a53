/** Each promise of the document by its number: ordinary inputs, the edges that it names, wrong inputs. */
public final class PromiseTest extends Checks {
    private PromiseTest() {
    }

    public static void main(String[] args) {
        begins(1); newObject();
        begins(2); feed();
        begins(3); yard(); faultsOfNumbers(); faultsOfTokens(); blanksAndSigns(); yardClears();
        begins(4); fault();
        begins(5); count(); built();
        begins(6); timber(); whyUnsettled(); pieces();
        begins(7); house();
        begins(8); ring();
        begins(9); index();
        begins(10); depth();
        begins(11); pointer();
        begins(12); slid(); slidDoubtful();
        begins(13); best(); bestOfLikeOnes();
        begins(14); link();
        begins(15); grown();
        begins(16); help();
        begins(17); date();
        begins(18); settle();
        begins(19); grow();
        begins(20); mend();
        begins(21); doubt();
        begins(22); move();
        begins(23); undo();
        begins(24); note();
        begins(25); fits();
        begins(26); look();
        begins(27); forget();
        begins(28); chance();
        begins(29); told();
        begins(30); image();
        begins(31); restore();
        ends("PromiseTest");
    }

    private static void newObject() {
        RingDater x = new RingDater();
        long[] due = {0, 70, 6, 5, 0, NONE, NONE, 0, 0, 0, NONE, NONE, NONE, 0, NONE, 0, 0, 0, 0, 0, 0, 0};
        for (int what = 0; what < due.length; what++) {
            int w = what;
            due("count " + w, () -> x.count(w), due[w]);
        }
        due("NONE", RingDater.NONE, -1);
        due("no timber", () -> x.timber(0, 0), NO_SUCH);
    }

    private static void feed() {
        RingDater x = new RingDater();
        for (int k = 1; k <= 45; k++) {
            due("feed", x.feed(0, 0, 0, 0, 0), 20 * k);
        }
        due("feed behind 900", x.feed(0, 0, 0, 0, 0), NONE);
        due("none come", x.count(18), 900);
        due("the tape stays whole", () -> x.yard(900), 1);
        due("the tape is empty", x.feed(0, 0, 0, 0, 0), 20);
        RingDater order = new RingDater();
        // "lap 4;lap!" has its fault at the second lap, if the highest byte comes first
        order.feed('l' << 24 | 'a' << 16 | 'p' << 8 | ' ', '4' << 24 | ';' << 16 | 'l' << 8 | 'a', 'p' << 24, 0, 0);
        due("fault 4", () -> order.yard(9), 4);
        due("its place", order.fault(), 6);
        RingDater high = new RingDater();
        high.feed(0xff000000, 0, 0, 0, 0);
        due("a byte of 255", () -> high.yard(1), 1);
    }

    private static void yard() {
        RingDater x = Tape.of(TWO);
        due("timbers", x.count(0), 2);
        due("bound", x.count(1), 50);
        due("lap", x.count(2), 3);
        due("margin", x.count(3), 0);
        due("dated", x.count(4), 1);
        due("year", x.timber(0, 4), 100);
        due("the tape is empty then", x.count(18), 0);
        due("n below 0", () -> x.yard(-1), ILLEGAL);
        due("n beyond", () -> x.yard(1), ILLEGAL);
        due("least n", () -> x.yard(Integer.MIN_VALUE), ILLEGAL);
        due("greatest n", () -> x.yard(Integer.MAX_VALUE), ILLEGAL);
        due("nothing changed", x.count(0), 2);
        due("no bytes are a text", () -> x.yard(0), 0);
        due("of no timbers", x.count(0), 0);
        due("bound without", x.count(1), 70);
        due("lap without", x.count(2), 6);
        due("margin without", x.count(3), 5);
        Tape.feed(x, "lap 3;");
        due("too long", () -> x.yard(21), ILLEGAL);
        due("the tape stayed", x.count(18), 20);
        due("the first bytes alone", () -> x.yard(4), 1);
        due("the tape is empty behind a fault", x.count(18), 0);
    }

    private static void faultsOfNumbers() {
        dueFault("bound 49;", 2, 6);
        dueFault("bound 50;", 0, NONE);
        dueFault("bound 100;", 0, NONE);
        dueFault("bound 101;", 2, 6);
        dueFault("lap 2;", 2, 4);
        dueFault("lap 3;", 0, NONE);
        dueFault("lap 24;", 0, NONE);
        dueFault("lap 25;", 2, 4);
        dueFault("lap 0003;", 2, 4);
        dueFault("lap 003;", 0, NONE);
        dueFault("margin 0;", 0, NONE);
        dueFault("margin 50;", 0, NONE);
        dueFault("margin 51;", 2, 7);
        dueFault("timber 0 30 1 1 1;", 0, NONE);
        dueFault("timber 30 30 1 1 1;", 0, NONE);
        dueFault("timber 31 30 1 1 1;", 2, 7);
        dueFault("timber 5 31 1 1 1;", 2, 9);
        dueFault("timber 5 4 1 1 1;", 5, 9);
        dueFault("timber 0 0 0 1 1;", 2, 11);
        dueFault("timber 0 0 1 1 99;", 0, NONE);
        dueFault("timber 0 0 1 1 100;", 2, 15);
        dueFault("timber 0 0 1 1 1;known 0 900;", 0, NONE);
        dueFault("timber 0 0 1 1 1;known 0 901;", 2, 25);
        dueFault("timber 0 0 1 1 1;known 7 9;", 3, 23);
        dueFault("timber 0 0 1 1 1;known 8 9;", 2, 23);
        dueFault("timber 0 0 1 1 1;house 0 3;", 0, NONE);
        dueFault("timber 0 0 1 1 1;house 0 4;", 2, 25);
        dueFault("timber 0 0 1 1 1;house 1 0;", 3, 23);
        dueFault("timber 0 0 1 1 1;house 8 0;", 2, 23);
        dueFault("timber 0 0 1 1 1;".repeat(8) + "known 7 0;house 7 3;", 0, NONE);
        dueFault("margin 0055;", 2, 7);
        dueFault("timber 0 0 1 1 0055;", 2, 15);
        dueFault("timber 000 030 001 01 099;", 0, NONE);
        dueFault("known 0 0;timber 0 0 1 1 1;", 3, 6);
    }

    private static void faultsOfTokens() {
        String rings = " 1 2 3 4 5 6 7 8 9 1 2 3 4 5 6 7 8 9 1 2 3 4 5 6";
        dueFault("timber 0 0" + rings + ";", 0, NONE);
        dueFault("timber 0 0" + rings + "?;", 0, NONE);
        dueFault("timber 0 0" + rings + " 7;", 2, 59);
        dueFault("timber 0 0" + rings + " x;", 1, 59);
        dueFault("timber 0 0 1 2;", 1, 14);
        dueFault("timber 0 0 1 2? ?;", 1, 16);
        dueFault("timber 0 0 ?;", 1, 11);
        dueFault("timber 0 0 1 2 3", 1, 16);
        dueFault("timber 0 0 1 2 3 ", 1, 17);
        dueFault("timber", 1, 6);
        dueFault("timbers 0 0 1 2 3;", 1, 0);
        dueFault("timbe 0 0 1 2 3;", 1, 0);
        dueFault("timberz 0 0 1 2 3;", 1, 0);
        dueFault("map 3;", 1, 0);
        dueFault("lap 3z;", 1, 5);
        dueFault("Timber 0 0 1 2 3;", 1, 0);
        dueFault("bound bound", 1, 6);
        dueFault(";", 1, 0);
        dueFault("7", 1, 0);
        dueFault("12345", 1, 0);
        dueFault("lap 3 3;", 1, 6);
        dueFault("lap 3;;", 1, 6);
        dueFault("lap 3?;", 1, 5);
        dueFault("lap\t3;", 1, 3);
        dueFault("lap 3;lap 99;", 4, 6);
        dueFault("margin 3;margin", 4, 9);
        dueFault("bound 70;lap 6;margin 5;bound 70;", 4, 24);
        dueFault("timber 0 0 1 1 1;known 0 5;known 0 5;", 4, 33);
        dueFault("timber 0 0 1 1 1;house 0 0;house 0 1;", 4, 33);
        dueFault("timber 0 0 1 1 1;known 0 5;house 0 1;", 0, NONE);
        String eight = "timber 0 0 1 1 1;".repeat(8);
        dueFault(eight, 0, NONE);
        dueFault(eight + "timber x", 2, eight.length());
    }

    private static void blanksAndSigns() {
        dueFault("", 0, NONE);
        dueFault(" \n ", 0, NONE);
        dueFault("\n lap\n3\n;\n", 0, NONE);
        dueFault("lap3;", 0, NONE);
        RingDater x = Tape.of("timber0 1 5?6 ?\n7;");
        due("rings", x.timber(0, 0), 3);
        due("least", x.timber(0, 1), 0);
        due("most", x.timber(0, 2), 1);
        due("doubtful 0", x.ring(0, 0, 1), 1);
        due("doubtful 1", x.ring(0, 1, 1), 1);
        due("doubtful 2", x.ring(0, 2, 1), 0);
    }

    private static void yardClears() {
        RingDater x = Tape.of(TWO);
        x.settle(1);
        x.note(0, 5);
        x.date(0, -7);
        x.note(0, -7);
        x.image();
        due("a fault", Tape.yard(x, "x"), 1);
        due("acts stay", x.count(16), 1);
        due("notes stay", x.count(17), 1);
        due("timbers stay", x.count(0), 2);
        due("status 0", x.count(19), 1);
        due("the image stays", x.restore() ? 1 : 0, 1);
        due("status 0 as the image has it", x.count(19), 0);
        Tape.yard(x, "x");
        due("none", Tape.yard(x, TWO), 0);
        due("acts are gone", x.count(16), 0);
        due("notes are gone", x.count(17), 0);
        due("the image is gone", x.restore() ? 1 : 0, 0);
        due("status 0 stays", x.count(19), 1);
        due("status 1 stays", x.count(20), 1);
        due("status 2 stays", x.count(21), 1);
        due("dated anew", x.count(4), 1);
    }

    private static void fault() {
        RingDater x = new RingDater();
        due("new", x.fault(), NONE);
        Tape.yard(x, "lap 3;x");
        due("a fault", x.fault(), 6);
        due("refused", () -> x.yard(1), ILLEGAL);
        due("the latest is still that", x.fault(), 6);
        Tape.yard(x, "lap 3;");
        due("none", x.fault(), NONE);
    }

    private static void count() {
        RingDater x = Tape.of(TWO);
        due("first year", x.count(5), 100);
        due("last year", x.count(6), 104);
        due("links", x.count(7), 1);
        due("pieces", x.count(8), 1);
        due("against", x.count(9), 0);
        due("odd", x.count(14), 0);
        due("would be dated", x.count(15), 1);
        due("asking dates none", x.count(4), 1);
        due("grow", x.grow(), 1);
        due("dated", x.count(4), 3);
        due("would be dated then", x.count(15), 0);
        due("acts", x.count(16), 1);
        x.note(0, 1);
        due("noted", x.count(17), 1);
        x.feed(0, 0, 0, 0, 0);
        due("bytes", x.count(18), 20);
        due("another what", () -> x.count(22), NO_SUCH);
        due("what below 0", () -> x.count(-1), NO_SUCH);
        x.grow();
        x.settle(9);
        x.note(9, 9);
        due("status 1", x.count(20), 2);
        due("status 2", x.count(21), 1);
        due("an exception counts nothing", () -> x.timber(9, 0), NO_SUCH);
        due("status 1 still", x.count(20), 2);
    }

    private static void built() {
        // felled 104 to 106 and 107 to 112: no year is in both
        RingDater x = Tape.of("timber 2 4 1 2 3;timber 5 10 1 2 3;known 0 100;known 1 100;");
        due("first", x.count(10), NONE);
        due("last", x.count(11), NONE);
        due("edge", x.count(12), 107);
        RingDater y = Tape.of("timber 2 5 1 2 3;timber 5 10 1 2 3;known 0 100;known 1 100;");
        due("one year, the first", y.count(10), 107);
        due("one year, the last", y.count(11), 107);
        RingDater odd = Tape.of("timber 0 0 9 5 7 3 8;timber 0 0 9 5 7 3 8;timber 0 0 1 2 3 4 5;known 0 9;known 1 9;known 2 9;");
        due("the odd one", odd.count(14), 2);
        due("of like ones the first", Tape.of("timber 0 0 1 2 3;timber 0 0 1 2 3;known 0 9;known 1 9;").count(14), 0);
        RingDater second = Tape.of("timber 5 6 1 2 3;timber 0 9 1 2 3;timber 0 0 1 2 3;known 0 9;known 1 9;");
        due("the edge is that of 0", second.count(12), 16);
        due("the last year is that of 0", second.count(11), 17);
        due("dated bits", second.count(4), 3);
        second.date(0, NONE);
        due("dated bits without the first", second.count(4), 2);
        due("the first year", second.count(5), 9);
        second.date(1, 100);
        due("the first year then", second.count(5), 100);
        second.date(2, 90);
        due("the last year then", second.count(6), 102);
    }

    private static void timber() {
        RingDater x = Tape.of("timber 2 7 5 6? 7 8?;timber 0 0 1 1 1;known 0 50;house 0 3;");
        long[] due = {4, 2, 7, 1, 50, 2, 0, 0, 55, 60, 0, 3, NONE};
        for (int what = 0; what < due.length; what++) {
            int w = what;
            due("timber 0, " + w, () -> x.timber(0, w), due[w]);
        }
        long[] other = {3, 0, 0, 0, NONE, 0, 1, 0, NONE, NONE, NONE, 0, 1};
        for (int what = 0; what < other.length; what++) {
            int w = what;
            due("timber 1, " + w, () -> x.timber(1, w), other[w]);
        }
        due("another what", () -> x.timber(0, 13), NO_SUCH);
        due("what below 0", () -> x.timber(0, -1), NO_SUCH);
        due("no such timber", () -> x.timber(2, 0), NO_SUCH);
        due("none", () -> x.timber(NONE, 0), NO_SUCH);
        RingDater fits = Tape.of(TWO);
        fits.date(1, 102);
        due("fit 94 (that of slid by 2)", fits.timber(1, 10), 94);
        fits.date(1, 200);
        due("fit without pairs", fits.timber(1, 10), 0);
        fits.date(1, 104);
        // one pair, 15 on 25: no step in both, the ranks are 0 and 1: 75, by 3
        due("fit of one pair", fits.timber(1, 10), 25);
    }

    private static void whyUnsettled() {
        String on = "timber 0 0 " + LONG + ";known 0 ";
        due("it can", Tape.of("timber 0 0 30 35 20 60 70 15 80;" + "timber 0 0 " + LONG + ";known 1 5;").timber(0, 12), 0);
        due("no slide", Tape.of("timber 0 0 30 35 20 60 70;" + "timber 0 0 " + LONG + ";known 1 5;").timber(0, 12), 1);
        due("below the bound", Tape.of(on + "5;timber 0 0 5 5 5 5 5 5;").timber(1, 12), 2);
        due("the other one", Tape.of("lap 3;timber 0 0 5 7 5 7 5 7 5;timber 0 0 5 7 5 7 5;known 0 5;").timber(1, 12), 3);
        due("its year is -1", Tape.of("lap 5;timber 0 0 40 30 35 20 60 70;timber 0 0 10 40 30 35 20 60 70;known 0 0;").timber(1, 12), 4);
        due("its year is 0", Tape.of("lap 5;timber 0 0 40 30 35 20 60 70;timber 0 0 10 40 30 35 20 60 70;known 0 1;").timber(1, 12), 0);
        due("its year is 901", Tape.of("lap 5;timber 0 0 10 40 30 35 20 60 70;timber 0 0 40 30 35 20 60 70;known 0 900;").timber(1, 12), 4);
        due("its year is 900", Tape.of("lap 5;timber 0 0 10 40 30 35 20 60 70;timber 0 0 40 30 35 20 60 70;known 0 899;").timber(1, 12), 0);
        due("it is dated", Tape.of(on + "5;").timber(0, 12), NONE);
    }

    private static void pieces() {
        // 1 and 2 lie at places 4 and 2 of 0's rings; 3 lies nowhere
        RingDater x = Tape.of("timber 0 0 " + LONG + ";timber 0 0 20 60 70 15 80 25;timber 0 0 30 35 20 60 70 15;timber 0 0 1 1 1;");
        due("links", x.count(7), 2);
        due("pieces", x.count(8), 2);
        for (int t = 0; t < 4; t++) {
            due("least of " + t, x.timber(t, 6), t == 3 ? 3 : 0);
        }
        due("place of 0", x.timber(0, 7), 0);
        due("place of 1", x.timber(1, 7), 4);
        due("place of 2", x.timber(2, 7), 2);
        due("place of 3", x.timber(3, 7), 0);
        RingDater last = Tape.of("timber 0 0 1 1 1;timber 0 0 20 60 70 15 80 25;timber 0 0 " + LONG + ";");
        due("least of a later piece", last.timber(2, 6), 1);
        due("a place below 0", last.timber(2, 7), -4);
    }

    private static void house() {
        // felled: 0 in 102 to 104, 1 in 104 to 106, 2 in 110 to 115
        RingDater x = Tape.of("timber 0 2 1 2 3;timber 2 4 1 2 3;timber 8 13 1 2 3;timber 0 0 1 2 3;"
                + "known 0 100;known 1 100;known 2 100;house 2 1;house 3 2;");
        due("its timbers", x.house(0, 0), 3);
        due("first", x.house(0, 1), 104);
        due("last (0 isn't reused: its most is the edge)", x.house(0, 2), 104);
        due("reused", x.house(0, 3), 0);
        x.move(0, 3);
        due("its timbers without 0", x.house(0, 0), 2);
        x.undo();
        due("house 1", x.house(1, 0), 4);
        due("house 1 first", x.house(1, 1), 110);
        due("house 1 last", x.house(1, 2), 115);
        due("none of it is dated, its timbers", x.house(2, 0), 8);
        due("none of it is dated, first", x.house(2, 1), NONE);
        due("none of it is dated, last", x.house(2, 2), NONE);
        due("none of it is dated, reused", x.house(2, 3), 0);
        due("a house without timbers", x.house(3, 0), 0);
        x.date(0, 99);
        due("reused then", x.house(0, 3), 1);
        due("last without it", x.house(0, 2), 106);
        due("no such house", () -> x.house(4, 0), NO_SUCH);
        due("house below 0", () -> x.house(-1, 0), NO_SUCH);
        due("another what", () -> x.house(0, 4), NO_SUCH);
        due("what below 0", () -> x.house(0, -1), NO_SUCH);
    }

    private static void ring() {
        RingDater x = Tape.of("timber 0 0 5 5 9? 3 7;");
        int[] widths = {5, 5, 9, 3, 7};
        int[] ranks = {0, 1, 4, 0, 1};
        int[] steps = {0, 0, 1, -1, 1};
        for (int ring = 0; ring < 5; ring++) {
            due("width", x.ring(0, ring, 0), widths[ring]);
            due("doubtful", x.ring(0, ring, 1), ring == 2 ? 1 : 0);
            due("rank of " + ring, x.ring(0, ring, 3), ranks[ring]);
            if (ring > 0) {
                due("step", x.ring(0, ring, 2), steps[ring]);
            }
        }
        due("step of ring 0", () -> x.ring(0, 0, 2), NO_SUCH);
        due("no such ring", () -> x.ring(0, 5, 0), NO_SUCH);
        due("ring below 0", () -> x.ring(0, -1, 0), NO_SUCH);
        due("another what", () -> x.ring(0, 0, 4), NO_SUCH);
        due("what below 0", () -> x.ring(0, 1, -1), NO_SUCH);
        due("no such timber", () -> x.ring(1, 0, 0), NO_SUCH);
    }

    private static void index() {
        RingDater x = Tape.of("timber 0 0 10 20 15 30 25;timber 0 0 15 30 25;timber 0 0 1 1 1;known 0 100;known 1 100;known 2 110;");
        due("(500 + 642) / 2", x.index(100), 571);
        due("(1000 + 1285) / 2", x.index(101), 1142);
        due("(750 + 1071) / 2", x.index(102), 910);
        due("of one", x.index(103), 1500);
        due("between", x.index(105), NONE);
        due("behind a gap", x.index(112), 1000);
        due("behind", x.index(113), NONE);
        due("ahead", x.index(99), NONE);
        due("least", x.index(Integer.MIN_VALUE), NONE);
        due("greatest", x.index(Integer.MAX_VALUE), NONE);
        due("none", new RingDater().index(-1), NONE);
        RingDater all = Tape.of("timber 0 0 1 2 3;timber 0 0" + " 2 2".repeat(12) + ";known 0 0;known 1 900;");
        due("the first year of all", all.index(0), 500);
        due("the last year of all", all.index(923), 1000);
        due("behind it", all.index(924), NONE);
    }

    private static void depth() {
        RingDater x = Tape.of("timber 0 0 1 2 3;timber 0 0 1 2 3;timber 0 0 1 2 3;known 0 100;known 1 102;");
        int[] depths = {0, 1, 1, 2, 1, 1, 0};
        for (int i = 0; i < depths.length; i++) {
            due("depth of " + (99 + i), x.depth(99 + i), depths[i]);
        }
        due("least", x.depth(Integer.MIN_VALUE), 0);
        due("greatest", x.depth(Integer.MAX_VALUE), 0);
    }

    private static void pointer() {
        // year 11: four of four fall; 12: three of four rise; 13: two of four; 14: three of three stay
        RingDater x = Tape.of("timber 0 0 9 5 7 3 3;timber 0 0 9 5 7 3 3;timber 0 0 9 5 7 8 8;timber 0 0 9 5 5 6;"
                + "known 0 10;known 1 10;known 2 10;known 3 10;");
        due("pointers", x.count(13), 2);
        due("the first year", x.pointer(0, 0), 11);
        due("falls", x.pointer(0, 1), -1);
        due("the second year", x.pointer(1, 0), 12);
        due("rises", x.pointer(1, 1), 1);
        due("no third", () -> x.pointer(2, 0), NO_SUCH);
        due("below 0", () -> x.pointer(-1, 0), NO_SUCH);
        due("another what", () -> x.pointer(0, 2), NO_SUCH);
        due("what below 0", () -> x.pointer(0, -1), NO_SUCH);
        x.date(3, NONE);
        due("two of three aren't enough", x.pointer(1, 0), 12);
        due("13 isn't one", x.count(13), 2);
        x.date(2, NONE);
        due("two are too few", x.count(13), 0);
        RingDater last = Tape.of("timber 0 0 5 5 9;timber 0 0 5 5 8;timber 0 0 5 5 7;known 0 0;known 1 0;known 2 0;");
        due("the last year alone", last.count(13), 1);
        due("is 2", last.pointer(0, 0), 2);
        due("rises", last.pointer(0, 1), 1);
        RingDater three = Tape.of("timber 0 0 5 4 9;timber 0 0 5 4 8;timber 0 0 5 4 7;timber 0 0 5 6 9;"
                + "known 0 0;known 1 0;known 2 0;known 3 0;");
        due("three of four fall", three.pointer(0, 0) * 10 + three.pointer(0, 1), 9);
    }

    private static void slid() {
        RingDater x = Tape.of(TWO);
        int[] byTwo = {94, 3, 100, 84};
        int[] byOne = {19, 3, 0, 59};
        for (int what = 0; what < 4; what++) {
            due("by 2, " + what, x.slid(1, 0, 2, what), byTwo[what]);
            due("by 1, " + what, x.slid(1, 0, 1, what), byOne[what]);
            due("by -3, " + what, x.slid(1, 0, -3, what), NONE);
            due("by 5, " + what, x.slid(1, 0, 5, what), NONE);
        }
        due("one pair at the end", x.slid(1, 0, 4, 1), 1);
        due("one pair ahead", x.slid(1, 0, -2, 1), 1);
        due("no step in both", x.slid(1, 0, -2, 2), 0);
        due("least by", x.slid(1, 0, Integer.MIN_VALUE, 0), NONE);
        due("greatest by", x.slid(1, 0, Integer.MAX_VALUE, 0), NONE);
        due("another what", () -> x.slid(1, 0, 0, 4), NO_SUCH);
        due("what below 0", () -> x.slid(1, 0, 0, -1), NO_SUCH);
        due("no such timber", () -> x.slid(2, 0, 0, 0), NO_SUCH);
        due("no such timber along", () -> x.slid(0, 2, 0, 0), NO_SUCH);
        due("along none", () -> x.slid(0, NONE, 0, 0), NO_SUCH);
        due("itself", () -> x.slid(1, 1, 0, 0), ILLEGAL);
        due("itself, another what", () -> x.slid(1, 1, 0, 4), NO_SUCH);
        due("itself, not there", () -> x.slid(2, 2, 0, 0), NO_SUCH);
    }

    private static void slidDoubtful() {
        // steps 1, -1, 0, 1 along 1, 1, 1, 0: 2 + 0 + 1 + 1 of 8
        RingDater plain = Tape.of("timber 0 0 5 6 4 4 8;timber 0 0 5 6 7 8 8;");
        due("signs", plain.slid(0, 1, 0, 2), 50);
        // the one that is 0 else counts 1 if either number, or one ahead of it, is doubtful; the same ones 1 too
        due("here", Tape.of("timber 0 0 5 6 4? 4 8;timber 0 0 5 6 7 8 8;").slid(0, 1, 0, 2), 62);
        due("ahead", Tape.of("timber 0 0 5 6? 4 4 8;timber 0 0 5 6 7 8 8;").slid(0, 1, 0, 2), 50);
        due("in the other, ahead", Tape.of("timber 0 0 5 6 4 4 8;timber 0 0 5? 6 7 8 8;").slid(0, 1, 0, 2), 37);
        due("in the other, here", Tape.of("timber 0 0 5 6 4 4 8;timber 0 0 5 6 7? 8 8;").slid(0, 1, 0, 2), 62);
        due("both stay", Tape.of("timber 0 0 5 5 5;timber 0 0 7 7 7;").slid(0, 1, 0, 2), 100);
    }

    private static void best() {
        RingDater x = Tape.of(TWO);
        int[] due = {0, 100, 3, 94, 0};
        for (int what = 0; what < 5; what++) {
            due("on 0, " + what, x.best(1, 0, what), due[what]);
            due("on the chronology, " + what, x.best(1, NONE, what), due[what]);
            due("without others, " + what, x.best(0, NONE, what), what == 4 ? 1 : -1000);
        }
        x.date(1, 300);
        due("on all others, though dated", x.best(1, NONE, 0), 0);
        due("the other way round", x.best(0, 1, 0), 0);
        due("another what", () -> x.best(1, 0, 5), NO_SUCH);
        due("what below 0", () -> x.best(1, 0, -1), NO_SUCH);
        due("no such timber", () -> x.best(2, 0, 0), NO_SUCH);
        due("on no such timber", () -> x.best(0, 2, 0), NO_SUCH);
        due("on -2", () -> x.best(0, -2, 0), NO_SUCH);
        due("itself", () -> x.best(1, 1, 0), ILLEGAL);
        due("itself, another what", () -> x.best(1, 1, 5), NO_SUCH);
        RingDater only = Tape.of("lap 3;bound 58;timber 0 0 5 5 5;timber 0 0 1 2 3;");
        due("no other one", only.best(1, 0, 3), NONE);
        due("the bound itself is enough", only.best(1, 0, 4), 0);
        due("less isn't", Tape.of("lap 3;bound 59;timber 0 0 5 5 5;timber 0 0 1 2 3;").best(1, 0, 4), 2);
        due("the margin itself is enough", Tape.of(TWO.replace("margin 0", "margin 6")).best(1, 0, 4), 0);
        due("less than it isn't", Tape.of(TWO.replace("margin 0", "margin 7")).best(1, 0, 4), 3);
    }

    private static void bestOfLikeOnes() {
        // all slides score 100: that with most pairs, by 0, 1 or 2, then the least of them
        RingDater x = Tape.of("lap 3;margin 0;timber 0 0 5 5 5 5 5 5;timber 0 0 7 7 7 7;");
        due("score", x.best(1, 0, 1), 100);
        due("pairs", x.best(1, 0, 2), 4);
        due("slide", x.best(1, 0, 0), 0);
        due("other", x.best(1, 0, 3), 100);
        due("lap counts", Tape.of("lap 4;timber 0 0 5 5 5 5;timber 0 0 7 7 7 7;").best(1, 0, 3), NONE);
        RingDater below = Tape.of("lap 3;margin 0;timber 0 0 30 35 20 60;timber 0 0 10 40 30 35 20 60;");
        due("a slide below 0", below.best(1, 0, 0), -2);
        RingDater gap = Tape.of("lap 3;timber 0 0 1 2 3;timber 0 0 3 2 1;timber 0 0 5 7 5 7 5;known 0 0;known 1 5;");
        due("none is beside a gap", gap.best(2, NONE, 2), 3);
    }

    private static void link() {
        String three = "lap 6;margin 5;timber 0 0 " + LONG + ";timber 0 0 20 60 70 15 80 26;timber 0 0 30 35 20 60 70 15;";
        RingDater x = Tape.of(three);
        due("links", x.count(7), 2);
        // one rank of six is unlike by 1: 96, so 98; two of them: 92, so 97
        long[] first = {0, 2, 2, 98, 1};
        long[] second = {0, 1, 4, 97, 1};
        for (int what = 0; what < 5; what++) {
            int w = what;
            due("link 0, " + w, () -> x.link(0, w), first[w]);
            due("link 1, " + w, () -> x.link(1, w), second[w]);
        }
        due("no third", () -> x.link(2, 0), NO_SUCH);
        due("below 0", () -> x.link(-1, 0), NO_SUCH);
        due("another what", () -> x.link(0, 5), NO_SUCH);
        due("what below 0", () -> x.link(0, -1), NO_SUCH);
        // of like ones the lesser a, then b: 0-1, 0-2, 1-2 all score 100; the third joins what is joined
        RingDater like = Tape.of(("timber 0 0 " + LONG + ";").repeat(3));
        int[] a = {0, 0, 1};
        int[] b = {1, 2, 2};
        for (int i = 0; i < 3; i++) {
            due("a of " + i, like.link(i, 0), a[i]);
            due("b of " + i, like.link(i, 1), b[i]);
            due("score of " + i, like.link(i, 3), 100);
            due("tied " + i, like.link(i, 4), i < 2 ? 1 : 0);
        }
        due("it speaks not against", like.count(9), 0);
        linkAgainst();
    }

    /** 2 has the end of 0 and the beginning of 1, that lie elsewhere along one another. */
    private static void linkAgainst() {
        RingDater x = Tape.of("lap 7;margin 0;bound 60;timber 0 0 10 40 30 35 20 60 70 15 80 25 50 45;"
                + "timber 0 0 10 40 30 35 20 60 70;timber 0 0 60 70 15 80 25 50 45 40 30 35 20 60 70;");
        due("links", x.count(7), 3);
        due("pieces", x.count(8), 1);
        due("the first is tied", x.link(0, 4), 1);
        due("the third isn't", x.link(2, 4), 0);
        due("the third is of 1 and 2", x.link(2, 0) * 10 + x.link(2, 1), 12);
        due("its slide isn't by places", x.link(2, 2) == x.timber(2, 7) - x.timber(1, 7) ? 1 : 0, 0);
        due("against", x.count(9), 1);
    }

    private static void grown() {
        // 2 lies on 1 alone, so it can be dated but behind it
        RingDater x = Tape.of("bound 85;timber 0 0 10 40 30 35 20 60 70 15;"
                + "timber 0 0 30 35 20 60 70 15 80 25 50 45;timber 0 0 70 15 80 25 50 45 90 12;known 0 100;");
        due("two would be dated", x.count(15), 2);
        due("first 1", x.grown(0, 0), 1);
        due("its year", x.grown(0, 1), 102);
        due("its score", x.grown(0, 2), x.best(1, NONE, 1));
        due("then 2", x.grown(1, 0), 2);
        due("its year", x.grown(1, 1), 106);
        due("2 alone can't be", x.timber(2, 12), 2);
        due("no third", () -> x.grown(2, 0), NO_SUCH);
        due("below 0", () -> x.grown(-1, 0), NO_SUCH);
        due("another what", () -> x.grown(0, 3), NO_SUCH);
        due("what below 0", () -> x.grown(0, -1), NO_SUCH);
        due("none is dated by asking", x.count(4), 1);
        RingDater like = Tape.of("timber 0 0 30 35 20 60 70 15;timber 0 0 30 35 20 60 70 15;timber 0 0 " + LONG + ";known 2 9;");
        due("of like ones the first", like.grown(0, 0), 0);
        due("then the second", like.grown(1, 0), 1);
    }

    private static void help() {
        String on = "bound 90;timber 0 0 " + LONG + ";known 0 200;";
        // all but its 35, which is ring 3 of LONG
        RingDater lacks = Tape.of(on + "timber 0 0 10 40 30 20 60 70 15 80 25 50 45;");
        int before = lacks.best(1, NONE, 1);
        int helped = lacks.help(1, 1);
        due("one more, ahead of ring 2 as well as of ring 3: the first", lacks.help(1, 0), 202);
        due("scores more", helped > before ? 1 : 0, 1);
        due("it is mended", lacks.mend(1, 2, true), 12);
        due("and scores so", lacks.best(1, NONE, 1), helped);
        RingDater more = Tape.of(on + "timber 0 0 10 40 30? 30 35 20 1? 60 70 15 80 25 50 45;");
        due("without a ring", more.help(1, 0), 106);
        more.mend(1, 6, false);
        due("the first of like ones", more.help(1, 0), 102);
        RingDater none = Tape.of(on + "timber 0 0 " + LONG + ";");
        due("none", none.help(1, 0), 0);
        due("its score", none.help(1, 1), 100);
        RingDater ahead = Tape.of("lap 3;timber 0 0 9 5 7 3;timber 0 0 8? 9 5 7 3;known 0 200;");
        due("without ring 0", ahead.help(1, 0), 100);
        due("its score", ahead.help(1, 1), 100);
        RingDater early = Tape.of("lap 5;margin 0;timber 0 0 9 1 7 3 8;timber 0 0 9 7 3 8;known 0 200;");
        due("ahead of ring 1", early.help(1, 0), 201);
        due("another what", () -> none.help(1, 2), NO_SUCH);
        due("what below 0", () -> none.help(1, -1), NO_SUCH);
        due("no such timber", () -> none.help(2, 0), NO_SUCH);
        due("dated", () -> none.help(0, 0), ILLEGAL);
        due("dated, another what", () -> none.help(0, 2), NO_SUCH);
        RingDater without = Tape.of("timber 0 0 5 6? 7 8;");
        due("without a slide", without.help(0, 0), 0);
        due("no score", without.help(0, 1), 0);
        RingDater full = Tape.of("lap 24;timber 0 0" + " 5 9".repeat(12) + ";timber 0 0" + " 5 9".repeat(11) + " 5;known 0 0;");
        due("one more gives a slide", full.help(1, 0) > 200 ? 1 : 0, 1);
    }

    private static void date() {
        RingDater x = Tape.of(TWO);
        due("dated", x.date(1, 0), NONE);
        due("again", x.date(1, 900), 0);
        due("its year", x.timber(1, 4), 900);
        due("so already", x.date(1, 900), -2);
        due("901", x.date(1, 901), -2);
        due("-2", x.date(1, -2), -2);
        due("not any more", x.date(1, NONE), 900);
        due("so already", x.date(1, NONE), -2);
        due("no such timber", x.date(2, 5), -2);
        due("none", x.date(-1, 5), -2);
        due("status 1", x.count(20), 6);
        due("acts", x.count(16), 3);
    }

    private static void settle() {
        RingDater x = Tape.of(TWO);
        due("dated already", x.settle(0), NONE);
        due("no such timber", x.settle(2), NONE);
        due("below 0", x.settle(-1), NONE);
        due("settled", x.settle(1), 100);
        due("its year", x.timber(1, 4), 100);
        due("dated now", x.settle(1), NONE);
        due("status 1", x.count(20), 4);
        due("acts", x.count(16), 1);
        RingDater unsure = Tape.of(TWO.replace("margin 0", "margin 7"));
        due("not sure", unsure.settle(1), NONE);
        RingDater early = Tape.of("lap 5;timber 0 0 40 30 35 20 60 70;timber 0 0 10 40 30 35 20 60 70;known 0 0;");
        due("its year is -1", early.settle(1), NONE);
        due("it isn't dated", early.timber(1, 3), 0);
        early.date(0, 1);
        due("its year is 0", early.settle(1), 0);
    }

    private static void grow() {
        RingDater x = Tape.of("timber 0 0 10 40 30 35 20 60 70 15;timber 0 0 30 35 20 60 70 15 80 25 50 45;"
                + "timber 0 0 70 15 80 25 50 45 90 12;known 0 100;");
        due("grown", x.grow(), 2);
        due("dated", x.count(4), 7);
        due("year of 1", x.timber(1, 4), 102);
        due("year of 2", x.timber(2, 4), 106);
        due("one act", x.count(16), 1);
        due("none more", x.grow(), NONE);
        due("status 1", x.count(20), 1);
        due("undone", x.undo(), 0);
        due("dated then", x.count(4), 1);
        due("without a chronology", Tape.of("timber 0 0 1 2 3;").grow(), NONE);
    }

    private static void mend() {
        RingDater x = Tape.of("timber 0 0 5 6? 7 8;known 0 9;timber 1 2 5 6? 7 8;");
        due("dated", x.mend(0, 1, false), NONE);
        due("no such timber", x.mend(2, 1, false), NONE);
        due("not doubtful", x.mend(1, 0, false), NONE);
        due("no such ring", x.mend(1, 4, false), NONE);
        due("below 0", x.mend(1, -1, false), NONE);
        due("ahead of ring 0", x.mend(1, 0, true), NONE);
        due("behind the last", x.mend(1, 4, true), NONE);
        due("ahead of ring 3", x.mend(1, 3, true), 5);
        due("its width", x.ring(1, 3, 0), 1);
        due("it is doubtful", x.ring(1, 3, 1), 1);
        due("the next one's width", x.ring(1, 4, 0), 8);
        due("the next one isn't", x.ring(1, 4, 1), 0);
        due("without ring 1", x.mend(1, 1, false), 4);
        due("what is there then", x.ring(1, 1, 0), 7);
        due("it isn't doubtful", x.ring(1, 1, 1), 0);
        due("without ring 2", x.mend(1, 2, false), 3);
        x.doubt(1, 0);
        due("three are the least", x.mend(1, 0, false), NONE);
        for (int rings = 4; rings <= 24; rings++) {
            due("one more", x.mend(1, 1, true), rings);
        }
        due("24 are the most", x.mend(1, 1, true), NONE);
        due("status 1", x.count(20), 9);
    }

    private static void doubt() {
        RingDater x = Tape.of(TWO);
        due("doubtful", x.doubt(0, 4), 1);
        due("it is", x.ring(0, 4, 1), 1);
        due("one is", x.timber(0, 5), 1);
        due("not any more", x.doubt(0, 4), 0);
        due("it isn't", x.ring(0, 4, 1), 0);
        due("acts", x.count(16), 2);
        due("no such ring", x.doubt(0, 5), NONE);
        due("below 0", x.doubt(0, -1), NONE);
        due("no such timber", x.doubt(2, 0), NONE);
        due("status 1", x.count(20), 3);
        x.doubt(1, 0);
        due("a score with it", x.best(1, 0, 1), 83);
    }

    private static void move() {
        RingDater x = Tape.of(TWO);
        due("moved", x.move(1, 3), 0);
        due("its house", x.timber(1, 11), 3);
        due("moved again", x.move(1, 1), 3);
        due("so already", x.move(1, 1), NONE);
        due("no such house", x.move(1, 4), NONE);
        due("below 0", x.move(1, -1), NONE);
        due("no such timber", x.move(2, 1), NONE);
        due("status 1", x.count(20), 4);
        due("acts", x.count(16), 2);
    }

    private static void undo() {
        RingDater x = Tape.of("lap 3;margin 0;bound 50;timber 0 2 10 20 15 30 25;timber 1 3 15 7? 30 25;known 0 100;");
        x.date(0, 200);
        x.date(0, NONE);
        x.date(0, 300);
        x.mend(1, 1, false);
        x.settle(1);
        x.date(1, NONE);
        x.mend(1, 2, true);
        x.doubt(0, 0);
        x.move(0, 2);
        x.grow();
        due("the acts that weren't refused", x.count(16), 10 - x.count(20));
        for (int left = x.count(16) - 1; left >= 0; left--) {
            due("left", x.undo(), left);
        }
        due("none left", x.undo(), NONE);
        due("year", x.timber(0, 4), 100);
        due("dated", x.count(4), 1);
        due("house", x.timber(0, 11), 0);
        due("doubt of 0", x.timber(0, 5), 0);
        int[] widths = {15, 7, 30, 25};
        due("rings", x.timber(1, 0), 4);
        for (int r = 0; r < 4; r++) {
            due("width", x.ring(1, r, 0), widths[r]);
            due("doubtful", x.ring(1, r, 1), r == 1 ? 1 : 0);
        }
        undoOneByOne();
    }

    private static void undoOneByOne() {
        RingDater x = Tape.of("lap 3;margin 0;bound 50;timber 0 2 10 20 15 30 25;timber 1 3 15 30 25;known 0 100;");
        x.settle(1);
        x.undo();
        due("settled undone", x.timber(1, 4), NONE);
        x.date(0, 7);
        x.undo();
        due("dated undone", x.timber(0, 4), 100);
        x.date(0, NONE);
        x.undo();
        due("not dated undone", x.timber(0, 4), 100);
        x.mend(1, 2, true);
        x.undo();
        due("one more undone", x.timber(1, 0) * 100 + x.ring(1, 2, 0), 325);
        x.doubt(1, 1);
        x.undo();
        due("doubt undone", x.ring(1, 1, 1), 0);
        x.move(1, 3);
        x.undo();
        due("move undone", x.timber(1, 11), 0);
        x.note(1, 5);
        due("none left", x.undo(), NONE);
        due("notes stay", x.count(17), 1);
        due("undo is never counted", x.count(20), 0);
    }

    private static void note() {
        RingDater x = Tape.of(TWO);
        due("no such timber", x.note(2, 5), NONE);
        due("below 0", x.note(-1, 5), NONE);
        due("901", x.note(0, 901), NONE);
        due("-2", x.note(0, -2), NONE);
        due("status 2", x.count(21), 4);
        int[] years = {0, 900, NONE, 5, 5, 100, 7, 8};
        for (int i = 0; i < 8; i++) {
            due("noted", x.note(i % 2, years[i]), i + 1);
        }
        due("a ninth", x.note(0, 5), NONE);
        due("eight", x.count(17), 8);
        due("status 2", x.count(21), 5);
        due("it is no act", x.count(16), 0);
        due("status 1", x.count(20), 0);
    }

    private static void fits() {
        String text = "timber 0 0 5 5 5;timber 0 0 1 2 3;lap 3;known 0 900;";
        RingDater x = Tape.of(text);
        due("all without notes", x.fits(0), 51);
        due("the least", x.fits(1), 50);
        x.note(1, 900);
        due("scores 58, so 50 to 58", x.fits(0), 9);
        due("the least", x.fits(1), 50);
        x.note(1, NONE);
        due("both can't be", x.fits(0), 0);
        due("no least", x.fits(1), NONE);
        x.forget();
        x.note(1, NONE);
        due("59 to 100", x.fits(0), 42);
        due("the least", x.fits(1), 59);
        x.note(0, 900);
        due("the known one too", x.fits(0), 42);
        x.note(0, NONE);
        due("it is dated", x.fits(0), 0);
        due("the bound stays", x.count(1), 70);
        due("none is dated by it", x.count(4), 1);
        due("another what", () -> x.fits(2), NO_SUCH);
        due("what below 0", () -> x.fits(-1), NO_SUCH);
        RingDater from = Tape.of(text);
        from.date(1, 3);
        from.note(1, 3);
        due("all being grown from now on", from.fits(0), 51);
    }

    private static void look() {
        RingDater x = Tape.of("timber 0 0 5 5 5;timber 0 0 1 2 3;lap 3;known 0 900;");
        due("1 is dated or not", x.look(0), 1);
        due("two unlike", x.look(1), 2);
        x.note(1, 900);
        due("all are alike: the first", x.look(0), 0);
        due("one", x.look(1), 1);
        x.note(1, NONE);
        due("no bound fits", x.look(0), NONE);
        due("none unlike", x.look(1), 0);
        due("another what", () -> x.look(2), NO_SUCH);
        due("what below 0", () -> x.look(-1), NO_SUCH);
        RingDater two = Tape.of("timber 0 0 5 5 5;timber 0 0 1 2 3;timber 0 0 1 2 3;lap 3;known 0 900;");
        due("of like ones the first", two.look(0), 1);
    }

    private static void forget() {
        RingDater x = Tape.of(TWO);
        x.note(0, 5);
        x.note(9, 5);
        x.forget();
        due("forgotten", x.count(17), 0);
        due("status 2 stays", x.count(21), 1);
        due("noted anew", x.note(1, 5), 1);
        x.forget();
        x.forget();
        due("all fits", x.fits(0), 51);
    }

    private static void chance() {
        RingDater x = Tape.of(TWO);
        due("often, n 0", x.chance(1, 5, 0, 0), 0);
        due("greatest, n 0", x.chance(1, 5, 0, 1), 0);
        due("together, n 0", x.chance(1, 5, 0, 2), 0);
        due("n 41", () -> x.chance(1, 5, 41, 0), ILLEGAL);
        due("n -1", () -> x.chance(1, 5, -1, 0), ILLEGAL);
        due("another what", () -> x.chance(1, 5, 41, 3), NO_SUCH);
        due("what below 0", () -> x.chance(1, 5, 4, -1), NO_SUCH);
        due("no such timber", () -> x.chance(2, 5, 41, 0), NO_SUCH);
        RingDater without = Tape.of("timber 0 0 5 6 7;");
        due("without a slide each is as great", without.chance(0, 5, 40, 0), 40);
        due("all together 0", without.chance(0, 5, 40, 2), 0);
        // the draws of seed 1 are 8, 16, 15, so the row is 9 17 16: the chance of rows that are told as timbers
        int[] drawn = draws(1, 6);
        String rows = "timber 0 0 10 20 15;timber 0 0 " + drawn[0] + " " + drawn[1] + " " + drawn[2] + ";timber 0 0 "
                + drawn[3] + " " + drawn[4] + " " + drawn[5] + ";lap 3;known 0 100;";
        RingDater y = Tape.of(rows);
        int first = y.best(1, NONE, 1);
        int second = y.best(2, NONE, 1);
        due("with that timber, as it is dated", y.chance(0, 1, 2, 1), Math.max(first, second));
        due("together", y.chance(0, 1, 2, 2), first + second);
        due("as great as 100", y.chance(0, 1, 2, 0), (first == 100 ? 1 : 0) + (second == 100 ? 1 : 0));
        due("as great as its own", y.chance(1, 1, 1, 0), 1);
        due("once", y.chance(1, 1, 1, 2), first);
    }

    private static void told() {
        RingDater x = Tape.of("timber 3 14 5? 60 7?;");
        String due = "timber 3 14 5? 60 7?;";
        due("length", x.told(0, NONE), due.length());
        for (int i = 0; i < due.length(); i++) {
            due("sign " + i, x.told(0, i), due.charAt(i));
        }
        due("behind", () -> x.told(0, due.length()), NO_SUCH);
        due("below none", () -> x.told(0, -2), NO_SUCH);
        due("no such timber", () -> x.told(1, NONE), NO_SUCH);
    }

    private static void image() {
        RingDater x = Tape.of(TWO);
        x.image();
        x.date(1, 5);
        x.image();
        x.date(1, 6);
        due("restored", x.restore() ? 1 : 0, 1);
        due("the latest image", x.timber(1, 4), 5);
        due("its acts", x.count(16), 1);
        x.feed(0, 0, 0, 0, 0);
        x.restore();
        due("the tape isn't kept", x.count(18), 20);
    }

    /** Acts of many kinds come between: each that is kept is taken back rightly. */
    private static void restoredActs() {
        RingDater x = Tape.of("timber 0 2 10 20 15 30 25;timber 1 3 15 30? 25 9;known 0 100;");
        String[] states = new String[4];
        states[0] = Tape.timbers(x);
        x.mend(1, 1, false);
        states[1] = Tape.timbers(x);
        x.date(0, 44);
        states[2] = Tape.timbers(x);
        x.move(1, 2);
        states[3] = Tape.timbers(x);
        x.image();
        for (int k = 0; k < 3; k++) {
            x.undo();
        }
        x.doubt(0, 2);
        x.move(0, 1);
        x.doubt(1, 3);
        x.restore();
        for (int k = 3; k >= 0; k--) {
            due("as it was ahead of act " + k, Tape.timbers(x).equals(states[k]) ? 1 : 0, 1);
            x.undo();
        }
    }

    private static void restore() {
        restoredActs();
        RingDater x = Tape.of(TWO);
        due("there is none", x.restore() ? 1 : 0, 0);
        x.mend(1, 1, true);
        x.note(1, 5);
        x.note(9, 9);
        x.settle(9);
        x.image();
        x.undo();
        x.doubt(0, 1);
        x.move(0, 3);
        x.forget();
        x.note(0, 1);
        x.note(0, 2);
        x.note(9, 9);
        x.settle(9);
        x.date(0, NONE);
        for (int twice = 0; twice < 2; twice++) {
            due("restored", x.restore() ? 1 : 0, 1);
            due("rings", x.timber(1, 0), 4);
            due("doubtful", x.timber(0, 5), 0);
            due("house", x.timber(0, 11), 0);
            due("dated", x.count(4), 1);
            due("acts", x.count(16), 1);
            due("noted", x.count(17), 1);
            due("status 1", x.count(20), 1);
            due("status 2", x.count(21), 1);
            due("what is noted", x.fits(0), 0);
            due("its act is undone", x.undo(), 0);
            due("rings then", x.timber(1, 0), 3);
        }
    }
}
