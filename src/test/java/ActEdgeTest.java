/** The boundary cases of promises 17 to 23, a sentence a time: acts, and how they are undone. */
public final class ActEdgeTest extends Checks {
    private static final String T = "timber 0 0 1 1 1;";
    private static final String LIKE = "timber 0 0 " + LONG + ";";
    private static final String AHEAD = "lap 5;timber 0 0 40 30 35 20 60 70;timber 0 0 10 40 30 35 20 60 70;known 0 ";
    private static final String BEHIND = "lap 5;timber 0 0 10 40 30 35 20 60 70;timber 0 0 40 30 35 20 60 70;known 0 ";
    private static final int[] NO_TIMBERS = {LEAST, -2, -1, 2, 3, 8, GREATEST};

    private ActEdgeTest() {
    }

    public static void main(String[] args) {
        dateWithinYears();
        dateRefused();
        settleRefused();
        settleWithinYears();
        growRefused();
        growWithinYears();
        mendWithout();
        mendWithOneMore();
        mendRefused();
        doubtOfRings();
        doubtRefused();
        moveWithinHouses();
        moveRefused();
        undoOfEach();
        undoOfNone();
        fortyAreKept();
        refusedIsNoAct();
        actsBehindUndone();
        ends("ActEdgeTest");
    }

    // ---- promise 17

    private static void dateWithinYears() {
        says(17, "A TIMBER is DATED (a YEAR), or not any more (NONE): its YEAR that was (NONE)");
        RingDater x = Tape.of(T + T);
        int[] years = {0, 1, 0, 900, 899, NONE, 900, NONE, 0};
        int was = NONE;
        for (int k = 0; k < years.length; k++) {
            due("dated " + years[k], x.date(1, years[k]), was);
            due("its year", x.timber(1, 4), years[k]);
            due("whether it is dated", x.timber(1, 3), as01(years[k] != NONE));
            due("the other isn't", x.timber(0, 4), NONE);
            due("acts", x.count(16), k + 1);
            was = years[k];
        }
        due("none was refused", x.count(20), 0);
        RingDater known = Tape.of(T + T + "known 0 900;");
        due("a known one", known.date(0, 0), 900);
        due("the first timber", known.date(0, NONE), 0);
    }

    private static void dateRefused() {
        says(17, "-2 (STATUS 1): no such TIMBER, not 0 to 900, it is so already");
        RingDater x = Tape.of(T + T + "known 0 900;");
        int refused = 0;
        for (int t : NO_TIMBERS) {
            due("timber " + t, x.date(t, 5), -2);
            due("timber " + t + ", none", x.date(t, NONE), -2);
            refused += 2;
        }
        for (int year : new int[] {LEAST, LEAST + 1, -900, -3, -2, 901, 902, 924, GREATEST}) {
            due("year " + year, x.date(0, year), -2);
            due("year " + year + " of one that isn't dated", x.date(1, year), -2);
            refused += 2;
        }
        due("so already", x.date(0, 900), -2);
        due("not dated already", x.date(1, NONE), -2);
        due("status 1", x.count(20), refused + 2);
        due("acts", x.count(16), 0);
        due("one year less", x.date(0, 899), 900);
        due("so already then", x.date(0, 899), -2);
        due("that of another one", x.date(1, 899), NONE);
        due("status 1", x.count(20), refused + 3);
        due("the others of status", x.count(19) + x.count(21), 0);
    }

    // ---- promise 18

    private static void settle(String text, int timber, int due) {
        RingDater x = Tape.of(text);
        int year = x.timber(timber, 4);
        due("settled: " + text, x.settle(timber), due);
        due("its year", x.timber(timber, 4), due == NONE ? year : due);
        due("acts", x.count(16), as01(due != NONE));
        due("status 1", x.count(20), as01(due == NONE));
    }

    private static void settleRefused() {
        says(18, "NONE (STATUS 1): no such TIMBER, it is DATED, its BEST isn't SURE");
        RingDater x = Tape.of(TWO);
        for (int t : NO_TIMBERS) {
            due("timber " + t, x.settle(t), NONE);
        }
        due("status 1", x.count(20), NO_TIMBERS.length);
        settle(TWO, 0, NONE);
        settle(TWO, 1, 100);
        settle(TWO.replace("lap 3", "lap 4"), 1, NONE);
        settle(TWO.replace("bound 50", "bound 100"), 1, 100);
        settle(TWO.replace("margin 0", "margin 6"), 1, 100);
        settle(TWO.replace("margin 0", "margin 7"), 1, NONE);
        settle("lap 3;bound 58;timber 0 0 5 5 5;timber 0 0 1 2 3;known 0 5;", 1, 5);
        settle("lap 3;bound 59;timber 0 0 5 5 5;timber 0 0 1 2 3;known 0 5;", 1, NONE);
        settle(LIKE + LIKE, 0, NONE);
        due("settled", x.settle(1), 100);
        due("dated then", x.settle(1), NONE);
        due("not any more", x.date(1, NONE), 100);
        due("settled again", x.settle(1), 100);
    }

    private static void settleWithinYears() {
        says(18, "or the YEAR not 0 to 900");
        settle(AHEAD + "0;", 1, NONE);
        settle(AHEAD + "1;", 1, 0);
        settle(AHEAD + "900;", 1, 899);
        settle(BEHIND + "0;", 1, 1);
        settle(BEHIND + "899;", 1, 900);
        settle(BEHIND + "900;", 1, NONE);
    }

    // ---- promise 19

    private static void growRefused() {
        says(19, "NONE (STATUS 1): none would be");
        String[] texts = {"", T, LIKE.repeat(8), LIKE + LIKE + "known 0 5;known 1 5;", AHEAD + "0;", BEHIND + "900;",
            TWO.replace("margin 0", "margin 7"), "lap 3;bound 59;timber 0 0 5 5 5;timber 0 0 1 2 3;known 0 5;"};
        for (String text : texts) {
            RingDater x = Tape.of(text);
            int dated = x.count(4);
            due("none of " + text, x.grow(), NONE);
            due("status 1", x.count(20), 1);
            due("acts", x.count(16), 0);
            due("dated", x.count(4), dated);
        }
        due("none of a new one", new RingDater().grow(), NONE);
    }

    private static void growWithinYears() {
        says(19, "GROWN: how many are DATED by it");
        RingDater eight = Tape.of(LIKE.repeat(8) + "known 4 900;");
        due("all others", eight.grow(), 7);
        due("dated", eight.count(4), 255);
        due("one act", eight.count(16), 1);
        due("none more", eight.grow(), NONE);
        due("it is no act", eight.count(16), 1);
        for (int t = 0; t < 8; t++) {
            due("its year", eight.timber(t, 4), 900);
        }
        due("undone", eight.undo(), 0);
        due("the known one stays", eight.count(4), 16);
        due("one ahead", Tape.of(AHEAD + "1;").grow(), 1);
        due("one behind", Tape.of(BEHIND + "899;").grow(), 1);
        due("by the margin", Tape.of(TWO.replace("margin 0", "margin 6")).grow(), 1);
        due("by the bound", Tape.of("lap 3;bound 58;timber 0 0 5 5 5;timber 0 0 1 2 3;known 0 5;").grow(), 1);
        RingDater one = Tape.of("lap 12;" + LIKE + T + LIKE + "known 0 7;");
        due("one of two", one.grow(), 1);
        due("which", one.count(4), 5);
    }

    // ---- promise 20

    private static void mendWithout() {
        says(20, "without RING i (more false): RINGS then; a RING that is DOUBTFUL (if it has more than 3)");
        String[] due = {"timber 0 1 6 7? 8 9?;", "timber 0 1 5? 7? 8 9?;", "timber 0 1 5? 6 8 9?;", "timber 0 1 5? 6 7? 9?;", "timber 0 1 5? 6 7? 8;"};
        for (int i = 0; i < 5; i++) {
            RingDater x = Tape.of("timber 0 1 5? 6 7? 8 9?;");
            boolean can = i % 2 == 0;
            due("without ring " + i, x.mend(0, i, false), can ? 4 : NONE);
            due("it is then", Tape.told(x, 0), can ? due[i] : "timber 0 1 5? 6 7? 8 9?;");
            due("status 1", x.count(20), as01(!can));
        }
        RingDater x = Tape.of("timber 0 0" + " 9?".repeat(24) + ";");
        for (int rings = 23; rings >= 3; rings--) {
            due("one less", x.mend(0, rings, false), rings);
        }
        for (int i = -1; i <= 4; i++) {
            due("3 are the least", x.mend(0, i, false), NONE);
        }
        due("three rings", x.timber(0, 0), 3);
    }

    private static void mendWithOneMore() {
        says(20, "with one more ahead of it (true): RINGS then; WIDTH 1, DOUBTFUL, ahead of RING i (1 on; if it has fewer than 24)");
        String[] due = {"", "timber 0 1 5 1? 6? 7;", "timber 0 1 5 6? 1? 7;", ""};
        for (int i = 0; i < 4; i++) {
            RingDater x = Tape.of("timber 0 1 5 6? 7;");
            boolean can = i == 1 || i == 2;
            due("ahead of ring " + i, x.mend(0, i, true), can ? 4 : NONE);
            due("it is then", Tape.told(x, 0), can ? due[i] : "timber 0 1 5 6? 7;");
            due("status 1", x.count(20), as01(!can));
        }
        RingDater x = Tape.of("timber 0 0 5 6 7;");
        for (int rings = 4; rings <= 24; rings++) {
            due("behind what it has", x.mend(0, rings - 1, true), NONE);
            due("one more", x.mend(0, rings - 2, true), rings);
        }
        for (int i = -1; i <= 25; i++) {
            due("24 are the most", x.mend(0, i, true), NONE);
        }
        due("24 rings", x.timber(0, 0), 24);
        due("the last one's width", x.ring(0, 23, 0), 7);
        due("one of them may go again", x.mend(0, 22, false), 23);
        due("and come again", x.mend(0, 22, true), 24);
    }

    private static void mendRefused() {
        says(20, "NONE (STATUS 1): no such TIMBER, it is DATED, that can't be");
        RingDater x = Tape.of("timber 0 0 5? 6? 7? 8?;timber 0 0 5? 6? 7? 8?;known 0 0;");
        int refused = 0;
        for (int k = 0; k < 2; k++) {
            boolean more = k == 1;
            for (int t : NO_TIMBERS) {
                due("timber " + t, x.mend(t, 1, more), NONE);
                refused++;
            }
            for (int i : new int[] {LEAST, LEAST + 1, -1, 4, 5, 23, 24, 25, GREATEST}) {
                due("ring " + i, x.mend(1, i, more), NONE);
                refused++;
            }
            for (int i = 0; i < 4; i++) {
                due("dated", x.mend(0, i, more), NONE);
                refused++;
            }
            due("status 1", x.count(20), refused);
        }
        due("acts", x.count(16), 0);
        x.date(0, NONE);
        due("not dated any more", x.mend(0, 3, true), 5);
        x.date(1, 900);
        due("dated now", x.mend(1, 3, true), NONE);
    }

    // ---- promise 21

    private static void doubtOfRings() {
        says(21, "A RING is DOUBTFUL, or not any more: whether it is then (1)");
        RingDater x = Tape.of("timber 0 0 5? 6 7;timber 0 0" + " 9".repeat(24) + ";known 0 0;");
        due("not any more, though dated", x.doubt(0, 0), 0);
        due("is", x.doubt(0, 2), 1);
        due("so it is", Tape.told(x, 0), "timber 0 0 5 6 7?;");
        due("is again", x.doubt(0, 0), 1);
        due("so it is", Tape.told(x, 0), "timber 0 0 5? 6 7?;");
        due("the last of 24", x.doubt(1, 23), 1);
        due("it alone", x.timber(1, 5), 1);
        due("it is it", x.ring(1, 23, 1), 1);
        due("acts", x.count(16), 4);
        due("status 1", x.count(20), 0);
    }

    private static void doubtRefused() {
        says(21, "NONE (STATUS 1): no such TIMBER, RING");
        RingDater x = Tape.of("timber 0 0 5? 6 7;timber 0 0" + " 9".repeat(24) + ";");
        int refused = 0;
        for (int t : NO_TIMBERS) {
            due("timber " + t, x.doubt(t, 0), NONE);
            refused++;
        }
        for (int ring : new int[] {LEAST, -2, -1, 3, 4, 23, 24, GREATEST}) {
            due("ring " + ring, x.doubt(0, ring), NONE);
            refused++;
        }
        due("ring 24 of 24", x.doubt(1, 24), NONE);
        due("status 1", x.count(20), refused + 1);
        due("acts", x.count(16), 0);
        x.mend(0, 1, true);
        due("ring 3 is there now", x.doubt(0, 3), 1);
        x.mend(0, 1, false);
        due("and isn't again", x.doubt(0, 3), NONE);
    }

    // ---- promise 22

    private static void moveWithinHouses() {
        says(22, "A TIMBER is of another HOUSE: the one it was of");
        RingDater x = Tape.of(T + T + "house 1 2;known 1 5;");
        int[] houses = {3, 0, 1, 2, 0, 3};
        int was = 2;
        for (int k = 0; k < houses.length; k++) {
            due("moved to " + houses[k], x.move(1, houses[k]), was);
            due("its house", x.timber(1, 11), houses[k]);
            due("the other's", x.timber(0, 11), 0);
            due("acts", x.count(16), k + 1);
            was = houses[k];
        }
        due("status 1", x.count(20), 0);
    }

    private static void moveRefused() {
        says(22, "NONE (STATUS 1): no such TIMBER, HOUSE, it is so already");
        RingDater x = Tape.of(T + T + "house 1 3;");
        int refused = 0;
        for (int t : NO_TIMBERS) {
            due("timber " + t, x.move(t, 1), NONE);
            refused++;
        }
        for (int house : new int[] {LEAST, -2, -1, 4, 5, GREATEST}) {
            due("house " + house, x.move(0, house), NONE);
            refused++;
        }
        due("of house 0 already", x.move(0, 0), NONE);
        due("of house 3 already", x.move(1, 3), NONE);
        due("status 1", x.count(20), refused + 2);
        due("acts", x.count(16), 0);
        due("moved", x.move(0, 3), 0);
        due("of house 3 already", x.move(0, 3), NONE);
    }

    // ---- promise 23

    /** The act of this number, of a row that never ends; none of them is refused. */
    private static void act(RingDater x, int number) {
        int round = number / 10;
        switch (number % 10) {
            case 0 -> x.settle(1);
            case 1 -> x.move(round % 2, (round / 2 + 1) % 4);
            case 2 -> x.date(1, NONE);
            case 3 -> x.mend(1, 1 + round % 2, true);
            case 4 -> x.doubt(round % 2, round / 2 % 2);
            case 5 -> x.mend(1, 1 + round % 2, false);
            case 6 -> x.doubt(round % 2, round / 2 % 2);
            case 7 -> x.grow();
            case 8 -> x.date(0, 100 + number);
            default -> x.date(1, NONE);
        }
    }

    private static RingDater behindActs(int acts) {
        RingDater x = Tape.of(TWO);
        for (int number = 0; number < acts; number++) {
            act(x, number);
        }
        due("of " + acts + " acts none was refused", x.count(20), 0);
        return x;
    }

    private static void undoOfEach() {
        says(23, "The last ACT is UNDONE: how many are left");
        for (int acts = 1; acts <= 20; acts++) {
            RingDater x = behindActs(acts);
            due("left of " + acts, x.undo(), acts - 1);
            due("without the last of " + acts, Tape.timbers(x), Tape.timbers(behindActs(acts - 1)));
            due("acts", x.count(16), acts - 1);
        }
        RingDater gone = Tape.of("timber 0 0 5? 6? 7 8 9?;");
        gone.mend(0, 4, false);
        gone.mend(0, 0, false);
        due("both are gone", Tape.told(gone, 0), "timber 0 0 6? 7 8;");
        gone.undo();
        due("the first is there again, doubtful", Tape.told(gone, 0), "timber 0 0 5? 6? 7 8;");
        gone.undo();
        due("the last too", Tape.told(gone, 0), "timber 0 0 5? 6? 7 8 9?;");
        RingDater grown = Tape.of("margin 0;" + LIKE.repeat(4) + "known 2 5;");
        grown.date(0, 300);
        grown.grow();
        due("undone: those that it dated alone", grown.undo(), 1);
        due("dated", grown.count(4), 5);
        grown.undo();
        due("dated", grown.count(4), 4);
        String told = "timber 0 0 " + LONG + ";";
        for (int known = 0; known < 3; known++) {
            RingDater rings = Tape.of(LIKE.repeat(3) + "known " + known + " 5;");
            due("grown", rings.grow(), 2);
            rings.undo();
            due("those that it dated", rings.count(4), 1 << known);
            for (int t = 0; t < 3; t++) {
                due("the rings stay", Tape.told(rings, t), told);
            }
        }
    }

    private static void undoOfNone() {
        says(23, "NONE: there is none");
        RingDater x = Tape.of(TWO);
        due("behind a text", x.undo(), NONE);
        due("what is known is no act", x.timber(0, 4), 100);
        x.note(1, 5);
        x.image();
        x.settle(9);
        due("notes, images, refused calls are none", x.undo(), NONE);
        due("status 1", x.count(20), 1);
        x.doubt(0, 0);
        due("one", x.undo(), 0);
        due("no more", x.undo(), NONE);
        due("nor again", x.undo(), NONE);
        due("it isn't counted", x.count(20), 1);
        due("it is as it was", Tape.told(x, 0), "timber 0 2 10 20 15 30 25;");
        x.doubt(0, 0);
        Tape.yard(x, TWO);
        due("behind another text", x.undo(), NONE);
        due("of a new one", new RingDater().undo(), NONE);
    }

    private static void fortyAreKept() {
        says(23, "ACTS (at most 40 are kept, the latest ones)");
        for (int acts : new int[] {39, 40, 41, 43, 80, 81}) {
            int kept = Math.min(acts, 40);
            for (int undone = acts > 43 ? 39 : 0; undone <= kept; undone++) {
                RingDater x = behindActs(acts);
                due("kept of " + acts, x.count(16), kept);
                for (int k = 1; k <= undone; k++) {
                    due("left of " + acts, x.undo(), kept - k);
                }
                due(undone + " of " + acts + " undone", Tape.timbers(x), Tape.timbers(behindActs(acts - undone)));
                due("then one more", as01(x.undo() == NONE), as01(undone == kept));
            }
        }
    }

    private static void refusedIsNoAct() {
        says(23, "what its call doesn't refuse is one, also where all is as it was");
        RingDater x = Tape.of(TWO);
        x.date(0, 100);
        x.date(1, NONE);
        x.settle(0);
        x.mend(0, 1, true);
        x.mend(1, 0, true);
        x.doubt(1, 3);
        x.move(1, 0);
        x.date(0, NONE);
        x.grow();
        due("the one that wasn't refused", x.count(16), 1);
        due("the others", x.count(20), 8);
        due("undone", x.undo(), 0);
        due("dated", x.timber(0, 4), 100);
        x.doubt(0, 0);
        x.doubt(0, 0);
        x.date(0, 5);
        x.date(0, 100);
        x.move(0, 1);
        x.move(0, 0);
        due("all is as it was, and six are kept", x.count(16), 6);
        for (int left = 5; left >= 0; left--) {
            due("left", x.undo(), left);
        }
    }

    private static void actsBehindUndone() {
        says(23, "They are UNDONE, the last one first");
        RingDater x = behindActs(43);
        for (int k = 0; k < 20; k++) {
            x.undo();
        }
        for (int number = 23; number < 43; number++) {
            act(x, number);
        }
        due("as behind 43", Tape.timbers(x), Tape.timbers(behindActs(43)));
        due("kept", x.count(16), 40);
        act(x, 43);
        due("kept still", x.count(16), 40);
        for (int left = 39; left >= 0; left--) {
            due("left", x.undo(), left);
        }
        due("as behind 4", Tape.timbers(x), Tape.timbers(behindActs(4)));
        due("none", x.undo(), NONE);
    }
}
