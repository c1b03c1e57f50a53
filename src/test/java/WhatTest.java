/** Each what of each call that has one, asked of the same few timbers: no two of them are mixed up. */
public final class WhatTest extends Checks {
    private static final String END = "35 20 60 70 15 80 25 50 45";

    /** 1, 2 and 3 are dated; 0 would be, and so would 4, which lacks the first three rings; 5 has no slide. */
    private static final String SIX = "bound 61;lap 4;margin 3;"
            + "timber 0 1 " + LONG + ";timber 2 6 " + LONG + ";timber 4 9 " + LONG + ";timber 3 8 " + LONG + ";"
            + "timber 5 7 " + END + ";timber 1 30 6 5? 7?;"
            + "known 1 200;known 2 200;known 3 200;house 2 3;house 4 2;house 5 1;";

    private WhatTest() {
    }

    public static void main(String[] args) {
        counts();
        timbers();
        houses();
        rings();
        pointers();
        slides();
        bests();
        links();
        grown();
        helps();
        fitsAndLook();
        chances();
        ends("WhatTest");
    }

    private static void counts() {
        says(5, "0 TIMBERS, 1 BOUND, 2 LAP, 3 MARGIN, 4 DATED (bits), 5 the first YEAR of the CHRONOLOGY, 6 its last YEAR, "
                + "7 LINKS, 8 PIECES, 9 AGAINST, 10 BUILT, the first, 11 the last, 12 EDGE, 13 POINTERS, 14 ODD, "
                + "15 how many more would be DATED, were all GROWN, 16 ACTS that are kept, 17 NOTED, 18 bytes of the tape, 19 to 21 STATUS 0 to 2");
        RingDater x = Tape.of(SIX);
        for (int k = 1; k <= 6; k++) {
            Tape.yard(x, "x");
        }
        for (int k = 1; k <= 7; k++) {
            x.date(6, k);
        }
        for (int k = 1; k <= 8; k++) {
            x.note(6, k);
        }
        for (int k = 1; k <= 9; k++) {
            x.doubt(5, 0);
        }
        for (int k = 1; k <= 3; k++) {
            x.note(5, k);
        }
        Tape.feed(x, " ".repeat(40));
        // each two of 0 to 4 are linked; the six of 0 to 3 by 0, those of 4 by 3
        int[] due = {6, 61, 4, 3, 14, 200, 211, 10, 2, 0, 215, 217, 215, 11, 1, 2, 9, 3, 40, 6, 7, 8};
        for (int what = 0; what < due.length; what++) {
            due("what " + what, x.count(what), due[what]);
        }
        RingDater against = Tape.of("lap 7;margin 0;bound 60;timber 0 0 10 40 30 35 20 60 70 15 80 25 50 45;"
                + "timber 0 0 10 40 30 35 20 60 70;timber 0 0 60 70 15 80 25 50 45 40 30 35 20 60 70;");
        due("links", against.count(7), 3);
        due("pieces", against.count(8), 1);
        due("against", against.count(9), 1);
    }

    private static void timbers() {
        says(6, "0 RINGS, 1 LOST, the least, 2 the most, 3 whether it is DATED, 4 its YEAR (NONE), 5 DOUBTFUL RINGS, "
                + "6 the least TIMBER of its PIECE, 7 its PLACE, 8 FELLED, the least (NONE), 9 the most (NONE), "
                + "10 FIT (NONE: it isn't DATED), 11 its HOUSE, 12 why it can't be SETTLED");
        RingDater x = Tape.of(SIX);
        int[][] due = {
            {12, 0, 1, 0, NONE, 0, 0, 0, NONE, NONE, NONE, 0, 0},
            {12, 2, 6, 1, 200, 0, 0, 0, 213, 217, 100, 0, NONE},
            {12, 4, 9, 1, 200, 0, 0, 0, 215, 220, 100, 3, NONE},
            {12, 3, 8, 1, 200, 0, 0, 0, 214, 219, 100, 0, NONE},
            {9, 5, 7, 0, NONE, 0, 0, 3, NONE, NONE, NONE, 2, 0},
            {3, 1, 30, 0, NONE, 2, 5, 0, NONE, NONE, NONE, 1, 1},
        };
        for (int t = 0; t < due.length; t++) {
            for (int what = 0; what < due[t].length; what++) {
                due("timber " + t + ", what " + what, x.timber(t, what), due[t][what]);
            }
        }
    }

    private static void houses() {
        says(7, "its TIMBERS (bits; what 0), BUILT, the first YEAR (1; NONE: none of it is DATED), the last (2; NONE), REUSED (bits; 3)");
        RingDater x = Tape.of(SIX);
        x.date(5, 150);
        int[][] due = {{11, 214, 217, 0}, {32, 153, 182, 0}, {16, NONE, NONE, 0}, {4, 215, 220, 0}};
        houses(x, due);
        x.move(5, 3);
        houses(x, new int[][] {{11, 214, 217, 0}, {0, NONE, NONE, 0}, {16, NONE, NONE, 0}, {36, 215, 220, 32}});
    }

    private static void houses(RingDater x, int[][] due) {
        for (int house = 0; house < due.length; house++) {
            for (int what = 0; what < 4; what++) {
                due("house " + house + ", what " + what, x.house(house, what), due[house][what]);
            }
        }
    }

    private static void rings() {
        says(8, "0 WIDTH, 1 whether it is DOUBTFUL, 2 its STEP, 3 its RANK");
        RingDater x = Tape.of("timber 0 0 60 20? 90 90 30? 80;");
        int[][] due = {{60, 0, 0, 1}, {20, 1, -1, 0}, {90, 0, 1, 3}, {90, 0, 0, 3}, {30, 1, -1, 0}, {80, 0, 1, 1}};
        for (int r = 0; r < due.length; r++) {
            for (int what = 0; what < 4; what++) {
                int ring = r;
                int asked = what;
                boolean none = r == 0 && what == 2;
                due("ring " + r + ", what " + what, () -> x.ring(0, ring, asked), none ? NO_SUCH : due[r][what]);
            }
        }
    }

    private static void pointers() {
        says(11, "its YEAR (what 0), the STEP (1)");
        RingDater x = Tape.of(SIX);
        int[] steps = {1, -1, 1, -1, 1, 1, -1, 1, -1, 1, -1};
        for (int i = 0; i < steps.length; i++) {
            due("year of " + i, x.pointer(i, 0), 201 + i);
            due("step of " + i, x.pointer(i, 1), steps[i]);
        }
    }

    /** The steps of the rows 10 20 15 30 25, 15 30 25 are up down up down, up down; their ranks 0 2 1 3 1, 0 2 1. */
    private static void slides() {
        says(12, "SCORE (what 0), PAIRS (1), SIGNS (2), RANKS (3) of a TIMBER SLID along another one; NONE: no PAIRS");
        RingDater x = Tape.of(TWO);
        int[][] due = {
            {NONE, NONE, NONE, NONE},
            {25, 1, 0, 75},
            {21, 2, 0, 63},
            {100, 3, 100, 100},
            {19, 3, 0, 59},
            {94, 3, 100, 84},
            {16, 2, 0, 50},
            {25, 1, 0, 75},
            {NONE, NONE, NONE, NONE},
        };
        for (int i = 0; i < due.length; i++) {
            for (int what = 0; what < 4; what++) {
                due("by " + (i - 3) + ", what " + what, x.slid(1, 0, i - 3, what), due[i][what]);
            }
        }
    }

    private static void bests() {
        says(13, "by which SLIDE (what 0), SCORE (1), PAIRS (2), the greatest other SCORE (3; NONE: no other one); without a SLIDE -1000 each; WHY (4)");
        RingDater x = Tape.of(TWO.replace("margin 0", "margin 7").replace("10 20 15 30 25", "77 10 20 15 30 25"));
        int[] due = {1, 100, 3, 94, 3};
        int[] none = {-1000, -1000, -1000, -1000, 1};
        for (int what = 0; what < due.length; what++) {
            due("on 0, what " + what, x.best(1, 0, what), due[what]);
            due("on the chronology, what " + what, x.best(1, NONE, what), due[what]);
            due("without others, what " + what, x.best(0, NONE, what), none[what]);
        }
    }

    private static void links() {
        says(14, "a (what 0), b (1), the SLIDE (2), SCORE (3), whether it is TIED (4)");
        RingDater x = Tape.of(SIX);
        for (int i = 0; i < 10; i++) {
            int a = x.link(i, 0);
            int b = x.link(i, 1);
            due("slide of " + i, x.link(i, 2), b == 4 ? 3 : 0);
            due("score of " + i, x.link(i, 3), x.best(b, a, 1));
            due("tied " + i, x.link(i, 4), as01(a == 0));
        }
        int[] a = {0, 0, 0, 1, 1, 2, 0, 1, 2, 3};
        int[] b = {1, 2, 3, 2, 3, 3, 4, 4, 4, 4};
        for (int i = 0; i < 10; i++) {
            due("a of " + i, x.link(i, 0), a[i]);
            due("b of " + i, x.link(i, 1), b[i]);
            due("the greatest score of " + i, as01(x.link(i, 3) == 100), as01(i < 6));
        }
    }

    private static void grown() {
        says(15, "GROWN: the i-th that would be DATED (0 on): which (what 0), its YEAR (1), SCORE (2)");
        RingDater x = Tape.of(SIX);
        int[][] due = {{0, 200, 100}, {4, 203, x.best(4, 0, 1)}};
        for (int i = 0; i < due.length; i++) {
            for (int what = 0; what < 3; what++) {
                due("the one " + i + ", what " + what, x.grown(i, what), due[i][what]);
            }
        }
    }

    private static void helps() {
        says(16, "HELP: which (what 0), the SCORE (1)");
        RingDater x = Tape.of(SIX);
        due("none helps 0", x.help(0, 0), 0);
        due("its score", x.help(0, 1), 100);
        // 6 5 1 7, of RANKS 2 1 0 2: beside places 2 to 5, of RANKS 2 2 0 3, by 88; all that has SIGNS is doubtful
        due("one more ahead of ring 2 helps 5", x.help(5, 0), 202);
        due("its score", x.help(5, 1), (2 * 50 + 88) / 3);
    }

    private static void fitsAndLook() {
        says(25, "how many (what 0), the least (1; NONE)");
        RingDater x = Tape.of("lap 3;timber 0 0 5 5 5;timber 0 0 1 2 3;known 0 900;");
        x.note(1, NONE);
        due("how many", x.fits(0), 42);
        due("the least", x.fits(1), 59);
        says(26, "which (what 0; NONE), how many unlike (1; 0: none)");
        x.forget();
        RingDater third = Tape.of("lap 3;timber 0 0 5 5 5;timber 0 0 5 5 5;timber 0 0 5 5 5;timber 0 0 1 2 3;known 0 900;known 1 900;known 2 900;");
        due("which", third.look(0), 3);
        due("how many unlike", third.look(1), 2);
    }

    private static void chances() {
        says(28, "how often (what 0), the greatest (1), all together (2)");
        RingDater x = Tape.of("lap 3;timber 0 0 5 5 5;timber 0 0 5 5 5;known 0 9;");
        // 5 5 5 scores 100 on itself; three that are unlike score 58: SIGNS 50, RANKS 75
        int unlike = 0;
        int[] drawn = draws(7, 30);
        for (int k = 0; k < 30; k += 3) {
            unlike += as01(drawn[k] != drawn[k + 1] && drawn[k + 1] != drawn[k + 2] && drawn[k] != drawn[k + 2]);
        }
        due("all ten are unlike", unlike, 10);
        due("how often", x.chance(1, 7, 10, 0), 0);
        due("the greatest", x.chance(1, 7, 10, 1), 58);
        due("all together", x.chance(1, 7, 10, 2), 580);
    }
}
