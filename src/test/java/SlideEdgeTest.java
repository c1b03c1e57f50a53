import java.util.Random;

/** The boundary cases of promises 12 to 16, a sentence a time: slides, best places, links, what would grow, what helps. */
public final class SlideEdgeTest extends Checks {
    private static final String LIKE = "timber 0 0 " + LONG + ";";

    /** The second one lies on the first by a YEAR that the first's YEAR and 1 less come to. */
    private static final String AHEAD = "lap 5;timber 0 0 40 30 35 20 60 70;timber 0 0 10 40 30 35 20 60 70;known 0 ";

    /** The second one lies on the first by a YEAR that the first's YEAR and 1 more come to. */
    private static final String BEHIND = "lap 5;timber 0 0 10 40 30 35 20 60 70;timber 0 0 40 30 35 20 60 70;known 0 ";

    private SlideEdgeTest() {
    }

    public static void main(String[] args) {
        pairsOfAllSlides();
        slidByAnyInt();
        slidRefused();
        signsOfSteps();
        signsWithout();
        ranksAreCut();
        scoreIsCut();
        lapIsEnough();
        likeOnes();
        without();
        boundAndMargin();
        onTheChronologyOfOthers();
        bestRefused();
        linksInOrder();
        linksAreSure();
        tiedAndAgainst();
        linkRefused();
        grownWithinYears();
        grownOneAfterTheOther();
        grownRefused();
        helpOfRings();
        helpOfLikeOnes();
        helpAsMended();
        helpRefused();
        ends("SlideEdgeTest");
    }

    // ---- promise 12

    private static void pairsOfAllSlides() {
        says(12, "PAIRS (1); NONE: no PAIRS");
        String[] rows = {" 1 2 3", " 3 2 1 2", " 5 6 7 5 6 7 5" + " 8 9".repeat(8) + " 4"};
        int[] rings = {3, 4, 24};
        RingDater[] dater = new RingDater[4];
        for (int a = 0; a < 3; a++) {
            for (int b = 0; b < 3; b++) {
                for (int what = 0; what < 4; what++) {
                    dater[what] = Tape.of("timber 0 0" + rows[a] + ";timber 0 0" + rows[b] + ";");
                }
                for (int by = -30; by <= 30; by++) {
                    int pairs = Math.min(rings[b], rings[a] - by) - Math.max(0, -by);
                    String slide = rings[b] + " rings along " + rings[a] + " by " + by;
                    due("pairs of " + slide, dater[1].slid(1, 0, by, 1), pairs < 1 ? NONE : pairs);
                    for (int what : new int[] {0, 2, 3}) {
                        due("none, " + what + " of " + slide, as01(dater[what].slid(1, 0, by, what) == NONE), as01(pairs < 1));
                    }
                }
            }
        }
    }

    private static void slidByAnyInt() {
        says(12, "any int as an argument, the least and the greatest ones too");
        RingDater x = Tape.of(TWO);
        int[] slides = {LEAST, LEAST + 1, LEAST + 2, LEAST + 3, LEAST + 24, LEAST / 2, -65536, -925, -924, -923, -25, -24, -6, -5,
            5, 6, 24, 25, 923, 924, 925, 65536, GREATEST / 2, GREATEST - 24, GREATEST - 3, GREATEST - 1, GREATEST};
        for (int by : slides) {
            for (int what = 0; what < 4; what++) {
                due("by " + by + ", " + what, x.slid(1, 0, by, what), NONE);
                due("the other way round by " + by + ", " + what, x.slid(0, 1, by, what), NONE);
            }
        }
    }

    private static void slidRefused() {
        says(12, "NoSuchElementException: also another what. IllegalArgumentException (behind that): it is itself");
        RingDater x = Tape.of(TWO);
        for (int other : new int[] {LEAST, -2, -1, 2, 8, GREATEST}) {
            due("timber " + other, () -> x.slid(other, 0, 0, 0), NO_SUCH);
            due("along " + other, () -> x.slid(0, other, 0, 0), NO_SUCH);
            due("itself, not there: " + other, () -> x.slid(other, other, 0, 0), NO_SUCH);
        }
        for (int what : new int[] {LEAST, -1, 4, 5, GREATEST}) {
            due("what " + what, () -> x.slid(1, 0, 0, what), NO_SUCH);
            due("itself, what " + what, () -> x.slid(1, 1, 0, what), NO_SUCH);
            due("no pairs, what " + what, () -> x.slid(1, 0, 99, what), NO_SUCH);
        }
        for (int t = 0; t < 2; t++) {
            int timber = t;
            due("itself", () -> x.slid(timber, timber, 0, 0), ILLEGAL);
            due("itself without pairs", () -> x.slid(timber, timber, 99, 3), ILLEGAL);
        }
    }

    /** Two pairs, of which the second one alone has steps: each two steps, each ring doubtful in turn. */
    private static void signsOfSteps() {
        says(12, "2, if these are the same; 1, if just one is 0; 0 else; but 1, if either number, or one of those ahead of them, is DOUBTFUL");
        for (int a = -1; a <= 1; a++) {
            for (int b = -1; b <= 1; b++) {
                int plain = a == b ? 100 : a == 0 || b == 0 ? 50 : 0;
                for (int doubtful = 0; doubtful <= 6; doubtful++) {
                    String[] q = {"", "", "", "", "", "", ""};
                    q[doubtful] = "?";
                    RingDater x = Tape.of("timber 0 0 7" + q[1] + " 5" + q[2] + " " + (5 + a) + q[3] + ";"
                            + "timber 0 0 5" + q[4] + " " + (5 + b) + q[5] + " 7" + q[6] + ";");
                    boolean counts = doubtful >= 2 && doubtful <= 5;
                    due("steps " + a + " and " + b + ", doubtful the " + doubtful, x.slid(1, 0, 1, 2), counts ? 50 : plain);
                    due("its pairs", x.slid(1, 0, 1, 1), 2);
                }
            }
        }
    }

    private static void signsWithout() {
        says(12, "all together times 100, by twice how many such there are (cut; 0 without)");
        RingDater x = Tape.of("timber 0 0 1 2 3 4 5;timber 0 0 1 2 3 2 1;timber 0 0 1 2 3 3 2;");
        due("one pair, the first beside the last", x.slid(1, 0, 4, 2), 0);
        due("one pair, the last beside the first", x.slid(1, 0, -4, 2), 0);
        due("one step in both", x.slid(1, 0, 3, 2), 100);
        due("two of four steps", x.slid(1, 0, 0, 2), 50);
        due("two of four, one of them half", x.slid(2, 0, 0, 2), 62);
        due("one of three", x.slid(1, 0, -1, 2), 33);
    }

    private static void ranksAreCut() {
        says(12, "RANKS: together times 25, by how many PAIRS (cut); 100 less that");
        RingDater x = Tape.of("timber 0 0 1 1 9 1 1;timber 0 0 9 9 1 9 9;timber 0 0 5 5 5;timber 0 0 1 2 3;timber 0 0 5 5 5 4 4 4 4;timber 0 0 5 5 5 4 4 4 3;");
        due("8 of 5 pairs", x.slid(1, 0, 0, 3), 60);
        due("none unlike", x.slid(2, 0, 0, 3), 100 - 4 * 25 / 3);
        due("2 and 1 of 3 pairs", x.slid(3, 2, 0, 3), 75);
        due("2 of one pair", x.slid(3, 2, -2, 3), 50);
        due("2 and 1 of 2 pairs", x.slid(3, 2, -1, 3), 63);
        due("2 of 7 pairs", x.slid(5, 4, 0, 3), 93);
        due("the same", x.slid(2, 3, 2, 3), 50);
    }

    private static void scoreIsCut() {
        says(12, "SCORE: twice SIGNS and RANKS, by 3 (cut)");
        RingDater x = Tape.of(TWO);
        for (int by = -2; by <= 4; by++) {
            int signs = x.slid(1, 0, by, 2);
            int ranks = x.slid(1, 0, by, 3);
            due("by " + by, x.slid(1, 0, by, 0), (signs + signs + ranks) / 3);
        }
        due("200 and 84", x.slid(1, 0, 2, 0), 94);
        due("0 and 59", x.slid(1, 0, 1, 0), 19);
        due("0 and 75", x.slid(1, 0, 4, 0), 25);
        due("200 and 100", x.slid(1, 0, 0, 0), 100);
    }

    // ---- promise 13

    private static void lapIsEnough() {
        says(13, "of all SLIDES with LAP or more PAIRS");
        String rows = "margin 0;timber 0 0 1 2 3 4 5 6;timber 0 0 1 2 3 4 5 6;timber 0 0 1 2 3;known 0 9;";
        for (int lap = 3; lap <= 24; lap++) {
            RingDater x = Tape.of("lap " + lap + ";" + rows);
            for (int on = NONE; on <= 0; on++) {
                due("score by lap " + lap, x.best(1, on, 1), lap <= 6 ? 100 : -1000);
                due("pairs by lap " + lap, x.best(1, on, 2), lap <= 6 ? 6 : -1000);
                due("why by lap " + lap, x.best(1, on, 4), lap <= 6 ? 0 : 1);
                due("the other one by lap " + lap, as01(x.best(1, on, 3) >= 0), as01(lap <= 5));
                due("of three rings by lap " + lap, x.best(2, on, 2), lap == 3 ? 3 : -1000);
            }
        }
        RingDater full = Tape.of("lap 24;timber 0 0" + " 5 9 6".repeat(8) + ";timber 0 0" + " 5 9 6".repeat(8) + ";timber 0 0" + " 5".repeat(23) + ";");
        due("24 of 24 rings", full.best(1, 0, 2), 24);
        due("no other one", full.best(1, 0, 3), NONE);
        due("23 of 24", full.best(2, 0, 4), 1);
        RingDater without = Tape.of(rows);
        due("six without a lap", without.best(1, 0, 3), NONE);
        due("it is there", without.best(1, 0, 0), 0);
    }

    private static void likeOnes() {
        says(13, "of like ones that with more PAIRS, then the least");
        int[][] due = {{3, 3, 0, 3}, {5, 3, 0, 3}, {5, 5, 0, 5}, {3, 5, -2, 3}, {4, 6, -2, 4}, {24, 4, 0, 4}, {4, 24, -20, 4}};
        for (int[] d : due) {
            RingDater x = Tape.of("lap 3;margin 0;timber 0 0" + " 5".repeat(d[0]) + ";timber 0 0" + " 7".repeat(d[1]) + ";known 0 0;");
            for (int on = NONE; on <= 0; on++) {
                due("slide of " + d[1] + " on " + d[0], x.best(1, on, 0), d[2]);
                due("pairs of " + d[1] + " on " + d[0], x.best(1, on, 2), d[3]);
                due("the other one of " + d[1] + " on " + d[0], x.best(1, on, 3), d[0] == 3 && d[1] == 3 ? NONE : 100);
            }
        }
        RingDater stretches = Tape.of("lap 3;margin 0;timber 0 0 5 9 6 1 1 1 1 5 9 6 1;timber 0 0 5 9 6;");
        due("of two like stretches the first", stretches.best(1, 0, 0), 0);
        // 15 40 20 scores 94 at 0, for its 20 has a less one near; 100 at 5
        String later = "lap 3;timber 0 0 15 40 20 18 95 15 30 25;timber 0 0 15 30 25;known 0 9;";
        for (int on = NONE; on <= 0; on++) {
            RingDater x = Tape.of("margin 6;" + later);
            due("a greater one behind a less one", x.best(1, on, 0), 5);
            due("its score", x.best(1, on, 1), 100);
            due("the other one is ahead", x.best(1, on, 3), 94);
            due("less by 6", x.best(1, on, 4), 0);
            due("not by 7", Tape.of("margin 7;" + later).best(1, on, 4), 3);
        }
    }

    private static void without() {
        says(13, "without a SLIDE -1000 each; WHY (4). the greatest other SCORE (3; NONE: no other one)");
        RingDater x = Tape.of("timber 0 0 1 2 3 4 5;" + LIKE + LIKE + "known 0 5;");
        for (int what = 0; what <= 4; what++) {
            int due = what == 4 ? 1 : -1000;
            due("five rings, " + what, x.best(0, 1, what), due);
            due("on five rings, " + what, x.best(1, 0, what), due);
            due("on a chronology of five places, " + what, x.best(1, NONE, what), due);
            due("without others, " + what, x.best(0, NONE, what), due);
        }
        due("it has one", x.best(2, 1, 4), 0);
        RingDater none = Tape.of(LIKE + LIKE);
        due("without any dated", none.best(1, NONE, 0), -1000);
        RingDater gap = Tape.of("lap 4;timber 0 0 1 2 3;timber 0 0 1 2 3;timber 0 0 1 2 3 4;known 0 0;known 1 4;");
        due("pairs on both sides of a gap are too few", gap.best(2, NONE, 4), 1);
        RingDater both = Tape.of("lap 4;timber 0 0 1 2 3;timber 0 0 1 2 3;timber 0 0 1 2 3 4 5;known 0 0;known 1 4;");
        due("pairs on both sides of a gap are enough", both.best(2, NONE, 2), 4);
        due("from the first of them on", both.best(2, NONE, 0) >= 0 ? 1 : 0, 1);
    }

    private static void boundAndMargin() {
        says(13, "SURE, if its SCORE is BOUND or more, and the greatest SCORE of any other such SLIDE is less by MARGIN or more (there being none: it is)");
        String only = "lap 3;timber 0 0 5 5 5;timber 0 0 1 2 3;";
        for (int bound = 50; bound <= 100; bound++) {
            due("58 by bound " + bound, Tape.of("margin 50;bound " + bound + ";" + only).best(1, 0, 4), bound <= 58 ? 0 : 2);
        }
        due("70 without", Tape.of(only).best(1, 0, 4), 2);
        for (int margin = 0; margin <= 50; margin++) {
            String text = TWO.replace("margin 0", "margin " + margin);
            due("100 and 94 by margin " + margin, Tape.of(text).best(1, 0, 4), margin <= 6 ? 0 : 3);
            due("on the chronology", Tape.of(text).best(1, NONE, 4), margin <= 6 ? 0 : 3);
            String like = "lap 3;margin " + margin + ";timber 0 0 5 5 5 5;timber 0 0 7 7 7;";
            due("100 and 100 by margin " + margin, Tape.of(like).best(1, 0, 4), margin == 0 ? 0 : 3);
            due("below the bound, too", Tape.of("lap 3;bound 100;margin " + margin + ";timber 0 0 5 5 5 5;timber 0 0 1 2 3;").best(1, 0, 4), 2);
        }
        due("100 by bound 100", Tape.of(TWO.replace("bound 50", "bound 100")).best(1, 0, 4), 0);
        due("5 without: 6 is enough", Tape.of(TWO.replace("margin 0;", "")).best(1, 0, 4), 0);
    }

    private static void onTheChronologyOfOthers() {
        says(13, "(on NONE: on the CHRONOLOGY of all others that are DATED)");
        RingDater x = Tape.of("lap 3;margin 0;bound 50;timber 0 0 10 20 15 30 25;timber 0 0 15 30 25;known 0 100;known 1 300;");
        due("its own year doesn't count", x.best(1, NONE, 0), 0);
        due("nor the other's", x.best(0, NONE, 0), 0);
        x.date(0, NONE);
        due("alone it has no others", x.best(1, NONE, 4), 1);
        due("the other has", x.best(0, NONE, 0), 0);
        x.date(1, NONE);
        due("none has", x.best(0, NONE, 4), 1);
        // rings 3 on of LONG stand 200 years behind: the slide counts from the first year
        RingDater far = Tape.of("timber 0 0 1 1 1;timber 0 0 " + LONG + ";timber 0 0 35 20 60 70 15 80 25;known 0 0;known 1 200;");
        due("a slide counts from the first place", far.best(2, NONE, 0), 203);
        due("a year", far.settle(2), 203);
        RingDater last = Tape.of("timber 0 0 1 1 1;timber 0 0" + " 5 5 9 5".repeat(5) + " 6 9 1 7;timber 0 0 5 9 5 6 9 1 7;known 0 0;known 1 900;");
        due("the last places of all", last.best(2, NONE, 0), 917);
    }

    private static void bestRefused() {
        says(13, "NoSuchElementException: also another what. IllegalArgumentException (behind that): it is itself");
        RingDater x = Tape.of(TWO);
        for (int other : new int[] {LEAST, -2, 2, 8, GREATEST}) {
            due("timber " + other, () -> x.best(other, 0, 0), NO_SUCH);
            due("timber " + other + " on none", () -> x.best(other, NONE, 0), NO_SUCH);
            due("on " + other, () -> x.best(0, other, 0), NO_SUCH);
            due("itself, not there: " + other, () -> x.best(other, other, 0), NO_SUCH);
        }
        due("none on none", () -> x.best(NONE, NONE, 0), NO_SUCH);
        due("none on 0", () -> x.best(NONE, 0, 0), NO_SUCH);
        for (int what : new int[] {LEAST, -1, 5, 6, GREATEST}) {
            due("what " + what, () -> x.best(1, 0, what), NO_SUCH);
            due("without a slide, what " + what, () -> x.best(0, NONE, what), NO_SUCH);
            due("itself, what " + what, () -> x.best(1, 1, what), NO_SUCH);
        }
        for (int what = 0; what <= 4; what++) {
            int w = what;
            due("itself", () -> x.best(0, 0, w), ILLEGAL);
        }
    }

    // ---- promise 14

    private static void linksInOrder() {
        says(14, "The i-th LINK (0 on, the greatest SCORE first; of like ones the lesser a, then b)");
        RingDater x = Tape.of(LIKE.repeat(8));
        int i = 0;
        for (int a = 0; a < 8; a++) {
            for (int b = a + 1; b < 8; b++) {
                due("a of " + i, x.link(i, 0), a);
                due("b of " + i, x.link(i, 1), b);
                due("slide of " + i, x.link(i, 2), 0);
                due("score of " + i, x.link(i, 3), 100);
                due("tied " + i, x.link(i, 4), as01(a == 0));
                i++;
            }
        }
        RingDater y = Tape.of("margin 0;" + "timber 0 0 20 60 70 15 80 26;" + LIKE + "timber 0 0 30 35 20 60 70 15;" + "timber 0 0 20 60 70 15 80 25;");
        for (int k = 1; k < y.count(7); k++) {
            boolean falls = y.link(k - 1, 3) > y.link(k, 3);
            boolean like = y.link(k - 1, 3) == y.link(k, 3);
            boolean later = y.link(k - 1, 0) < y.link(k, 0) || y.link(k - 1, 0) == y.link(k, 0) && y.link(k - 1, 1) < y.link(k, 1);
            due("the one ahead of " + k + " is greater, or like it and earlier", as01(falls || like && later), 1);
            due("it is that of b on a", y.link(k, 2), y.best(y.link(k, 1), y.link(k, 0), 0));
            due("its score", y.link(k, 3), y.best(y.link(k, 1), y.link(k, 0), 1));
        }
        // 2 and 3 are like, 1 is unlike them at the end, 0 is more so
        String row = "timber 0 0 10 40 30 35 20 60 55 15 80 25 50 45;";
        RingDater rising = Tape.of("lap 10;timber 0 0 10 40 30 35 20 70 55 15 80 30 26 45;" + row.replace("50", "26") + row + row);
        int[][] due = {{2, 3, 100, 1}, {0, 1, 92, 1}, {1, 2, 92, 1}, {1, 3, 92, 0}, {0, 2, 84, 0}, {0, 3, 84, 0}};
        for (int k = 0; k < 6; k++) {
            due("a of " + k, rising.link(k, 0), due[k][0]);
            due("b of " + k, rising.link(k, 1), due[k][1]);
            due("slide of " + k, rising.link(k, 2), 0);
            due("score of " + k, rising.link(k, 3), due[k][2]);
            due("tied " + k, rising.link(k, 4), due[k][3]);
        }
        due("a slide below 0", Tape.of("lap 5;timber 0 0 40 30 35 20 60 70;timber 0 0 10 40 30 35 20 60 70;").link(0, 2), -1);
    }

    private static void linksAreSure() {
        says(14, "LINKS: of each two TIMBERS a, b (a the lesser) BEST of b on a, if it is SURE");
        due("by the margin", Tape.of(TWO.replace("margin 0", "margin 6")).count(7), 1);
        due("one less", Tape.of(TWO.replace("margin 0", "margin 7")).count(7), 0);
        String only = "lap 3;timber 0 0 5 5 5;timber 0 0 1 2 3;";
        due("by the bound", Tape.of("bound 58;" + only).count(7), 1);
        due("one less", Tape.of("bound 59;" + only).count(7), 0);
        due("by the lap", Tape.of("lap 12;" + LIKE + LIKE).count(7), 1);
        due("one less", Tape.of("lap 13;" + LIKE + LIKE).count(7), 0);
        due("one pair of two tells how they lie", Tape.of("lap 12;" + LIKE + LIKE).link(0, 3), 100);
    }

    private static void tiedAndAgainst() {
        says(14, "TIED: each that joins two that aren't joined by those ahead. AGAINST: LINKS that aren't TIED and whose SLIDE isn't what PLACES tell");
        // 0 and 3 are like, 1 and 2 are like: 0-3, 1-2 come first; then one link alone joins the two pieces
        String end = "timber 0 0 20 60 70 15 80 25 50 46;";
        RingDater x = Tape.of("margin 0;" + LIKE + end + end + LIKE);
        int tied = 0;
        int against = 0;
        for (int i = 0; i < x.count(7); i++) {
            int a = x.link(i, 0);
            int b = x.link(i, 1);
            boolean asPlaced = x.timber(b, 7) - x.timber(a, 7) == x.link(i, 2);
            tied += x.link(i, 4);
            against += as01(!asPlaced);
            due("a tied one is as placed", as01(x.link(i, 4) == 1 && !asPlaced), 0);
        }
        due("tied", tied, 3);
        due("links", x.count(7), 6);
        due("pieces", x.count(8), 1);
        due("against", x.count(9), against);
        due("the first", x.link(0, 0) * 10 + x.link(0, 1), 3);
        due("the second", x.link(1, 0) * 10 + x.link(1, 1), 12);
        due("place of 1", x.timber(1, 7), 4);
        due("place of 2", x.timber(2, 7), 4);
        due("place of 3", x.timber(3, 7), 0);
    }

    private static void linkRefused() {
        says(14, "NoSuchElementException: there is none, another what");
        RingDater x = Tape.of(TWO);
        RingDater eight = Tape.of(LIKE.repeat(8));
        for (int i : new int[] {LEAST, -2, -1, 1, 2, 28, GREATEST}) {
            for (int what = 0; what <= 4; what++) {
                int w = what;
                due("link " + i, () -> x.link(i, w), NO_SUCH);
            }
        }
        for (int what : new int[] {LEAST, -1, 5, 6, GREATEST}) {
            due("what " + what, () -> x.link(0, what), NO_SUCH);
        }
        due("the 28th", () -> eight.link(27, 0), 6);
        due("a 29th", () -> eight.link(28, 0), NO_SUCH);
        due("none at all", () -> Tape.of(LIKE).link(0, 0), NO_SUCH);
    }

    // ---- promise 15

    private static void grownWithinYears() {
        says(15, "a SURE BEST on the CHRONOLOGY by which its YEAR is 0 to 900");
        int[] known = {0, 1, 899, 900};
        int[] ahead = {NONE, 0, 898, 899};
        int[] behind = {1, 2, 900, NONE};
        for (int i = 0; i < known.length; i++) {
            RingDater x = Tape.of(AHEAD + known[i] + ";");
            due("one ahead of " + known[i], () -> x.grown(0, 1), ahead[i] == NONE ? NO_SUCH : ahead[i]);
            due("how many", x.count(15), as01(ahead[i] != NONE));
            RingDater y = Tape.of(BEHIND + known[i] + ";");
            due("one behind " + known[i], () -> y.grown(0, 1), behind[i] == NONE ? NO_SUCH : behind[i]);
            due("how many", y.count(15), as01(behind[i] != NONE));
        }
        String only = "lap 3;timber 0 0 5 5 5;timber 0 0 1 2 3;known 0 5;";
        due("58 by bound 58", () -> Tape.of("bound 58;" + only).grown(0, 2), 58);
        due("none by 59", () -> Tape.of("bound 59;" + only).grown(0, 2), NO_SUCH);
        due("100 and 94 by margin 6", () -> Tape.of(TWO.replace("margin 0", "margin 6")).grown(0, 2), 100);
        due("none by 7", () -> Tape.of(TWO.replace("margin 0", "margin 7")).grown(0, 2), NO_SUCH);
        // 1 would score 100 a year ahead of 0; 2 scores less, but has a year
        RingDater less = Tape.of("lap 5;margin 0;timber 0 0 40 30 35 20 60 70;timber 0 0 10 40 30 35 20 60 70;timber 0 0 30 35 20 60 71 15;known 0 0;");
        due("the greatest score has no year", less.timber(1, 12), 4);
        due("it is less", as01(less.best(2, NONE, 1) < less.best(1, NONE, 1)), 1);
        due("another one is dated", less.grown(0, 0), 2);
        due("its year", less.grown(0, 1), 1);
        due("none then", () -> less.grown(1, 0), NO_SUCH);
    }

    private static void grownOneAfterTheOther() {
        says(15, "that of greatest SCORE (of like ones the first) is DATED so; then anew, by the CHRONOLOGY with it");
        String a = "timber 0 0 10 40 30 35 20 60 70 15;";
        String b = "timber 0 0 30 35 20 60 70 15 80 25 50 45;";
        String c = "timber 0 0 70 15 80 25 50 45 90 12;";
        String[] texts = {a + b + c + "known 0 100;", c + b + a + "known 2 5;", b + a + c + b + "known 1 0;", LIKE.repeat(8) + "known 3 7;",
            "margin 0;bound 50;" + c + a + b + a + "known 1 880;", "bound 85;" + a + b + c + "known 0 100;", "lap 4;margin 0;bound 50;" + a + c + b + LIKE + "known 0 3;"};
        for (String text : texts) {
            RingDater asked = Tape.of(text);
            RingDater settled = Tape.of(text);
            int i = 0;
            for (int t = greatest(settled); t != NONE; t = greatest(settled)) {
                int score = settled.best(t, NONE, 1);
                due("which of " + text, asked.grown(i, 0), t);
                due("its score", asked.grown(i, 2), score);
                due("its year", asked.grown(i, 1), settled.settle(t));
                i++;
            }
            due("how many of " + text, asked.count(15), i);
            int none = i;
            due("there is none more", () -> asked.grown(none, 0), NO_SUCH);
            due("asking dates none", asked.count(16), 0);
            due("all being grown", asked.grow(), i);
            due("is that they are settled", asked.count(4), settled.count(4));
        }
    }

    private static int greatest(RingDater x) {
        int which = NONE;
        for (int t = 0; t < x.count(0); t++) {
            if (x.timber(t, 12) == 0 && (which == NONE || x.best(t, NONE, 1) > x.best(which, NONE, 1))) {
                which = t;
            }
        }
        return which;
    }

    private static void grownRefused() {
        says(15, "NoSuchElementException: there is none, another what");
        RingDater x = Tape.of(LIKE.repeat(8) + "known 0 0;");
        for (int what = 0; what <= 2; what++) {
            int w = what;
            for (int i : new int[] {LEAST, -1, 7, 8, GREATEST}) {
                due("the i-th of " + i, () -> x.grown(i, w), NO_SUCH);
            }
        }
        for (int what : new int[] {LEAST, -1, 3, 4, GREATEST}) {
            due("what " + what, () -> x.grown(0, what), NO_SUCH);
        }
        due("the last one", () -> x.grown(6, 0), 7);
        due("none at all", () -> Tape.of(LIKE.repeat(8)).grown(0, 0), NO_SUCH);
    }

    // ---- promise 16

    private static void helpOfRings() {
        says(16, "without a RING that is DOUBTFUL (if it has more than 3), or with one more, ahead of RING i (1 on; if it has fewer than 24)");
        RingDater three = Tape.of("lap 3;margin 0;timber 0 0 9 5 7 3;timber 0 0 8? 9? 5?;known 0 200;");
        due("three rings aren't made fewer", as01(three.help(1, 0) < 100 || three.help(1, 0) > 200), 1);
        RingDater four = Tape.of("lap 3;timber 0 0 9 5 7 3;timber 0 0 8? 9 5 7;known 0 200;");
        due("four are", four.help(1, 0), 100);
        RingDater surely = Tape.of("lap 3;timber 0 0 9 5 7 3;timber 0 0 8 9 5 7;known 0 200;");
        due("but not without one that isn't doubtful", as01(surely.help(1, 0) >= 100 && surely.help(1, 0) < 200), 0);
        RingDater last = Tape.of("lap 4;timber 0 0 9 5 7 3;timber 0 0 9 5 7 3 4?;known 0 200;");
        due("without the last ring", last.help(1, 0), 104);
        due("its score", last.help(1, 1), 100);
        RingDater ahead = Tape.of("lap 7;timber 0 0 9 5 7 3 8 1 6;timber 0 0 9 5 7 3 8 6;known 0 200;");
        due("one more ahead of the last ring", ahead.help(1, 0), 205);
        RingDater behind = Tape.of("lap 4;timber 0 0 9 9 9 1;timber 0 0 9 9 9;known 0 200;");
        due("none is put behind it", as01(behind.help(1, 0) == 203), 0);
        String full = "lap 24;timber 0 0" + " 5 9".repeat(12) + ";timber 0 0";
        due("23 rings may have one more", as01(Tape.of(full + " 5 9".repeat(11) + " 5;known 0 0;").help(1, 0) > 200), 1);
        due("24 may not", Tape.of("lap 23;timber 0 0" + " 5 9".repeat(12) + ";timber 0 0" + " 9 5 7".repeat(8) + ";known 0 0;").help(1, 0), 0);
    }

    private static void helpOfLikeOnes() {
        says(16, "none, then without a RING (the first first), then with one more (the first first), of like ones the first (0 without a SLIDE)");
        RingDater none = Tape.of("lap 3;timber 0 0 5 5 5 5 5;timber 0 0 7? 7? 7? 7?;known 0 9;");
        due("without any of them it scores as much: none", none.help(1, 0), 0);
        due("its score", none.help(1, 1), 66);
        RingDater first = Tape.of("lap 5;timber 0 0 9 5 7 3 8;timber 0 0 9 5? 5? 7 3 8;known 0 9;");
        due("without either of two: the first", first.help(1, 0), 101);
        due("its score", first.help(1, 1), 83);
        RingDater more = Tape.of("timber 0 0 " + LONG + ";timber 0 0 10 40 30 20 60 70 15 80 25 50 45;known 0 9;");
        due("one more ahead of either of two: the first", more.help(1, 0), 202);
        RingDater without = Tape.of("timber 0 0 5? 5? 5? 5? 5?;" + LIKE);
        due("without a chronology", without.help(0, 0), 0);
        due("no score", without.help(0, 1), 0);
        due("without a slide by the lap, but with one more", Tape.of("timber 0 0 5 5 5 5 5;" + LIKE + "known 1 5;").help(0, 0) > 200 ? 1 : 0, 1);
        RingDater tooShort = Tape.of("timber 0 0 5 5? 5 5;" + LIKE + "known 1 5;");
        due("two too few", tooShort.help(0, 0), 0);
        due("no score", tooShort.help(0, 1), 0);
    }

    /** Each mending done by its act, on an object of its own: the best score of all is what HELP tells. */
    private static void helpAsMended() {
        says(16, "what MENDED it has the greatest SCORE of BEST on the CHRONOLOGY");
        Random random = new Random(16);
        for (int k = 0; k < 40; k++) {
            int rings = k < 4 ? 23 + k % 2 : 3 + random.nextInt(6);
            StringBuilder text = new StringBuilder("margin 0;lap " + (3 + random.nextInt(4)) + ";timber 0 0");
            for (int r = 0; r < 12; r++) {
                text.append(' ').append(1 + random.nextInt(9));
            }
            text.append(";timber 0 0");
            for (int r = 0; r < rings; r++) {
                text.append(' ').append(1 + random.nextInt(9)).append(random.nextInt(3) == 0 ? "?" : "");
            }
            text.append(";known 0 50;");
            helpAsMended(text.toString(), rings);
        }
    }

    private static void helpAsMended(String text, int rings) {
        RingDater asked = Tape.of(text);
        int which = 0;
        int score = Math.max(0, asked.best(1, NONE, 1));
        for (int way = 100; way <= 224; way++) {
            RingDater x = Tape.of(text);
            if (way == 125) {
                way = 200;
            }
            if (x.mend(1, way % 100, way >= 200) != NONE && x.best(1, NONE, 1) > score) {
                which = way;
                score = x.best(1, NONE, 1);
            }
        }
        due("which, for " + text, asked.help(1, 0), which);
        due("the score, for " + text, asked.help(1, 1), score);
        due("it is as it was", asked.timber(1, 0), rings);
    }

    private static void helpRefused() {
        says(16, "NoSuchElementException: also another what. IllegalArgumentException (behind that): it is DATED");
        RingDater x = Tape.of(TWO);
        for (int t : new int[] {LEAST, -2, -1, 2, 8, GREATEST}) {
            due("timber " + t, () -> x.help(t, 0), NO_SUCH);
        }
        for (int what : new int[] {LEAST, -1, 2, 3, GREATEST}) {
            due("what " + what, () -> x.help(1, what), NO_SUCH);
            due("dated, what " + what, () -> x.help(0, what), NO_SUCH);
        }
        due("dated", () -> x.help(0, 0), ILLEGAL);
        due("dated", () -> x.help(0, 1), ILLEGAL);
        x.date(0, NONE);
        due("not any more", () -> x.help(0, 0), 0);
        x.date(1, 0);
        due("dated in year 0", () -> x.help(1, 1), ILLEGAL);
    }
}
