import java.util.Random;

/** The boundary cases of promises 5 to 11, a sentence a time: what is asked of timbers, houses, rings and years. */
public final class AskEdgeTest extends Checks {
    private static final String T = "timber 0 0 1 1 1;";
    private static final String LIKE = "timber 0 0 " + LONG + ";";

    private AskEdgeTest() {
    }

    public static void main(String[] args) {
        anotherWhat();
        datedBits();
        firstAndLastYear();
        linksAndPieces();
        builtYears();
        edgeYear();
        oddOne();
        wouldBeDated();
        keptCounts();
        statusCounts();
        noSuchTimber();
        timberNumbers();
        felled();
        fit();
        whyUnsettled();
        placesOfPieces();
        noSuchHouse();
        housesWithin();
        reused();
        noSuchRing();
        stepsAndRanks();
        indexIsCut();
        indexAtTheEnds();
        depths();
        pointersOfAllShares();
        pointersOfSteps();
        pointersAtTheEnds();
        ends("AskEdgeTest");
    }

    // ---- promise 5

    private static void anotherWhat() {
        says(5, "NoSuchElementException: another what");
        RingDater x = Tape.of(TWO);
        for (int what : new int[] {LEAST, -2, -1, 22, 23, GREATEST}) {
            due("count " + what, () -> x.count(what), NO_SUCH);
        }
        due("the first what", () -> x.count(0), 2);
        due("the last what", () -> x.count(21), 0);
    }

    private static void datedBits() {
        says(5, "4 DATED (bits)");
        due("none of none", new RingDater().count(4), 0);
        due("none of eight", Tape.of(T.repeat(8)).count(4), 0);
        StringBuilder text = new StringBuilder(T.repeat(8));
        int bits = 0;
        for (int t : new int[] {0, 7, 3, 1, 6, 2, 5, 4}) {
            text.append("known ").append(t).append(" 0;");
            bits += 1 << t;
            due("dated", Tape.of(text.toString()).count(4), bits);
        }
    }

    private static void firstAndLastYear() {
        says(5, "5 the first YEAR of the CHRONOLOGY (NONE), 6 its last YEAR (NONE)");
        String two = T + "timber 0 0" + " 2".repeat(24) + ";";
        due("none, the first", Tape.of(two).count(5), NONE);
        due("none, the last", Tape.of(two).count(6), NONE);
        due("the least first year", Tape.of(two + "known 0 0;").count(5), 0);
        due("the least last year", Tape.of(two + "known 0 0;").count(6), 2);
        due("the greatest first year", Tape.of(two + "known 1 900;").count(5), 900);
        due("the greatest last year", Tape.of(two + "known 1 900;").count(6), 923);
        RingDater both = Tape.of(two + "known 0 900;known 1 0;");
        due("of both the first", both.count(5), 0);
        due("of both the last", both.count(6), 902);
        RingDater within = Tape.of(two + "known 0 110;known 1 100;");
        due("one within the other, the first", within.count(5), 100);
        due("one within the other, the last", within.count(6), 123);
        within.date(1, NONE);
        due("the other one alone, the first", within.count(5), 110);
        due("the other one alone, the last", within.count(6), 112);
        within.date(0, NONE);
        due("not any more, the first", within.count(5), NONE);
        due("not any more, the last", within.count(6), NONE);
    }

    private static void linksAndPieces() {
        says(5, "7 LINKS, 8 PIECES, 9 AGAINST");
        RingDater eight = Tape.of(LIKE.repeat(8));
        due("each two are linked", eight.count(7), 28);
        due("all are one piece", eight.count(8), 1);
        due("none speaks against", eight.count(9), 0);
        int tied = 0;
        for (int i = 0; i < 28; i++) {
            tied += eight.link(i, 4);
        }
        due("tied are as few as join them", tied, 7);
        RingDater none = Tape.of(T.repeat(8));
        due("without slides no links", none.count(7), 0);
        due("one alone is a piece, too", none.count(8), 8);
        due("no timbers, no pieces", Tape.of("lap 3;").count(8), 0);
        due("one timber, one piece", Tape.of(T).count(8), 1);
        due("one timber, no link", Tape.of(LIKE).count(7), 0);
        RingDater dated = Tape.of(LIKE.repeat(2) + "known 0 5;known 1 800;");
        due("dated ones are linked too", dated.count(7), 1);
        due("nor do years speak against", dated.count(9), 0);
        // 2 has the end of 0 and the beginning of 1, that lie elsewhere along one another; 3 is like 1
        String one = "timber 0 0 10 40 30 35 20 60 70;";
        String against = "lap 7;margin 0;bound 60;timber 0 0 10 40 30 35 20 60 70 15 80 25 50 45;" + one
                + "timber 0 0 60 70 15 80 25 50 45 40 30 35 20 60 70;";
        RingDater three = Tape.of(against);
        due("three links", three.count(7), 3);
        due("one piece", three.count(8), 1);
        due("one speaks against", three.count(9), 1);
        RingDater four = Tape.of(against + one);
        due("six links", four.count(7), 6);
        due("one piece", four.count(8), 1);
        due("two speak against", four.count(9), 2);
    }

    private static RingDater felledBy(String lost0, String lost1) {
        return Tape.of("timber " + lost0 + " 1 2 3;timber " + lost1 + " 1 2 3;timber 0 0 1 2 3;known 0 100;known 1 100;");
    }

    private static void built(String lost0, String lost1, int first, int last, int edge) {
        due("first by " + lost0 + " and " + lost1, felledBy(lost0, lost1).count(10), first);
        due("last by " + lost0 + " and " + lost1, felledBy(lost0, lost1).count(11), last);
        due("edge by " + lost0 + " and " + lost1, felledBy(lost0, lost1).count(12), edge);
        due("first the other way round", felledBy(lost1, lost0).count(10), first);
        due("last the other way round", felledBy(lost1, lost0).count(11), last);
        due("edge the other way round", felledBy(lost1, lost0).count(12), edge);
    }

    private static void builtYears() {
        says(5, "10 BUILT, the first (NONE), 11 the last (NONE), 12 EDGE (NONE)");
        built("2 4", "3 5", 105, 106, 105);
        built("2 4", "4 6", 106, 106, 106);
        built("2 4", "5 6", NONE, NONE, 107);
        built("2 8", "3 3", 105, 105, 105);
        built("0 0", "0 0", 102, 102, 102);
        built("0 0", "1 30", NONE, NONE, 103);
        built("0 30", "30 30", 132, 132, 132);
        RingDater none = Tape.of(T);
        for (int what = 10; what <= 12; what++) {
            due("none is dated, " + what, none.count(what), NONE);
        }
        none.date(0, 0);
        for (int what = 10; what <= 12; what++) {
            due("one alone, " + what, none.count(what), 2);
        }
    }

    private static void edgeYear() {
        says(5, "EDGE: the latest YEAR of any least");
        String text = "timber 30 30" + " 2".repeat(24) + ";";
        due("the greatest", Tape.of(text + "known 0 900;").count(12), 953);
        due("built then", Tape.of(text + "known 0 900;").count(10), 953);
        due("built until then", Tape.of(text + "known 0 900;").count(11), 953);
        due("what isn't dated has none", Tape.of(text + T + "known 1 7;").count(12), 9);
        due("houses count for nothing", Tape.of(text + T + "known 0 0;known 1 7;house 1 2;").count(12), 53);
    }

    private static void oddOne() {
        says(5, "14 ODD (NONE): the DATED one of least FIT (of like ones the first)");
        due("none is dated", Tape.of(T + T).count(14), NONE);
        due("one alone", Tape.of(T + T + "known 1 5;").count(14), 1);
        due("like ones", Tape.of(LIKE.repeat(3) + "known 0 5;known 1 5;known 2 5;").count(14), 0);
        due("of like ones that are dated", Tape.of(LIKE.repeat(3) + "known 1 5;known 2 5;").count(14), 1);
        due("the first of those that fit in nothing", Tape.of(LIKE.repeat(4) + "known 0 5;known 1 5;known 2 800;known 3 900;").count(14), 2);
        RingDater x = Tape.of("lap 3;timber 0 0 1 5 2 7;timber 0 0 1 5 2 7;timber 0 0 7 2 5 1;known 0 5;known 1 5;known 2 5;");
        due("the least fit", x.count(14), 2);
        x.date(2, NONE);
        due("it isn't dated any more", x.count(14), 0);
        RingDater first = Tape.of("lap 3;timber 0 0 7 2 5 1;timber 0 0 1 5 2 7;timber 0 0 1 5 2 7;known 0 5;known 1 5;known 2 5;");
        due("the least fit is that of 0", as01(first.timber(0, 10) < first.timber(1, 10)), 1);
        due("the first is the odd one", first.count(14), 0);
        RingDater between = Tape.of("lap 3;timber 0 0 1 5 2 7;timber 0 0 7 2 5 1;timber 0 0 1 5 2 7;known 0 5;known 1 5;known 2 5;");
        due("the one between", between.count(14), 1);
    }

    private static void wouldBeDated() {
        says(5, "15 how many more would be DATED, were all GROWN");
        due("no chronology", Tape.of(LIKE.repeat(8)).count(15), 0);
        RingDater x = Tape.of(LIKE.repeat(8) + "known 7 0;");
        due("all others", x.count(15), 7);
        due("asking dates none", x.count(4), 128);
        due("nor is it an act", x.count(16), 0);
        x.grow();
        due("none more", x.count(15), 0);
        String only = "lap 3;timber 0 0 5 5 5;timber 0 0 1 2 3;known 0 5;";
        due("58 by bound 58", Tape.of("bound 58;" + only).count(15), 1);
        due("not by 59", Tape.of("bound 59;" + only).count(15), 0);
        due("100 and 94 by margin 6", Tape.of(TWO.replace("margin 0", "margin 6")).count(15), 1);
        due("not by 7", Tape.of(TWO.replace("margin 0", "margin 7")).count(15), 0);
        due("none of those that are known", Tape.of(LIKE.repeat(2) + "known 0 0;known 1 0;").count(15), 0);
    }

    private static void keptCounts() {
        says(5, "16 ACTS that are kept, 17 NOTED");
        RingDater x = Tape.of(T);
        for (int k = 1; k <= 42; k++) {
            x.doubt(0, k % 3);
            due("acts", x.count(16), Math.min(k, 40));
        }
        for (int k = 1; k <= 10; k++) {
            x.note(0, k);
            due("noted", x.count(17), Math.min(k, 8));
        }
        x.forget();
        due("none is noted", x.count(17), 0);
        due("acts stay", x.count(16), 40);
        x.undo();
        due("one less", x.count(16), 39);
    }

    private static void statusCounts() {
        says(5, "19 to 21 STATUS 0 to 2 (not counted where an exception tells it)");
        RingDater x = Tape.of(LIKE + T);
        int[] due = {0, 0, 0};
        for (int k = 0; k < 6; k++) {
            int which = k % 3;
            if (which == 0) {
                Tape.yard(x, "x");
            } else if (which == 1) {
                x.grow();
            } else {
                x.note(0, 901);
            }
            due[which]++;
            for (int s = 0; s < 3; s++) {
                due("status " + s, x.count(19 + s), due[s]);
            }
        }
        due("exception", () -> x.yard(-1), ILLEGAL);
        due("exception", () -> x.help(9, 0), NO_SUCH);
        due("exception", () -> x.slid(0, 0, 0, 0), ILLEGAL);
        due("exception", () -> x.fits(9), NO_SUCH);
        due("exception", () -> x.grown(0, 0), NO_SUCH);
        x.undo();
        x.restore();
        x.forget();
        for (int s = 0; s < 3; s++) {
            due("status " + s + " then", x.count(19 + s), 2);
        }
    }

    // ---- promise 6

    private static void noSuchTimber() {
        says(6, "NoSuchElementException: no such TIMBER (as everywhere), another what");
        RingDater x = Tape.of(TWO);
        for (int t : new int[] {LEAST, -2, -1, 2, 3, 7, 8, GREATEST}) {
            due("timber " + t, () -> x.timber(t, 0), NO_SUCH);
        }
        for (int what : new int[] {LEAST, -2, -1, 13, 14, GREATEST}) {
            due("what " + what, () -> x.timber(1, what), NO_SUCH);
        }
        due("the last timber, the last what", () -> x.timber(1, 12), 0);
        due("the first timber, the first what", () -> x.timber(0, 0), 5);
        RingDater eight = Tape.of(T.repeat(8));
        due("the eighth", () -> eight.timber(7, 0), 3);
        due("a ninth", () -> eight.timber(8, 0), NO_SUCH);
    }

    private static void timberNumbers() {
        says(6, "0 RINGS, 1 LOST, the least, 2 the most, 3 whether it is DATED, 4 its YEAR (NONE), 5 DOUBTFUL RINGS, 11 its HOUSE");
        RingDater x = Tape.of("timber 0 0 1 1 1;timber 30 30" + " 9?".repeat(24) + ";timber 0 30 5? 5 5?;"
                + "known 0 0;known 1 900;house 1 3;");
        int[][] due = {{3, 0, 0, 1, 0, 0, 0}, {24, 30, 30, 1, 900, 24, 3}, {3, 0, 30, 0, NONE, 2, 0}};
        int[] whats = {0, 1, 2, 3, 4, 5, 11};
        for (int t = 0; t < 3; t++) {
            for (int i = 0; i < whats.length; i++) {
                due("timber " + t + ", " + whats[i], x.timber(t, whats[i]), due[t][i]);
            }
        }
        x.date(0, NONE);
        due("not dated any more", x.timber(0, 3), 0);
        due("no year", x.timber(0, 4), NONE);
    }

    private static void felled() {
        says(6, "8 FELLED, the least (NONE), 9 the most (NONE)");
        RingDater x = Tape.of("timber 0 0 1 1 1;timber 0 30 1 1 1;timber 30 30" + " 9".repeat(24) + ";timber 1 2 1 1 1 1;"
                + "known 0 0;known 1 50;known 2 900;");
        int[] least = {2, 52, 953, NONE};
        int[] most = {2, 82, 953, NONE};
        for (int t = 0; t < 4; t++) {
            due("the least of " + t, x.timber(t, 8), least[t]);
            due("the most of " + t, x.timber(t, 9), most[t]);
        }
        x.date(3, 10);
        due("the least of 3, dated", x.timber(3, 8), 14);
        due("the most of 3, dated", x.timber(3, 9), 15);
    }

    private static void fit() {
        says(6, "10 FIT (NONE: it isn't DATED): SCORE (0 with fewer than 1 PAIR, or without others)");
        RingDater x = Tape.of(TWO);
        due("it isn't dated", x.timber(1, 10), NONE);
        due("without others", x.timber(0, 10), 0);
        int[] years = {0, 96, 97, 98, 104, 105, 106, 900};
        // of one pair no step is in both: signs 0; the ranks are unlike by 1: 75, by 3
        int[] fits = {0, 0, 0, 25, 25, 0, 0, 0};
        for (int i = 0; i < years.length; i++) {
            x.date(1, years[i]);
            due("at " + years[i], x.timber(1, 10), fits[i]);
        }
        x.date(1, 102);
        due("at 102", x.timber(1, 10), 94);
        x.date(1, 100);
        due("at 100", x.timber(1, 10), 100);
        RingDater gap = Tape.of("lap 3;timber 0 0 1 2 3;timber 0 0 1 2 3;timber 0 0 4 5 6;known 0 0;known 1 20;known 2 10;");
        due("beside a gap of the chronology", gap.timber(2, 10), 0);
        gap.date(2, 18);
        due("one pair behind the gap", gap.timber(2, 10), 16);
        gap.date(2, 20);
        due("all pairs behind the gap", gap.timber(2, 10), 100);
    }

    private static void why(String text, int timber, int why) {
        due("why " + text, Tape.of(text).timber(timber, 12), why);
    }

    private static void whyUnsettled() {
        says(6, "12 why it can't be SETTLED (0 it can, 1 to 3 WHY, 4 the YEAR isn't 0 to 900, NONE: it is DATED)");
        why(TWO, 0, NONE);
        why(TWO, 1, 0);
        why(TWO.replace("lap 3", "lap 4"), 1, 1);
        why(TWO.replace("known 0 100;", ""), 1, 1);
        why(TWO.replace("bound 50", "bound 100"), 1, 0);
        why("lap 3;bound 58;timber 0 0 5 5 5;timber 0 0 1 2 3;known 0 5;", 1, 0);
        why("lap 3;bound 59;timber 0 0 5 5 5;timber 0 0 1 2 3;known 0 5;", 1, 2);
        why(TWO.replace("margin 0", "margin 6"), 1, 0);
        why(TWO.replace("margin 0", "margin 7"), 1, 3);
        why("lap 3;bound 59;margin 50;timber 0 0 5 5 5 5;timber 0 0 1 2 3;known 0 5;", 1, 2);
        why("lap 3;bound 58;margin 50;timber 0 0 5 5 5;timber 0 0 1 2 3;known 0 5;", 1, 0);
        String early = "lap 5;timber 0 0 40 30 35 20 60 70;timber 0 0 10 40 30 35 20 60 70;known 0 ";
        why(early + "0;", 1, 4);
        why(early + "1;", 1, 0);
        String late = "lap 5;timber 0 0 10 40 30 35 20 60 70;timber 0 0 40 30 35 20 60 70;known 0 ";
        why(late + "899;", 1, 0);
        why(late + "900;", 1, 4);
        why((early + "0;").replace("lap 5;", "lap 5;bound 98;"), 1, 2);
        // three of the same widths beside three of them, then once more: the other one is as great
        why("lap 3;margin 1;timber 0 0 5 7 5 7 5;timber 0 0 5 7 5;known 0 900;", 1, 3);
    }

    private static void placesOfPieces() {
        says(6, "6 the least TIMBER of its PIECE, 7 its PLACE");
        RingDater alone = Tape.of(T.repeat(8));
        for (int t = 0; t < 8; t++) {
            due("one alone is its own least", alone.timber(t, 6), t);
            due("at place 0", alone.timber(t, 7), 0);
        }
        // 0, 1 and 2 lie on one another, 3 on none, 4 and 5 on one another
        String a = "timber 0 0 10 40 30 35 20 60 70 15;timber 0 0 30 35 20 60 70 15;";
        String b = "timber 0 0 9 8 7 6 5 4 3 2 9 1 8;timber 0 0 99 9 8 7 6 5 4 3 2 9 1 8;timber 0 0 7 6 5 4 3 2 9 1 8;";
        String text = "margin 0;bound 95;lap 8;" + b + "timber 0 0 1 1 1;" + a.replace("timber 0 0 30", "timber 0 0 10 40 30");
        RingDater x = Tape.of(text);
        int[] leasts = {0, 0, 0, 3, 4, 4};
        int[] places = {0, -1, 2, 0, 0, 0};
        for (int t = 0; t < 6; t++) {
            due("least of " + t, x.timber(t, 6), leasts[t]);
            due("place of " + t, x.timber(t, 7), places[t]);
        }
        due("pieces", x.count(8), 3);
        joinedPieces();
        placeIsLost();
    }

    /** Timbers of one wood, more or less: pieces, places and what speaks against are told by the links alone. */
    private static void joinedPieces() {
        // 0-2 by 2, 1-2 by 1, 0-3 by -1 are tied; 1-3 by 2 and 0-1 by -1 speak against, 2-3 by -3 doesn't
        RingDater x = Tape.of("margin 0;bound 60;lap 5;timber 0 0 40 95 15 85 25 75 5 65;timber 0 0 50 10 70 20 90 30 60 40;"
                + "timber 0 0 15 85 25 75 5 65 35;timber 0 0 70 20 90 30 60 40 95 15 85;");
        int[] places = {0, 1, 2, -1};
        for (int t = 0; t < 4; t++) {
            due("least of " + t, x.timber(t, 6), 0);
            due("place of " + t, x.timber(t, 7), places[t]);
        }
        due("two speak against", x.count(9), 2);
        Random random = new Random(6);
        int against = 0;
        for (int k = 0; k < 60; k++) {
            int[] row = new int[14];
            for (int i = 0; i < row.length; i++) {
                row[i] = 2 + random.nextInt(97);
            }
            StringBuilder text = new StringBuilder("margin 0;bound 60;lap 4;");
            for (int t = 0; t < 6; t++) {
                int from = random.nextInt(7);
                text.append("timber 0 0");
                for (int r = 0; r < 4 + random.nextInt(4); r++) {
                    text.append(' ').append(random.nextInt(4) == 0 ? 50 : row[Math.min(13, from + r)]);
                }
                text.append(';');
            }
            against += asLinked(text.toString());
        }
        due("some speak against", as01(against > 0), 1);
    }

    private static int asLinked(String text) {
        RingDater x = Tape.of(text);
        int timbers = x.count(0);
        int[][] links = new int[x.count(7)][5];
        for (int i = 0; i < links.length; i++) {
            for (int what = 0; what < 5; what++) {
                links[i][what] = x.link(i, what);
            }
        }
        Integer[] places = new Integer[timbers];
        int[] leasts = new int[timbers];
        int pieces = 0;
        for (int t = 0; t < timbers; t++) {
            if (places[t] == null) {
                pieces++;
                places[t] = 0;
                leasts[t] = t;
                for (int k = 0; k < timbers; k++) {
                    spread(links, places, leasts);
                }
            }
            due("least of " + t + " of " + text, x.timber(t, 6), leasts[t]);
            due("place of " + t + " of " + text, x.timber(t, 7), places[t]);
        }
        int against = 0;
        for (int[] link : links) {
            against += as01(places[link[1]] - places[link[0]] != link[2]);
        }
        due("pieces of " + text, x.count(8), pieces);
        due("against of " + text, x.count(9), against);
        return against;
    }

    private static void spread(int[][] links, Integer[] places, int[] leasts) {
        for (int[] link : links) {
            int a = link[0];
            int b = link[1];
            if (link[4] == 1 && (places[a] == null) != (places[b] == null)) {
                leasts[places[a] == null ? a : b] = leasts[places[a] == null ? b : a];
                if (places[a] == null) {
                    places[a] = places[b] - link[2];
                } else {
                    places[b] = places[a] + link[2];
                }
            }
        }
    }

    private static void placeIsLost() {
        RingDater x = Tape.of("lap 5;timber 0 0 10 40 30 35 20 60 70;timber 0 0 40 30 35 20 60;");
        due("a place", x.timber(1, 7), 1);
        due("of the piece of 0", x.timber(1, 6), 0);
        x.doubt(1, 2);
        x.doubt(1, 3);
        x.doubt(1, 1);
        due("the link is gone", x.count(7), 0);
        due("so is its place", x.timber(1, 7), 0);
        due("it is its own piece", x.timber(1, 6), 1);
        x.undo();
        x.undo();
        x.undo();
        due("it is there again", x.timber(1, 7), 1);
    }

    // ---- promise 7

    private static void noSuchHouse() {
        says(7, "NoSuchElementException: no such HOUSE, another what");
        RingDater x = Tape.of(TWO);
        for (int house : new int[] {LEAST, -2, -1, 4, 5, GREATEST}) {
            due("house " + house, () -> x.house(house, 0), NO_SUCH);
        }
        for (int what : new int[] {LEAST, -2, -1, 4, 5, GREATEST}) {
            due("what " + what, () -> x.house(0, what), NO_SUCH);
        }
        due("the last house, the last what", () -> x.house(3, 3), 0);
        due("the first house, the first what", () -> x.house(0, 0), 3);
    }

    private static void housesWithin() {
        says(7, "its TIMBERS (bits; what 0), BUILT, the first YEAR (1; NONE: none of it is DATED), the last (2; NONE), REUSED (bits; 3)");
        RingDater all = Tape.of(T.repeat(8));
        due("all", all.house(0, 0), 255);
        due("none", all.house(3, 0), 0);
        all.move(7, 3);
        due("the eighth", all.house(3, 0), 128);
        due("the others", all.house(0, 0), 127);
        due("none of it is dated, the first", all.house(3, 1), NONE);
        due("none of it is dated, the last", all.house(3, 2), NONE);
        due("none of it is dated, reused", all.house(3, 3), 0);
        all.date(0, 100);
        due("dated is another house's, the first", all.house(3, 1), NONE);
        due("dated is another house's, the last", all.house(3, 2), NONE);
        all.date(7, 0);
        due("one, the first", all.house(3, 1), 2);
        due("one, the last", all.house(3, 2), 2);
        due("one is never reused", all.house(3, 3), 0);
        RingDater last = Tape.of("timber 30 30" + " 2".repeat(24) + ";known 0 900;house 0 1;");
        due("the greatest first", last.house(1, 1), 953);
        due("the greatest last", last.house(1, 2), 953);
    }

    private static void reused() {
        says(7, "REUSED are those of its DATED TIMBERS whose most is less than the EDGE of its DATED ones");
        // 0 may have been felled until 106; 1 was from its edge on, until 112
        int[] leasts = {3, 4, 5};
        int[] reused = {0, 0, 1};
        int[] lasts = {106, 106, 112};
        for (int i = 0; i < 3; i++) {
            RingDater x = Tape.of("timber 2 4 1 2 3;timber " + leasts[i] + " 10 1 2 3;timber 30 30 1 2 3;timber 30 30 1 2 3;"
                    + "known 0 100;known 1 100;known 3 100;house 0 2;house 1 2;house 2 2;house 3 1;");
            due("the edge", x.house(2, 1), 102 + leasts[i]);
            due("reused", x.house(2, 3), reused[i]);
            due("the last", x.house(2, 2), lasts[i]);
            due("its timbers", x.house(2, 0), 7);
        }
        for (int first = 1; first <= 3; first++) {
            int[] mosts = {0, 9, 9, 9};
            mosts[first] = 4;
            RingDater x = Tape.of("timber 0 0 1 2 3;timber 0 " + mosts[1] + " 1 2 3;timber 0 " + mosts[2] + " 1 2 3;timber 0 " + mosts[3]
                    + " 1 2 3;known 1 100;known 2 100;known 3 100;");
            due("the least of any most is that of " + first, x.house(0, 2), 106);
            due("so it is for all", x.count(11), 106);
            due("none is reused", x.house(0, 3), 0);
        }
        RingDater many = Tape.of("timber 0 0 1 2 3;".repeat(7) + "timber 1 1 1 2 3;"
                + "known 0 9;known 1 9;known 2 9;known 3 9;known 4 9;known 5 9;known 6 9;known 7 9;");
        due("all but the last one", many.house(0, 3), 127);
        due("the last", many.house(0, 2), 12);
    }

    // ---- promise 8

    private static void noSuchRing() {
        says(8, "NoSuchElementException: also no such RING (as everywhere), another what; of RING 0 STEP");
        RingDater x = Tape.of("timber 0 0 5 6 7;timber 0 0" + " 9".repeat(24) + ";");
        for (int what = 0; what < 4; what++) {
            int w = what;
            for (int ring : new int[] {LEAST, -2, -1, 3, 4, 23, 24, GREATEST}) {
                due("ring " + ring, () -> x.ring(0, ring, w), NO_SUCH);
            }
            for (int t : new int[] {LEAST, -1, 2, 8, GREATEST}) {
                due("timber " + t, () -> x.ring(t, 1, w), NO_SUCH);
            }
            due("ring 24 of 24", () -> x.ring(1, 24, w), NO_SUCH);
        }
        for (int what : new int[] {LEAST, -2, -1, 4, 5, GREATEST}) {
            due("what " + what, () -> x.ring(0, 1, what), NO_SUCH);
        }
        due("of ring 0 step", () -> x.ring(0, 0, 2), NO_SUCH);
        due("of ring 0 rank", () -> x.ring(0, 0, 3), 0);
        due("of ring 1 step", () -> x.ring(0, 1, 2), 1);
        due("the last ring", () -> x.ring(0, 2, 0), 7);
        due("ring 23 of 24", () -> x.ring(1, 23, 0), 9);
        due("its step", () -> x.ring(1, 23, 2), 0);
    }

    private static void stepsAndRanks() {
        says(8, "RANK of a number: how many of those at the two places ahead and the two behind (that there are) are less");
        RingDater x = Tape.of("timber 0 0 5 1 9 2 2 7;timber 0 0 1 99 98;");
        int[] ranks = {1, 0, 4, 1, 0, 2};
        int[] steps = {0, -1, 1, -1, 0, 1};
        for (int r = 0; r < 6; r++) {
            due("rank of " + r, x.ring(0, r, 3), ranks[r]);
            if (r > 0) {
                due("step of " + r, x.ring(0, r, 2), steps[r]);
            }
        }
        due("rank of 1", x.ring(1, 0, 3), 0);
        due("rank of 99", x.ring(1, 1, 3), 2);
        due("rank of 98", x.ring(1, 2, 3), 1);
        says(8, "0 WIDTH, 1 whether it is DOUBTFUL");
        RingDater y = Tape.of("timber 0 0 1? 99 1 99?;");
        int[] widths = {1, 99, 1, 99};
        for (int r = 0; r < 4; r++) {
            due("width", y.ring(0, r, 0), widths[r]);
            due("doubtful", y.ring(0, r, 1), r % 3 == 0 ? 1 : 0);
        }
    }

    // ---- promise 9

    private static void indexIsCut() {
        says(9, "1000 times its WIDTH times how many RINGS it has, by all its WIDTHS together (cut); all these together by how many (cut)");
        // sevenths of 3000: 428 and 4 of 7, 857 and 1 of 7, 1285 and 5 of 7, 1714 and 2 of 7
        RingDater x = Tape.of("timber 0 0 1 2 4;timber 0 0 3 2 2;known 0 5;");
        due("one", x.index(5), 428);
        due("two", x.index(6), 857);
        due("four", x.index(7), 1714);
        x.date(1, 5);
        due("of both, each cut ahead", x.index(5), 856);
        due("of both like ones", x.index(6), 857);
        due("of both, cut", x.index(7), 1285);
        RingDater least = Tape.of("timber 0 0 1" + " 99".repeat(23) + ";timber 0 0 99" + " 1".repeat(23) + ";known 0 0;known 1 900;");
        due("the least", least.index(0), 10);
        due("the greatest", least.index(900), 19475);
    }

    private static void indexAtTheEnds() {
        says(9, "INDEX of a YEAR; NONE: there is none");
        RingDater none = Tape.of(T);
        RingDater x = Tape.of(T + T + "known 0 0;known 1 5;");
        for (int year : new int[] {LEAST, LEAST + 1, -900, -2, -1, 3, 4, 8, 9, 900, 924, GREATEST - 1, GREATEST}) {
            due("no chronology, " + year, none.index(year), NONE);
            due("none in " + year, x.index(year), NONE);
        }
        for (int year : new int[] {0, 1, 2, 5, 6, 7}) {
            due("one in " + year, x.index(year), 1000);
        }
        RingDater last = Tape.of("timber 0 0" + " 1".repeat(24) + ";known 0 900;");
        due("ahead of the first", last.index(899), NONE);
        due("the first", last.index(900), 1000);
        due("the last", last.index(923), 1000);
        due("behind it", last.index(924), NONE);
    }

    // ---- promise 10

    private static void depths() {
        says(10, "DEPTH of a YEAR: how many DATED TIMBERS have a RING there");
        RingDater x = Tape.of(T.repeat(8) + "known 0 0;known 1 1;known 2 2;known 3 2;known 7 900;");
        int[] years = {LEAST, LEAST + 1, -1, 0, 1, 2, 3, 4, 5, 899, 900, 902, 903, GREATEST - 1, GREATEST};
        int[] deep = {0, 0, 0, 1, 2, 4, 3, 2, 0, 0, 1, 1, 0, 0, 0};
        for (int i = 0; i < years.length; i++) {
            due("of " + years[i], x.depth(years[i]), deep[i]);
        }
        due("without any dated", Tape.of(T).depth(0), 0);
        due("without timbers", new RingDater().depth(-1), 0);
        StringBuilder all = new StringBuilder(T.repeat(8));
        for (int t = 0; t < 8; t++) {
            all.append("known ").append(t).append(" 9;");
        }
        due("of all", Tape.of(all.toString()).depth(11), 8);
        due("behind all", Tape.of(all.toString()).depth(12), 0);
        due("ahead of all", Tape.of(all.toString()).depth(8), 0);
    }

    // ---- promise 11

    private static void pointersOfAllShares() {
        says(11, "YEARS at which 3 or more DATED TIMBERS have a STEP, and three quarters or more of these the same one, not 0");
        for (int rise = 0; rise <= 8; rise++) {
            for (int fall = 0; rise + fall <= 8; fall++) {
                for (int stay = 0; rise + fall + stay <= 8; stay++) {
                    sharesOf(rise, fall, stay);
                }
            }
        }
    }

    private static void sharesOf(int rise, int fall, int stay) {
        int all = rise + fall + stay;
        StringBuilder text = new StringBuilder("timber 0 0 5 9 9;".repeat(rise) + "timber 0 0 9 5 5;".repeat(fall) + T.repeat(stay));
        for (int t = 0; t < all; t++) {
            text.append("known ").append(t).append(" 10;");
        }
        RingDater x = Tape.of(text.toString());
        int step = all < 3 ? 0 : rise * 100 >= all * 75 ? 1 : fall * 100 >= all * 75 ? -1 : 0;
        String shares = rise + " rise, " + fall + " fall, " + stay + " stay";
        due(shares, x.count(13), Math.abs(step));
        due(shares + ", the year", () -> x.pointer(0, 0), step == 0 ? NO_SUCH : 11);
        due(shares + ", the step", () -> x.pointer(0, 1), step == 0 ? NO_SUCH : step);
    }

    private static void pointersOfSteps() {
        says(11, "DATED TIMBERS have a STEP");
        String up = "timber 0 0 5 9 9;";
        due("a ring 0 has none", Tape.of(up.repeat(4) + "known 0 10;known 1 10;known 2 11;known 3 11;").count(13), 0);
        due("nor does it count among these", Tape.of(up.repeat(3) + "timber 0 0 9 9 5;timber 0 0 9 9 9;"
                + "known 0 10;known 1 10;known 2 10;known 3 11;known 4 11;").count(13), 1);
        due("one that isn't dated has none", Tape.of(up.repeat(3) + "known 0 10;known 1 10;").count(13), 0);
        due("nor does it count among these", Tape.of(up.repeat(3) + "timber 0 0 9 5 9;timber 0 0 9 5 9;"
                + "known 0 10;known 1 10;known 2 10;").count(13), 1);
        due("behind the last ring none has", Tape.of("timber 0 0 5 5 9;".repeat(3) + "known 0 10;known 1 10;known 2 10;").pointer(0, 0), 12);
        due("doubtful ones have", Tape.of("timber 0 0 5? 9? 9;".repeat(3) + "known 0 10;known 1 10;known 2 10;").count(13), 1);
    }

    private static void pointersAtTheEnds() {
        says(11, "The i-th POINTER (0 on): its YEAR (what 0), the STEP (1). NoSuchElementException: there is none, another what");
        String full = "timber 0 0 5" + " 9 9 5 5".repeat(5) + " 9 9 5;";
        String text = full.repeat(3) + "timber 0 0 1 2 1;".repeat(3) + "known 0 900;known 1 900;known 2 900;known 3 0;known 4 0;known 5 0;";
        RingDater x = Tape.of(text);
        due("all", x.count(13), 14);
        int[] years = {1, 2, 901, 903, 905, 907, 909, 911, 913, 915, 917, 919, 921, 923};
        for (int i = 0; i < years.length; i++) {
            due("the year of " + i, x.pointer(i, 0), years[i]);
            due("the step of " + i, x.pointer(i, 1), i % 2 == 0 ? 1 : -1);
        }
        for (int i : new int[] {LEAST, -2, -1, 14, 15, GREATEST}) {
            due("the i-th of " + i, () -> x.pointer(i, 0), NO_SUCH);
            due("its step", () -> x.pointer(i, 1), NO_SUCH);
        }
        for (int what : new int[] {LEAST, -2, -1, 2, 3, GREATEST}) {
            due("what " + what, () -> x.pointer(0, what), NO_SUCH);
        }
        RingDater none = Tape.of(T.repeat(3) + "known 0 0;known 1 0;known 2 0;");
        due("there is none", () -> none.pointer(0, 0), NO_SUCH);
    }
}
