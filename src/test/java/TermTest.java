/** The terms of the document, from the first to the last: what a word in capitals means, worked out by hand. */
public final class TermTest extends Checks {
    private static final String T = "timber 0 0 1 1 1;";

    /** Where a number stands in a text: what is ahead of it, a number that can stand there, what is behind it. */
    private static final String[][] NUMBERS = {
        {"bound ", "60", ";"},
        {"lap ", "7", ";"},
        {"margin ", "7", ";"},
        {"timber ", "7", " 30 1 1 1;"},
        {"timber 0 ", "7", " 1 1 1;"},
        {"timber 0 0 ", "7", " 1 1;"},
        {"timber 0 0 1 ", "7", " 1;"},
        {"timber 0 0 1 1 ", "7", ";"},
        {"timber 0 0 1 1 1 ", "7", ";"},
        {T + "known ", "0", " 5;"},
        {T + "known 0 ", "5", ";"},
        {T + "house ", "0", " 2;"},
        {T + "house 0 ", "2", ";"},
    };

    /** Seven places, of which that in the middle has no number. */
    private static final String GAP = "timber 0 0 1 2 4;timber 0 0 4 2 1;known 0 100;known 1 104;";

    private TermTest() {
    }

    public static void main(String[] args) {
        calls();
        dated();
        digits();
        numbersAlone();
        signsWithoutBlanks();
        doubtfulRings();
        clausesInAnyOrder();
        steps();
        chronologyOfPlaces();
        besideAGap();
        slidBeside();
        why();
        pieces();
        places();
        settled();
        helps();
        felled();
        built();
        builtOfAHouse();
        pointersRise();
        fit();
        noted();
        chanceByDraws();
        toldIsATimber();
        statusOfThree();
        ends("TermTest");
    }

    /** Five feeds, a yard, 505 acts: the next is the 512th call. */
    private static void calls() {
        says(1, "An object is used for at most 512 calls after it has been made");
        RingDater x = Tape.of(TWO);
        for (int k = 0; k < 505; k++) {
            x.date(0, k % 2 == 0 ? 7 : 100);
        }
        due("the 512th", x.settle(1), 7);
    }

    // ---- a timber and its text

    private static void dated() {
        says(6, "A TIMBER is DATED (its YEAR, 0 to 900, is that of RING 0; each RING behind is one YEAR on) or not");
        RingDater x = Tape.of("timber 0 0 4 6 8 6;" + T + "known 0 17;");
        int[] due = {NONE, 666, 1000, 1333, 1000, NONE};
        for (int i = 0; i < due.length; i++) {
            due("index of " + (16 + i), x.index(16 + i), due[i]);
            due("depth of " + (16 + i), x.depth(16 + i), as01(due[i] != NONE));
        }
        due("it is", x.timber(0, 3), 1);
        due("its year", x.timber(0, 4), 17);
        due("the other one isn't", x.timber(1, 3), 0);
        due("nor has a year", x.timber(1, 4), NONE);
    }

    private static void digits() {
        says(3, "NUMBERS (1 to 3 digits); 2 one that can, but is too much: a NUMBER of 4 digits or more");
        for (String[] n : NUMBERS) {
            String number = n[1];
            while (number.length() <= 3) {
                dueFault(n[0] + number + n[2], 0, NONE);
                number = "0" + number;
            }
            dueFault(n[0] + number + n[2], 2, n[0].length());
            dueFault(n[0] + "0".repeat(20) + number + n[2], 2, n[0].length());
            dueFault(n[0] + "4294967296" + n[1] + n[2], 2, n[0].length());
            dueFault(n[0] + "1000", 2, n[0].length());
        }
    }

    private static void numbersAlone() {
        says(3, "All others in capitals are NUMBERS");
        for (String[] n : NUMBERS) {
            for (String other : new String[] {"x", "timber", "known", "-7", "#", "+", ".", ",", "\t"}) {
                dueFault(n[0] + other + n[2], 1, n[0].length());
            }
            boolean behindAWidth = n[0].startsWith("timber 0 0 1") && n[0].endsWith("1 ");
            boolean mayEnd = n[0].equals("timber 0 0 1 1 1 ");
            dueFault(n[0] + "??", 1, n[0].length() + as01(behindAWidth));
            dueFault(n[0] + ";", mayEnd ? 0 : 1, mayEnd ? NONE : n[0].length());
        }
    }

    private static void signsWithoutBlanks() {
        says(3, "words (a .. z, the longest row), NUMBERS (1 to 3 digits), signs ; ? and blanks (32, 10) between them");
        RingDater x = Tape.of("timber0 1 5?6?7?8;lap3;bound60;known0 9;house0 3;margin0;");
        due("told", Tape.told(x, 0), "timber 0 1 5? 6? 7? 8;");
        due("its year", x.timber(0, 4), 9);
        due("its house", x.timber(0, 11), 3);
        due("its bound", x.count(1), 60);
        due("its lap", x.count(2), 3);
        due("its margin", x.count(3), 0);
        dueFault("lap3;lap", 4, 5);
        dueFault("timber 01 5?6?7?8;", 1, 11);
        dueFault("timber 0 1 5 6 7known0 9;", 1, 16);
        dueFault("la p 3;", 1, 0);
        dueFault("lap\n3 ;\n\nbound 6 0;", 2, 15);
    }

    private static void doubtfulRings() {
        says(3, "RING: WIDTH ['?'] (? it is DOUBTFUL)");
        for (int bits = 0; bits < 16; bits++) {
            StringBuilder text = new StringBuilder("timber 0 0");
            for (int r = 0; r < 4; r++) {
                text.append(" ").append(7 + r).append((bits >> r & 1) != 0 ? "?" : "");
            }
            RingDater x = Tape.of(text + ";");
            for (int r = 0; r < 4; r++) {
                due("width " + r + " of " + text, x.ring(0, r, 0), 7 + r);
                due("ring " + r + " of " + text, x.ring(0, r, 1), bits >> r & 1);
            }
            due("doubtful rings of " + text, x.timber(0, 5), Integer.bitCount(bits));
        }
        dueFault("timber 0 0 1??", 1, 13);
        dueFault("timber 0 0 1 1 1??", 1, 17);
    }

    /** All orders of six clauses: but where a timber is asked for ahead of it, they are one text. */
    private static void clausesInAnyOrder() {
        says(3, "TEXT: CLAUSE*");
        clausesFrom(0, new int[6], 0);
    }

    private static void clausesFrom(int set, int[] order, int taken) {
        if (set == order.length) {
            clausesBy(order);
            return;
        }
        for (int c = 0; c < order.length; c++) {
            if ((taken >> c & 1) == 0) {
                order[set] = c;
                clausesFrom(set + 1, order, taken | 1 << c);
            }
        }
    }

    private static void clausesBy(int[] order) {
        String[] clauses = {"timber 1 2 5 6? 7;", "known 0 9;", "house 0 3;", "bound 60;", "lap 9;", "margin 8;"};
        StringBuilder text = new StringBuilder();
        int fault = NONE;
        boolean told = false;
        for (int c : order) {
            if (fault == NONE && !told && (c == 1 || c == 2)) {
                fault = text.length() + 6;
            }
            told = told || c == 0;
            text.append(clauses[c]);
        }
        RingDater x = new RingDater();
        due("yard " + text, Tape.yard(x, text.toString()), fault == NONE ? 0 : 3);
        due("fault of " + text, x.fault(), fault);
        if (fault == NONE) {
            int all = x.timber(0, 4) * 100 + x.timber(0, 11) * 10 + x.count(0);
            due("year, house, timbers of " + text, all, 931);
            due("bound, lap, margin of " + text, x.count(1) * 100 + x.count(2) * 10 + x.count(3), 6098);
        }
    }

    // ---- rows and slides

    private static void steps() {
        says(8, "A STEP at a place that has a number there and at the place ahead: 1 if it is greater than that one, -1 if less, else 0");
        int[] widths = {1, 2, 49, 50, 98, 99};
        for (int ahead : widths) {
            for (int here : widths) {
                RingDater x = Tape.of("timber 0 0 7 " + ahead + " " + here + ";");
                due(here + " behind " + ahead, x.ring(0, 2, 2), here > ahead ? 1 : here < ahead ? -1 : 0);
            }
        }
    }

    private static void chronologyOfPlaces() {
        says(9, "The CHRONOLOGY (if any TIMBER is DATED) has places from the first YEAR of one on to the last (its place 0 is that first YEAR)");
        RingDater x = Tape.of("lap 3;margin 0;" + GAP + "timber 0 0 4 2 1;timber 0 0 5 5 5 5 5 5 5;");
        int[] due = {428, 857, 1714, NONE, 1714, 857, 428};
        for (int p = 0; p < due.length; p++) {
            due("index of place " + p, x.index(100 + p), due[p]);
        }
        due("ahead of it", x.index(99), NONE);
        due("behind it", x.index(107), NONE);
        due("the slide along it", x.best(2, NONE, 0), 4);
        due("its year by that", x.settle(2), 104);
        due("not of what isn't dated", x.depth(103), 0);
    }

    /**
     * Seven rings beside the places: six PAIRS. The place behind the gap has no STEP, so all four that both have are
     * the same; the RANKS 0 1 2, 2 1 0 of the places are beside 0 1 4, 2 1 0: 2 by 6, so 92; SCORE 292 by 3.
     */
    private static void besideAGap() {
        says(13, "PAIRS: places that both have a number; a STEP at a place that has a number there and at the place ahead");
        String row = "timber 0 0 10 20 30 25 20 15 12;";
        RingDater x = Tape.of(GAP + row);
        due("slide", x.best(2, NONE, 0), 0);
        due("pairs", x.best(2, NONE, 2), 6);
        due("score", x.best(2, NONE, 1), 97);
        due("no other slide has six", x.best(2, NONE, 3), NONE);
        due("its year", x.settle(2), 100);
        due("its fit", x.timber(2, 10), 97);
        RingDater two = Tape.of("lap 3;" + GAP + "timber 0 0 9 5 1;known 2 102;");
        // two PAIRS: 9 beside a RANK as its own, 1 beside a RANK of 2; no place has a STEP where the other has one
        due("5 is beside the gap", two.timber(2, 10), 75 / 3);
        two.date(2, 103);
        // two PAIRS: each RANK is unlike by 1; 1 alone has a STEP where its place has one, the same
        due("9 is beside the gap then", two.timber(2, 10), (200 + 75) / 3);
    }

    private static void slidBeside() {
        says(12, "A ROW B SLID by s along a ROW A: place j of B lies beside place j + s of A");
        // the steps of A: up, down, none; of B: up, down
        RingDater x = Tape.of("timber 0 0 1 2 1 1;timber 0 0 5 9 5;");
        int[] slides = {-3, -2, -1, 0, 1, 2, 3, 4};
        int[] pairs = {NONE, 1, 2, 3, 3, 2, 1, NONE};
        int[] signs = {NONE, 0, 0, 100, 25, 50, 0, NONE};
        for (int i = 0; i < slides.length; i++) {
            due("pairs by " + slides[i], x.slid(1, 0, slides[i], 1), pairs[i]);
            due("signs by " + slides[i], x.slid(1, 0, slides[i], 2), signs[i]);
            due("pairs the other way round by " + -slides[i], x.slid(0, 1, -slides[i], 1), pairs[i]);
            due("signs the other way round by " + -slides[i], x.slid(0, 1, -slides[i], 2), signs[i]);
        }
    }

    private static void why() {
        says(13, "WHY it isn't: 1 there is no such SLIDE, 2 the SCORE is below BOUND, 3 the other one (0: it is SURE)");
        String rows = "timber 0 0 10 20 15 30 25;timber 0 0 15 30 25;known 0 100;";
        String[] settings = {"lap 4;", "lap 3;bound 100;margin 7;", "lap 3;bound 100;margin 6;"};
        int[] due = {1, 3, 0};
        for (int i = 0; i < settings.length; i++) {
            RingDater x = Tape.of(settings[i] + rows);
            due("on 0 by " + settings[i], x.best(1, 0, 4), due[i]);
            due("on the chronology by " + settings[i], x.best(1, NONE, 4), due[i]);
        }
        RingDater flat = Tape.of("lap 3;bound 59;timber 0 0 5 5 5;timber 0 0 1 2 3;known 0 9;");
        due("58 of 59 on 0", flat.best(1, 0, 4), 2);
        due("58 of 59 on the chronology", flat.best(1, NONE, 4), 2);
    }

    // ---- links

    private static void pieces() {
        says(6, "PIECES: TIMBERS that are joined so (one alone is one, too)");
        String a = "timber 0 0 " + LONG + ";";
        String b = "timber 0 0 " + "7 3 9 1 8 8 2 6 5 5 1 9" + ";";
        RingDater x = Tape.of("bound 90;" + a + b + T + b + a);
        int[] least = {0, 1, 2, 1, 0};
        for (int t = 0; t < least.length; t++) {
            due("the least timber of the piece of " + t, x.timber(t, 6), least[t]);
        }
        due("three pieces", x.count(8), 3);
        due("two links", x.count(7), 2);
        due("of one alone", Tape.of(T).count(8), 1);
        due("of none", Tape.of("").count(8), 0);
    }

    /** One row of rings, of which each timber has ten, three on from the one ahead: the first and the last aren't linked. */
    private static void places() {
        says(6, "the PLACE of a TIMBER: its RING 0 counted from RING 0 of the least TIMBER of its PIECE, by the SLIDES that TIED them");
        String all = " 10 40 30 35 20 60 70 15 80 25 50 45 90 5 33 21";
        String[] rows = new String[3];
        String[] widths = all.trim().split(" ");
        for (int t = 0; t < 3; t++) {
            rows[t] = "timber 0 0";
            for (int r = 0; r < 10; r++) {
                rows[t] += " " + widths[3 * t + r];
            }
            rows[t] += ";";
        }
        int[][] orders = {{0, 1, 2}, {0, 2, 1}, {1, 0, 2}, {1, 2, 0}, {2, 0, 1}, {2, 1, 0}};
        for (int[] order : orders) {
            RingDater x = Tape.of("lap 6;bound 90;margin 3;" + rows[order[0]] + rows[order[1]] + rows[order[2]]);
            due("two links", x.count(7), 2);
            for (int t = 0; t < 3; t++) {
                due("place of " + t, x.timber(t, 7), 3 * (order[t] - order[0]));
                due("least of " + t, x.timber(t, 6), 0);
            }
        }
    }

    // ---- dating

    private static void settled() {
        says(18, "SETTLED (DATED by its SURE BEST on the CHRONOLOGY of others): its YEAR");
        RingDater x = Tape.of("timber 0 0 20 60 70 15 80 25;timber 0 0 " + LONG + ";" + T + "known 1 300;");
        due("ring 0 lies beside ring 4 of 1", x.settle(0), 304);
        due("its year", x.timber(0, 4), 304);
        due("it is dated", x.count(4), 3);
        due("no other one is", x.timber(2, 3), 0);
        due("one act", x.count(16), 1);
        x.date(1, NONE);
        due("on 0 then, the other way round", x.settle(1), 300);
    }

    private static void helps() {
        says(16, "what MENDED it has the greatest SCORE: which (0 none, 100 and the RING, 200 and i), the SCORE");
        String on = "timber 0 0 " + LONG + ";known 0 200;";
        RingDater none = Tape.of(on + "timber 0 0 " + LONG + ";");
        due("none", none.help(1, 0), 0);
        due("its score", none.help(1, 1), 100);
        String[] rings = LONG.split(" ");
        for (int r = 1; r < rings.length; r++) {
            RingDater more = Tape.of(on + "timber 0 0" + with(rings, r, " 99?") + ";");
            due("99 is too much ahead of ring " + r, more.help(1, 0), 100 + r);
            due("the score without", more.help(1, 1), 100);
            due("it is mended", more.mend(1, r, false), 12);
            due("and scores so", more.best(1, NONE, 1), 100);
        }
        RingDater lacks = Tape.of("timber 0 0 30 50 40 1 45 60 20 35 70;known 0 200;timber 0 0 30 50 40 45 60 20 35 70;");
        due("ahead of ring 3", lacks.help(1, 0), 203);
        int score = lacks.help(1, 1);
        due("it is mended", lacks.mend(1, 3, true), 9);
        due("and scores so", lacks.best(1, NONE, 1), score);
    }

    /** The rings, and one more ahead of ring r. */
    private static String with(String[] rings, int r, String more) {
        StringBuilder all = new StringBuilder();
        for (int i = 0; i < rings.length; i++) {
            all.append(i == r ? more : "").append(" ").append(rings[i]);
        }
        return all.toString();
    }

    // ---- felled, built

    private static void felled() {
        says(6, "FELLED of a DATED TIMBER: the YEAR of its last RING and LOST, the least; the most");
        RingDater x = Tape.of("timber 4 9 1 1 1 1 1;" + T + "known 0 700;known 1 700;");
        due("the last ring is of 704: the least", x.timber(0, 8), 708);
        due("the most", x.timber(0, 9), 713);
        due("nothing lost: the least", x.timber(1, 8), 702);
        due("the most", x.timber(1, 9), 702);
    }

    private static void built() {
        says(5, "BUILT: the YEARS in which all DATED TIMBERS may have been FELLED: the first; the last; none");
        // 12 to 22, 15 to 20, 17 to 40; that of 900 isn't dated
        String text = "timber 0 10 1 1 1;timber 3 8 1 1 1;timber 5 28 1 1 1;timber 30 30 1 1 1;known 0 10;known 1 10;known 2 10;";
        RingDater x = Tape.of(text);
        due("the first", x.count(10), 17);
        due("the last", x.count(11), 20);
        x.date(2, 14);
        due("21 to 44: none, the first", x.count(10), NONE);
        due("none, the last", x.count(11), NONE);
        x.date(1, NONE);
        due("without 1, the first", x.count(10), 21);
        due("without 1, the last", x.count(11), 22);
        x.date(3, 900);
        due("the fourth is too late", x.count(10), NONE);
    }

    private static void builtOfAHouse() {
        says(7, "it was BUILT from that EDGE on, at the latest in the least YEAR of any most of its DATED ones that aren't REUSED");
        // of house 2: 12 to 16, 17 to 40, 14 to 33, 15 to 17, and one that isn't dated; of house 1: 32
        RingDater x = Tape.of("timber 0 4 1 1 1;timber 5 28 1 1 1;timber 2 21 1 1 1;timber 3 5 1 1 1;timber 20 20 1 1 1;timber 20 20 1 1 1;"
                + "known 0 10;known 1 10;known 2 10;known 3 10;known 5 10;house 0 2;house 1 2;house 2 2;house 3 2;house 4 2;house 5 1;");
        due("its timbers", x.house(2, 0), 31);
        due("from the edge on", x.house(2, 1), 17);
        due("16 is less than the edge, 17 isn't", x.house(2, 3), 1);
        due("at the latest", x.house(2, 2), 17);
        x.date(3, NONE);
        due("without 3, from", x.house(2, 1), 17);
        due("without 3, at the latest", x.house(2, 2), 33);
        x.date(1, NONE);
        due("without 1, from", x.house(2, 1), 14);
        due("without 1, at the latest", x.house(2, 2), 16);
        due("without 1, reused", x.house(2, 3), 0);
        due("the other house", x.house(1, 1) * 100 + x.house(1, 2), 3232);
    }

    private static void pointersRise() {
        says(11, "POINTERS: YEARS; rising");
        String three = "timber 0 0 5 9 1;".repeat(3);
        RingDater x = Tape.of(three + three.substring(0, 34) + "known 0 50;known 1 50;known 2 50;known 3 52;known 4 52;");
        x.date(0, 52);
        // years 53 and 54 of three; 51 and 52 of two
        due("two", x.count(13), 2);
        due("the first", x.pointer(0, 0), 53);
        due("the second", x.pointer(1, 0), 54);
        RingDater y = Tape.of(three + three + "known 0 800;known 1 800;known 2 800;known 3 3;known 4 3;known 5 3;");
        int[] years = {4, 5, 801, 802};
        for (int i = 0; i < years.length; i++) {
            due("year of " + i, y.pointer(i, 0), years[i]);
            due("step of " + i, y.pointer(i, 1), i % 2 == 0 ? 1 : -1);
        }
    }

    private static void fit() {
        says(6, "FIT of a DATED TIMBER: SCORE at its YEAR on the CHRONOLOGY of all others");
        RingDater x = Tape.of(TWO);
        for (int year = 97; year <= 106; year++) {
            x.date(1, year);
            int slid = x.slid(1, 0, year - 100, 0);
            due("fit of 1 at " + year, x.timber(1, 10), slid == NONE ? 0 : slid);
            due("fit of 0 then", x.timber(0, 10), slid == NONE ? 0 : x.slid(0, 1, 100 - year, 0));
        }
    }

    // ---- what is noted, chance

    private static void noted() {
        says(25, "NOTED: that a TIMBER's YEAR is so (0 to 900), or that it can't be DATED");
        // 1 scores 58: it is dated by 50 to 58, and to 900
        String text = "lap 3;timber 0 0 5 5 5;timber 0 0 1 2 3;known 0 900;";
        int[] timbers = {0, 0, 0, 1, 1, 1, 1};
        int[] years = {900, 899, NONE, 900, 899, 0, NONE};
        int[] many = {51, 0, 0, 9, 0, 0, 42};
        int[] least = {50, NONE, NONE, 50, NONE, NONE, 59};
        for (int i = 0; i < timbers.length; i++) {
            RingDater x = Tape.of(text);
            due("noted", x.note(timbers[i], years[i]), 1);
            due("how many by " + timbers[i] + " of " + years[i], x.fits(0), many[i]);
            due("the least by " + timbers[i] + " of " + years[i], x.fits(1), least[i]);
        }
    }

    /** The rows that chance draws, told as timbers 2 to 7; 1 is like 0 and isn't dated, so has 0's own BEST. */
    private static void chanceByDraws() {
        says(28, "n times a ROW of as many RINGS as a TIMBER has, each a DRAW of 99 and 1 (none DOUBTFUL), and BEST on the CHRONOLOGY (with that TIMBER, if it is DATED)");
        for (int seed = -3; seed <= 3; seed++) {
            for (int rings = 3; rings <= 9; rings++) {
                String own = "timber 0 0 5? 9 7" + " 2 8 6 1 3 4".substring(0, 2 * rings - 6) + ";";
                StringBuilder text = new StringBuilder("lap 3;").append(own).append(own);
                int[] drawn = draws(seed, 6 * rings);
                for (int i = 0; i < drawn.length; i++) {
                    text.append(i % rings == 0 ? "timber 0 0 " : " ").append(drawn[i]).append(i % rings == rings - 1 ? ";" : "");
                }
                RingDater x = Tape.of(text + "known 0 40;");
                chanceOfSix(x, 0, seed);
                x.date(2, 42);
                x.date(0, NONE);
                chanceOfSix(x, 0, seed);
            }
        }
    }

    private static void chanceOfSix(RingDater x, int timber, int seed) {
        int own = Math.max(0, x.best(1, NONE, 1));
        int[] due = new int[3];
        for (int t = 2; t < 8; t++) {
            int score = scoreOnAll(x, t);
            due[0] += as01(score >= own);
            due[1] = Math.max(due[1], score);
            due[2] += score;
        }
        says(28, "how often (what 0), the greatest (1), all together (2)");
        for (int what = 0; what < 3; what++) {
            due("what " + what + " of " + x.timber(timber, 0) + " rings by seed " + seed, x.chance(timber, seed, 6, what), due[what]);
        }
    }

    /** The SCORE of a timber's BEST on the CHRONOLOGY, with itself: by a like one that isn't dated, drawn anew. */
    private static int scoreOnAll(RingDater x, int t) {
        if (x.timber(t, 3) == 0) {
            return Math.max(0, x.best(t, NONE, 1));
        }
        int year = x.timber(t, 4);
        RingDater y = Tape.of("lap 3;" + Tape.told(x, t) + Tape.told(x, t) + "known 0 " + year + ";");
        return Math.max(0, y.best(1, NONE, 1));
    }

    // ---- told, status

    private static void toldIsATimber() {
        says(29, "TOLD is a TIMBER as a text");
        RingDater x = Tape.of("timber 0 30 1? 99 10? 9;timber 30 30" + " 99?".repeat(24) + ";timber 1 2 3 4 5;house 0 3;known 1 5;");
        x.mend(2, 1, true);
        x.doubt(0, 1);
        RingDater again = Tape.of(Tape.told(x, 0) + Tape.told(x, 1) + Tape.told(x, 2));
        for (int t = 0; t < 3; t++) {
            due("rings of " + t, again.timber(t, 0), x.timber(t, 0));
            due("least of " + t, again.timber(t, 1), x.timber(t, 1));
            due("most of " + t, again.timber(t, 2), x.timber(t, 2));
            for (int r = 0; r < x.timber(t, 0); r++) {
                due("width", again.ring(t, r, 0), x.ring(t, r, 0));
                due("doubtful", again.ring(t, r, 1), x.ring(t, r, 1));
            }
            due("no house is told", again.timber(t, 11), 0);
        }
        due("no year is told", again.count(4), 0);
    }

    private static void statusOfThree() {
        says(5, "STATUS: how many calls were refused: 0 TEXTS with a FAULT, 1 ACTS, 2 what is NOTED");
        RingDater x = Tape.of(TWO);
        for (int k = 0; k < 5; k++) {
            Tape.yard(x, "x");
        }
        for (int k = 0; k < 3; k++) {
            x.date(9, 9);
        }
        x.note(9, 9);
        int[] due = {5, 3, 1};
        for (int s = 0; s < 3; s++) {
            due("status " + s, x.count(19 + s), due[s]);
        }
    }
}
