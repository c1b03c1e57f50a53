import java.util.TreeSet;

/** The boundary cases of promises 24 to 28, a sentence a time: what is noted, by which bounds it is so, and chance. */
public final class NoteEdgeTest extends Checks {
    private static final String T = "timber 0 0 1 1 1;";
    private static final String LIKE = "timber 0 0 " + LONG + ";";

    /** 1 lies on 0 in its one way, by 900; the score is 58. */
    private static final String ONLY = "lap 3;timber 0 0 5 5 5;timber 0 0 1 2 3;known 0 900;";

    /** Timbers that are dated one after the other by scores of their own, the first one by 97, the last one by less. */
    private static final String CHAIN = "lap 5;margin 0;timber 0 0 10 40 30 35 20 60 70 15;timber 0 0 30 35 20 60 70 15 80 26 50 45;"
            + "timber 0 0 70 15 80 25 50 45 90 12;timber 0 0 35 20 61 70;known 0 100;";

    private NoteEdgeTest() {
    }

    public static void main(String[] args) {
        noteWithinYears();
        noteRefused();
        eightAreNoted();
        fitsByEachScore();
        fitsAtTheEnds();
        fitsFromNowOn();
        fitsAsGrown();
        fitsRefused();
        lookWithout();
        lookAsGrown();
        forgotten();
        chanceWithin();
        chanceWithoutASlide();
        chanceOfAllSeeds();
        chanceAsGreat();
        ends("NoteEdgeTest");
    }

    // ---- promise 24

    private static void noteWithinYears() {
        says(24, "NOTED (year NONE: it can't be DATED): how much is");
        RingDater x = Tape.of(T.repeat(8) + "known 0 5;");
        int[] timbers = {0, 7, 7, 0, 0};
        int[] years = {0, 900, NONE, 5, 5};
        for (int i = 0; i < timbers.length; i++) {
            due("of " + timbers[i] + ", " + years[i], x.note(timbers[i], years[i]), i + 1);
            due("noted", x.count(17), i + 1);
        }
        due("it is no act", x.count(16), 0);
        due("status 2", x.count(21), 0);
        due("nor is it dated by it", x.count(4), 1);
    }

    private static void noteRefused() {
        says(24, "NONE (STATUS 2): there are 8, no such TIMBER, not 0 to 900");
        RingDater x = Tape.of(T + T);
        int refused = 0;
        for (int t : new int[] {LEAST, -2, -1, 2, 7, 8, GREATEST}) {
            due("timber " + t, x.note(t, 5), NONE);
            due("timber " + t + ", none", x.note(t, NONE), NONE);
            refused += 2;
        }
        for (int year : new int[] {LEAST, LEAST + 1, -3, -2, 901, 902, GREATEST}) {
            due("year " + year, x.note(1, year), NONE);
            refused++;
        }
        due("status 2", x.count(21), refused);
        due("status 1", x.count(20), 0);
        due("none is noted", x.count(17), 0);
        due("all fits", x.fits(0), 51);
    }

    private static void eightAreNoted() {
        says(24, "NOTED (at most 8)");
        RingDater x = Tape.of(ONLY);
        for (int k = 1; k <= 8; k++) {
            due("noted", x.note(1, 900), k);
        }
        due("a ninth", x.note(1, NONE), NONE);
        due("a ninth that is noted already", x.note(1, 900), NONE);
        due("eight", x.count(17), 8);
        due("status 2", x.count(21), 2);
        due("the ninth counts for nothing", x.fits(0), 9);
        x.forget();
        for (int k = 1; k <= 8; k++) {
            due("noted anew", x.note(0, k < 8 ? 900 : 5), k);
        }
        due("the eighth counts", x.fits(0), 0);
    }

    // ---- promise 25

    /** The texts score as told, in the one way that the lap leaves. */
    private static void fitsByEachScore() {
        says(25, "BOUNDS (50 to 100) by which all NOTED is so: how many; the least");
        String[] rows = {" 5 5 5", " 1 2 3", " 3 2 1", " 1 3 2", " 2 1 3", " 1 2 3 4", " 1 2 4 3", " 1 3 2 4", " 4 1 2 3", " 1 1 2 3", " 1 2? 3 4",
            " 1 2 3? 4", " 1 3? 2 4", " 2 3 4 1", " 1 2 3 4 5", " 1 2 4 3 5", " 1 2 3 5 4", " 1 3 2 4 5", " 2 1 3 4 5", " 1 5? 2 4 3"};
        TreeSet<Integer> scores = new TreeSet<>();
        for (String a : rows) {
            for (String b : rows) {
                if (a.replace("?", "").length() == b.replace("?", "").length()) {
                    String text = "lap " + a.replace("?", "").length() / 2 + ";timber 0 0" + a + ";timber 0 0" + b + ";known 0 7;";
                    scores.add(Tape.of(text).best(1, NONE, 1));
                    fitsByScore(text);
                }
            }
        }
        due("one scored 50 to 55", as01(scores.subSet(50, 56).isEmpty()), 0);
        due("one scored just below 50", as01(scores.subSet(44, 50).isEmpty()), 0);
        due("one scored 100", as01(scores.contains(100)), 1);
    }

    private static void fitsByScore(String text) {
        RingDater x = Tape.of(text);
        int score = x.best(1, NONE, 1);
        int dated = Math.max(0, score - 49);
        due("all without notes", x.fits(0), 51);
        due("the least of all", x.fits(1), 50);
        x.note(1, 7);
        due("dated by a score of " + score, x.fits(0), dated);
        due("the least", x.fits(1), dated == 0 ? NONE : 50);
        x.note(0, 7);
        due("0 is so, too", x.fits(0), dated);
        x.forget();
        x.note(1, NONE);
        due("not dated by a score of " + score, x.fits(0), 51 - dated);
        due("the least", x.fits(1), dated == 51 ? NONE : 50 + dated);
        x.note(1, 7);
        due("both can't be", x.fits(0), 0);
        due("there is no least", x.fits(1), NONE);
        x.forget();
        x.note(1, 8);
        due("another year", x.fits(0), 0);
        x.forget();
        due("unlike by a score of " + score, x.look(1), dated == 0 || dated == 51 ? 1 : 2);
        due("which", x.look(0), dated == 0 || dated == 51 ? 0 : 1);
    }

    private static void fitsAtTheEnds() {
        says(25, "BOUNDS (50 to 100)");
        // the signs are the same, one rank of ten is unlike by 1: 98, so 99; by 100 alone it isn't dated
        RingDater most = Tape.of("lap 10;timber 0 0 10 40 30 35 20 60 70 15 80 25;timber 0 0 10 40 30 35 20 60 70 15 80 15;known 0 7;");
        due("its score", most.best(1, NONE, 1), 99);
        most.note(1, NONE);
        due("one bound", most.fits(0), 1);
        due("the greatest", most.fits(1), 100);
        due("by it all are alike", most.look(1), 1);
        most.forget();
        due("by all it is unlike", most.look(0) * 10 + most.look(1), 12);
        most.note(1, 7);
        due("all other bounds", most.fits(0), 50);
        due("the least", most.fits(1), 50);
    }

    private static void fitsFromNowOn() {
        says(25, "all being GROWN from now on");
        RingDater x = Tape.of(ONLY);
        x.note(1, 900);
        due("grown by 50 to 58", x.fits(0), 9);
        x.date(1, 3);
        due("it is dated otherwise", x.fits(0), 0);
        x.date(1, 900);
        due("it is dated so", x.fits(0), 51);
        x.date(0, NONE);
        due("without any other", x.fits(0), 51);
        x.date(1, NONE);
        due("none is dated", x.fits(0), 0);
        x.forget();
        x.note(1, NONE);
        due("then it can't be", x.fits(0), 51);
        x.date(0, 0);
        due("from 59 on it can't", x.fits(1), 59);
        x.date(1, 0);
        due("what is dated isn't what can't be", x.fits(0), 0);
        due("bound stays", x.count(1), 70);
        due("asking is no act", x.count(16), 6);
    }

    /** The years of all by each bound, each on an object of its own whose text has that bound. */
    private static int[][] yearsByBounds(String text) {
        int[][] years = new int[51][];
        for (int bound = 50; bound <= 100; bound++) {
            RingDater x = Tape.of("bound " + bound + ";" + text);
            x.grow();
            years[bound - 50] = new int[x.count(0)];
            for (int t = 0; t < x.count(0); t++) {
                years[bound - 50][t] = x.timber(t, 4);
            }
        }
        return years;
    }

    private static void fitsAsGrown() {
        says(25, "FITS: BOUNDS (50 to 100) by which, all being GROWN from now on, all NOTED is so: how many; the least");
        int[][] years = yearsByBounds(CHAIN);
        int more = 0;
        for (int t = 0; t < 4; t++) {
            for (int by = 50; by <= 100; by += 3) {
                RingDater x = Tape.of(CHAIN);
                int year = years[by - 50][t];
                x.note(t, year);
                int many = 0;
                int least = NONE;
                for (int bound = 100; bound >= 50; bound--) {
                    if (years[bound - 50][t] == year) {
                        many++;
                        least = bound;
                    }
                }
                due("how many for " + t + " in " + year, x.fits(0), many);
                due("the least for " + t + " in " + year, x.fits(1), least);
                more += as01(many < 51);
            }
        }
        due("some fit by some alone", as01(more > 0), 1);
    }

    private static void fitsRefused() {
        says(25, "NoSuchElementException: another what");
        RingDater x = Tape.of(ONLY);
        for (int what : new int[] {LEAST, -2, -1, 2, 3, GREATEST}) {
            due("fits " + what, () -> x.fits(what), NO_SUCH);
        }
        says(26, "NoSuchElementException: another what");
        for (int what : new int[] {LEAST, -2, -1, 2, 3, GREATEST}) {
            due("look " + what, () -> x.look(what), NO_SUCH);
        }
    }

    // ---- promise 26

    private static void lookWithout() {
        says(26, "which (what 0; NONE), how many unlike (1; 0: none): none without any");
        RingDater x = Tape.of(ONLY);
        due("by all bounds", x.look(0), 1);
        due("by all bounds, two", x.look(1), 2);
        x.note(0, 901 - 1);
        due("what is so by all changes nothing", x.look(1), 2);
        x.note(0, NONE);
        due("no bound fits", x.look(0), NONE);
        due("no bound fits, none", x.look(1), 0);
        x.forget();
        x.note(1, NONE);
        due("by 59 to 100 all are alike: the first", x.look(0), 0);
        due("one", x.look(1), 1);
        RingDater none = Tape.of("lap 3;");
        due("no timbers", none.look(0), NONE);
        due("no timbers, none", none.look(1), 0);
        RingDater like = Tape.of("lap 3;" + T + "timber 0 0 1 2 3;".repeat(3) + "known 0 5;");
        due("of like ones the first", like.look(0), 1);
        RingDater last = Tape.of("lap 3;" + T.repeat(7) + "timber 0 0 1 2 3;known 0 5;known 1 5;known 2 5;known 3 5;known 4 5;known 5 5;known 6 5;");
        due("the last timber", last.look(0), 7);
    }

    private static void lookAsGrown() {
        says(26, "LOOK NEXT: the TIMBER whose YEAR (or none) is by these most unlike (of like ones the first)");
        for (String text : new String[] {CHAIN, CHAIN.replace("known 0", "known 2"), CHAIN.replace("known 0", "known 3"), ONLY}) {
            int[][] years = yearsByBounds(text);
            for (int noted = -1; noted <= 1; noted++) {
                RingDater x = Tape.of(text);
                int year = noted < 0 ? 0 : years[50][noted];
                if (noted >= 0) {
                    x.note(noted, year);
                }
                int which = NONE;
                int most = 0;
                for (int t = 0; t < x.count(0); t++) {
                    TreeSet<Integer> unlike = new TreeSet<>();
                    for (int[] by : years) {
                        if (noted < 0 || by[noted] == year) {
                            unlike.add(by[t]);
                        }
                    }
                    if (unlike.size() > most) {
                        which = t;
                        most = unlike.size();
                    }
                }
                due("which of " + text, x.look(0), which);
                due("how many unlike of " + text, x.look(1), most);
            }
        }
    }

    // ---- promise 27

    private static void forgotten() {
        says(27, "All that is NOTED is forgotten");
        RingDater none = new RingDater();
        none.forget();
        due("none of none", none.count(17), 0);
        RingDater x = Tape.of(ONLY);
        x.note(0, NONE);
        x.note(9, 9);
        x.doubt(0, 0);
        x.forget();
        x.forget();
        due("none is noted", x.count(17), 0);
        due("all fits", x.fits(0), 51);
        due("status 2 stays", x.count(21), 1);
        due("acts stay", x.count(16), 1);
        due("the next is the first", x.note(1, 5), 1);
        due("nothing else is noted", x.fits(0), 0);
        x.forget();
        x.note(1, NONE);
        due("only this one", x.fits(0), 51 - Math.max(0, x.best(1, NONE, 1) - 49));
    }

    // ---- promise 28

    private static void chanceWithin() {
        says(28, "n times (0 to 40). NoSuchElementException: also another what. IllegalArgumentException (behind that): n");
        RingDater x = Tape.of(TWO);
        for (int what = 0; what <= 2; what++) {
            int w = what;
            for (int n : new int[] {LEAST, -2, -1, 41, 42, GREATEST}) {
                due("n " + n, () -> x.chance(1, 5, n, w), ILLEGAL);
            }
            due("no times", () -> x.chance(1, 5, 0, w), 0);
        }
        for (int t : new int[] {LEAST, -2, -1, 2, 8, GREATEST}) {
            due("timber " + t, () -> x.chance(t, 5, 1, 0), NO_SUCH);
            due("timber " + t + ", n, too", () -> x.chance(t, 5, 41, 0), NO_SUCH);
        }
        for (int what : new int[] {LEAST, -1, 3, 4, GREATEST}) {
            due("what " + what, () -> x.chance(1, 5, 1, what), NO_SUCH);
            due("what " + what + ", n, too", () -> x.chance(1, 5, -1, what), NO_SUCH);
        }
        int together = 0;
        int greatest = 0;
        for (int n = 1; n <= 40; n++) {
            int all = x.chance(1, 5, n, 2);
            greatest = Math.max(greatest, all - together);
            due("the greatest of " + n, x.chance(1, 5, n, 1), greatest);
            together = all;
        }
        due("40 times score more than 39", as01(together > x.chance(1, 5, 39, 2)), 1);
    }

    private static void chanceWithoutASlide() {
        says(28, "(0 each without a SLIDE, also the TIMBER's own)");
        RingDater[] without = {Tape.of("timber 0 0 5 6 7;"), Tape.of(LIKE), Tape.of("lap 4;timber 0 0 5 6 7;" + LIKE + "known 1 0;")};
        for (RingDater x : without) {
            for (int n : new int[] {0, 1, 39, 40}) {
                due("how often of " + n, x.chance(0, 77, n, 0), n);
                due("the greatest", x.chance(0, 77, n, 1), 0);
                due("all together", x.chance(0, 77, n, 2), 0);
            }
        }
        RingDater by = Tape.of("lap 3;timber 0 0 5 6 7;" + LIKE + "known 1 0;");
        due("with one", as01(by.chance(0, 77, 40, 2) > 0), 1);
    }

    /** Each row that is drawn is told as a timber, on an object of its own; its best place is asked there. */
    private static int[] scoresDrawn(String text, int rings, int seed, int n) {
        int[] drawn = draws(seed, rings * n);
        int[] scores = new int[n];
        for (int k = 0; k < n; k++) {
            StringBuilder row = new StringBuilder("timber 0 0");
            for (int r = 0; r < rings; r++) {
                row.append(' ').append(drawn[k * rings + r]);
            }
            RingDater x = Tape.of(text + row + ";");
            scores[k] = Math.max(0, x.best(x.count(0) - 1, NONE, 1));
        }
        return scores;
    }

    private static void chanceOf(String text, int timber, int seed, int n) {
        RingDater x = Tape.of(text);
        // on all others: a like one that isn't dated has those and the timber itself, if that is dated
        RingDater own = Tape.of(text + Tape.told(x, timber));
        int least = Math.max(0, own.best(own.count(0) - 1, NONE, 1));
        int often = 0;
        int greatest = 0;
        int together = 0;
        for (int score : scoresDrawn(text, x.timber(timber, 0), seed, n)) {
            often += as01(score >= least);
            greatest = Math.max(greatest, score);
            together += score;
        }
        String call = "of " + timber + " by seed " + seed + ", " + n + " times, " + text;
        due("how often " + call, x.chance(timber, seed, n, 0), often);
        due("the greatest " + call, x.chance(timber, seed, n, 1), greatest);
        due("all together " + call, x.chance(timber, seed, n, 2), together);
    }

    private static void chanceOfAllSeeds() {
        says(28, "A seed becomes itself times 1103515245 and 12345 (an int that wraps); a DRAW of n is its bits 16 to 30 MOD n then");
        String text = "lap 3;timber 0 0 5 9? 6 1 7;timber 0 0 5 9? 6;timber 0 0 9? 6 5 7;known 0 5;known 1 6;";
        for (int seed : new int[] {LEAST, LEAST + 1, -65536, -12345, -2, -1, 0, 1, 2, 12345, 32768, 65535, 65536, 1103515245, GREATEST - 1, GREATEST}) {
            for (int timber = 0; timber < 3; timber++) {
                chanceOf(text, timber, seed, 3);
            }
        }
        chanceOf(text, 2, GREATEST, 40);
        chanceOf(text, 1, LEAST, 40);
        String full = "lap 20;timber 0 0" + " 5 9 1".repeat(8) + ";timber 0 0" + " 9 1 5".repeat(8) + ";known 0 900;";
        chanceOf(full, 0, 7, 40);
        chanceOf(full, 1, -7, 40);
        // of seed 1 the bits are 16838, 5758, 10113
        RingDater drawn = Tape.of("lap 3;timber 0 0 5 9 6 1 7;timber 0 0 9 17 16;known 0 5;");
        due("the row that is drawn by seed 1", drawn.chance(1, 1, 1, 2), drawn.best(1, NONE, 1));
    }

    private static void chanceAsGreat() {
        says(28, "how often its SCORE is as great as the TIMBER's own BEST on that, or greater");
        int[] drawn = draws(99, 3);
        String row = "timber 0 0 " + drawn[0] + " " + drawn[1] + " " + drawn[2] + ";";
        String text = "lap 3;timber 0 0 5 9 6 1 7;known 0 5;";
        RingDater same = Tape.of(text + row);
        due("as great", same.chance(1, 99, 1, 0), 1);
        due("it is its own", same.chance(1, 99, 1, 1), same.best(1, NONE, 1));
        // whatever is drawn scores more than this row, or as much
        RingDater poor = Tape.of(text + "timber 0 0 5? 6? 9?;");
        RingDater rich = Tape.of(text + "timber 0 0 5 9 6;");
        int own = rich.best(1, NONE, 1);
        due("the signs are the same, two ranks aren't", own, 94);
        int often = 0;
        for (int score : scoresDrawn(text, 3, 4, 40)) {
            often += as01(score >= poor.best(1, NONE, 1));
        }
        due("as great as one of doubt", poor.chance(1, 4, 40, 0), often);
        due("less often as great as that", as01(rich.chance(1, 4, 40, 0) < often), 1);
        RingDater dated = Tape.of(text + "timber 0 0 5 9 6;known 1 400;");
        due("with that timber, as it is dated: on itself it scores 100", as01(dated.chance(1, 4, 40, 0) <= rich.chance(1, 4, 40, 0)), 1);
        chanceOf(text + "timber 0 0 7 1 2;known 1 400;", 1, 4, 40);
        chanceOf(text + "timber 0 0 7 1 2;", 1, 4, 40);
    }
}
