/** The boundary cases of promises 1 to 4, a sentence a time: a new object, the tape, the text and its faults. */
public final class TextEdgeTest extends Checks {
    private static final String T = "timber 0 0 1 1 1;";

    private TextEdgeTest() {
    }

    public static void main(String[] args) {
        noTimbers();
        tapeIsFull();
        highestByteFirst();
        bytesOutOfSort();
        yardBelowAndBeyond();
        yardOfNothing();
        yardOfAllBytes();
        onlyTheFirstBytes();
        tapeIsEmptyThen();
        allAnew();
        draftIsForgotten();
        settingsWithin();
        timberNumbersWithin();
        knownAndHouseWithin();
        ringsWithin();
        ninthTimber();
        blanksOnly();
        longestRow();
        tokensThatCannotStand();
        endsTooSoon();
        cutTexts();
        toldAhead();
        toldAlready();
        mostBelowLeast();
        firstAlongTheText();
        leastOfOneToken();
        faultIsOfTheLatest();
        faultAtTheEdges();
        ends("TextEdgeTest");
    }

    // ---- promise 1

    private static void noTimbers() {
        says(1, "No TIMBERS");
        RingDater x = new RingDater();
        for (int t : new int[] {LEAST, NONE, 0, 1, 7, 8, GREATEST}) {
            due("timber " + t, () -> x.timber(t, 0), NO_SUCH);
            due("ring of " + t, () -> x.ring(t, 0, 0), NO_SUCH);
            due("told of " + t, () -> x.told(t, NONE), NO_SUCH);
            due("best of " + t, () -> x.best(t, NONE, 0), NO_SUCH);
            due("help for " + t, () -> x.help(t, 0), NO_SUCH);
            due("chance of " + t, () -> x.chance(t, 0, 0, 0), NO_SUCH);
        }
        for (int house = 0; house <= 3; house++) {
            int h = house;
            due("timbers of house " + h, x.house(h, 0), 0);
            due("its first year", x.house(h, 1), NONE);
            due("its last year", x.house(h, 2), NONE);
            due("its reused ones", x.house(h, 3), 0);
        }
        due("pointer", () -> x.pointer(0, 0), NO_SUCH);
        due("link", () -> x.link(0, 0), NO_SUCH);
        due("grown", () -> x.grown(0, 0), NO_SUCH);
        due("fault", x.fault(), NONE);
        due("undo", x.undo(), NONE);
        due("restore", as01(x.restore()), 0);
        due("bounds that fit", x.fits(0), 51);
        due("the least of them", x.fits(1), 50);
        due("look", x.look(0), NONE);
        due("unlike", x.look(1), 0);
        due("status 1", x.count(20), 0);
        due("status 2", x.count(21), 0);
    }

    // ---- promise 2

    private static void tapeIsFull() {
        says(2, "NONE, and none come, if it would have more than 900");
        String text = fullText();
        RingDater x = new RingDater();
        int[] n = Tape.numbers(text);
        for (int i = 0; i < n.length; i += 5) {
            due("how many", x.feed(n[i], n[i + 1], n[i + 2], n[i + 3], n[i + 4]), 4 * i + 20);
        }
        due("900 are allowed", x.count(18), 900);
        for (int again = 0; again < 2; again++) {
            due("920 aren't", x.feed(-1, -1, -1, -1, -1), NONE);
            due("none come", x.count(18), 900);
        }
        due("status 0", x.count(19), 0);
        due("there is no 901st", () -> x.yard(901), ILLEGAL);
        due("those that were there are the same", () -> x.yard(900), 0);
        due("of the last timber the last ring", x.ring(7, 23, 0), 54);
        due("the tape takes again", x.feed(0, 0, 0, 0, 0), 20);
    }

    /** 900 bytes: 8 timbers of 24 rings, all doubtful; each width has two digits. */
    private static String fullText() {
        StringBuilder text = new StringBuilder();
        for (int t = 0; t < 8; t++) {
            text.append("timber 9 9");
            for (int r = 0; r < 24; r++) {
                text.append(' ').append(10 + (3 * r + 5 * t) % 60).append('?');
            }
            text.append(';');
        }
        text.append("lap 24;bound 100;margin 50;known 7 900;\n");
        while (text.length() < 900) {
            text.append(' ');
        }
        return text.toString();
    }

    private static void highestByteFirst() {
        says(2, "Twenty bytes come behind the tape, of each number the highest first");
        String text = "timber 1 2 34 56 78;timber 3 4 5 67 8 9;";
        RingDater x = new RingDater();
        Tape.feed(x, text);
        due("both are on it", x.count(18), 40);
        due("they are the text", () -> x.yard(40), 0);
        due("the first", Tape.told(x, 0), text.substring(0, 20));
        due("the second", Tape.told(x, 1), text.substring(20));
    }

    private static void bytesOutOfSort() {
        says(2, "Twenty bytes come behind the tape, of each number the highest first");
        for (int value : new int[] {128, 255, 0, 127}) {
            for (int at = 0; at < 20; at++) {
                int[] n = Tape.numbers("                    ");
                int shift = 24 - 8 * (at % 4);
                n[at / 4] = n[at / 4] & ~(255 << shift) | value << shift;
                RingDater x = new RingDater();
                x.feed(n[0], n[1], n[2], n[3], n[4]);
                due("a byte " + value + " among blanks", () -> x.yard(20), 1);
                due("it stands there", x.fault(), at);
            }
        }
        for (int n : new int[] {LEAST, GREATEST, -1, 0}) {
            RingDater x = new RingDater();
            due("feed " + n, x.feed(n, n, n, n, n), 20);
            due("no text", () -> x.yard(20), 1);
            due("its first byte", x.fault(), 0);
        }
    }

    // ---- promise 3: how many bytes

    private static void yardBelowAndBeyond() {
        says(3, "IllegalArgumentException: the tape has not so many, n below 0 (nothing changes)");
        RingDater x = Tape.of(TWO);
        Tape.yard(x, "lap 3;x");
        x.settle(1);
        x.note(1, 100);
        Tape.feed(x, T);
        for (int n : new int[] {LEAST, -900, -20, -1, 21, 40, 900, 901, GREATEST}) {
            due("yard of " + n, () -> x.yard(n), ILLEGAL);
            due("the tape", x.count(18), 20);
            due("status 0", x.count(19), 1);
            due("timbers", x.count(0), 2);
            due("acts", x.count(16), 1);
            due("noted", x.count(17), 1);
            due("fault", x.fault(), 6);
        }
        due("as many as it has", () -> x.yard(20), 0);
        due("timbers then", x.count(0), 1);
        due("one more than none", () -> x.yard(1), ILLEGAL);
    }

    private static void yardOfNothing() {
        says(3, "The tape's first n bytes (it is empty then) are a TEXT: CLAUSE*");
        RingDater x = Tape.of(TWO);
        due("no bytes of an empty tape", () -> x.yard(0), 0);
        due("no timbers", x.count(0), 0);
        RingDater y = Tape.of(TWO);
        Tape.feed(y, "lap 99;");
        due("no bytes of a tape that has some", () -> y.yard(0), 0);
        due("no timbers", y.count(0), 0);
        due("it is empty then", y.count(18), 0);
        due("fault", y.fault(), NONE);
    }

    private static void yardOfAllBytes() {
        says(3, "A TEXT of at most 900 bytes tells it");
        String text = fullText();
        due("its length", text.length(), 900);
        RingDater x = Tape.of(text);
        due("timbers", x.count(0), 8);
        due("bound", x.count(1), 100);
        due("lap", x.count(2), 24);
        due("margin", x.count(3), 50);
        due("dated", x.count(4), 128);
        for (int t = 0; t < 8; t++) {
            due("rings", x.timber(t, 0), 24);
            due("doubtful ones", x.timber(t, 5), 24);
            for (int r = 0; r < 24; r++) {
                due("width of " + t + ", " + r, x.ring(t, r, 0), 10 + (3 * r + 5 * t) % 60);
            }
        }
        due("the last year of all", x.count(6), 923);
    }

    private static void onlyTheFirstBytes() {
        says(3, "The tape's first n bytes are a TEXT");
        RingDater x = new RingDater();
        Tape.feed(x, "lap 3;bound 60;x");
        due("the first clause", () -> x.yard(6), 0);
        due("lap", x.count(2), 3);
        due("bound", x.count(1), 70);
        Tape.feed(x, "lap 3;bound 60;x");
        due("both clauses", () -> x.yard(15), 0);
        due("bound", x.count(1), 60);
        Tape.feed(x, "lap 3;bound 60;x");
        due("what is behind them too", () -> x.yard(16), 1);
        due("its place", x.fault(), 15);
        Tape.feed(x, "lap 12;");
        due("a number that is cut", () -> x.yard(5), 2);
        due("its place", x.fault(), 4);
        Tape.feed(x, "lap 12;");
        due("a word that is cut", () -> x.yard(2), 1);
        due("its place", x.fault(), 0);
    }

    private static void tapeIsEmptyThen() {
        says(3, "(it is empty then)");
        RingDater x = new RingDater();
        Tape.feed(x, "lap 3;                lap 3;");
        due("bytes", x.count(18), 40);
        due("a text", () -> x.yard(6), 0);
        due("none is left", x.count(18), 0);
        due("no byte more", () -> x.yard(1), ILLEGAL);
        Tape.feed(x, "lap 3;                lap 3;");
        due("a fault", () -> x.yard(5), 1);
        due("none is left of it either", x.count(18), 0);
        Tape.feed(x, "lap 4;");
        due("the next text begins anew", () -> x.yard(6), 0);
        due("lap", x.count(2), 4);
    }

    // ---- promise 3: what is new, what stays

    private static void allAnew() {
        says(3, "all anew ('known' ones DATED): 0 (STATUS stays). ACTS, what is NOTED, the image are gone");
        RingDater x = Tape.of("bound 99;lap 24;margin 50;timber 1 2 1? 2? 3? 4?;" + T + "known 0 7;known 1 8;house 0 3;house 1 2;");
        Tape.yard(x, "x");
        x.date(0, 9);
        x.move(9, 9);
        x.note(0, 9);
        x.note(9, 9);
        x.image();
        due("another text", Tape.yard(x, "timber 0 0 5 6 7;timber 3 4 8 9 5;timber 0 0 1 1 1;known 2 0;"), 0);
        long[] counts = {3, 70, 6, 5, 4, 0, 2, 0, 3, 0, 2, 2, 2, 0, 2, 0, 0, 0, 0, 1, 1, 1};
        for (int what = 0; what < counts.length; what++) {
            int w = what;
            due("count " + w, () -> x.count(w), counts[w]);
        }
        due("timber 0", Tape.told(x, 0), "timber 0 0 5 6 7;");
        due("timber 1", Tape.told(x, 1), "timber 3 4 8 9 5;");
        due("doubtful of 0", x.timber(0, 5), 0);
        due("all are of house 0", x.house(0, 0), 7);
        due("timber 0 isn't dated", x.timber(0, 4), NONE);
        due("nothing to undo", x.undo(), NONE);
        due("no image", as01(x.restore()), 0);
        due("bounds that fit", x.fits(0), 51);
    }

    private static void draftIsForgotten() {
        says(3, "or the FAULT (all else stays, but STATUS)");
        RingDater x = Tape.of(TWO);
        String before = Tape.told(x, 0) + Tape.told(x, 1);
        due("a fault at the end", Tape.yard(x, "bound 99;lap 24;margin 50;" + T + T + "known 0 7;known 1 8;house 0 3;house 1 2;x"), 1);
        due("timbers", Tape.told(x, 0) + Tape.told(x, 1), before);
        int[] counts = {2, 50, 3, 0, 1, 100, 104};
        for (int what = 0; what < counts.length; what++) {
            due("count " + what, x.count(what), counts[what]);
        }
        due("house 0", x.house(0, 0), 3);
        due("nor does the next text know it", Tape.yard(x, T + T), 0);
        due("bound", x.count(1), 70);
        due("lap", x.count(2), 6);
        due("margin", x.count(3), 5);
        due("dated", x.count(4), 0);
        due("house 0", x.house(0, 0), 3);
        due("it may be known", Tape.yard(x, "bound 60;lap 6;margin 5;" + T + "known 0 7;house 0 3;"), 0);
        due("status 0", x.count(19), 1);
    }

    // ---- promise 3: numbers

    /** Of a text a number stands between two parts: all that may be, and the ones beyond. */
    private static void within(String ahead, String behind, int low, int high) {
        int at = ahead.length();
        for (int n : new int[] {low - 1, low, high, high + 1, 999}) {
            int fault = n < low || n > high ? 2 : 0;
            if (n >= 0) {
                dueFault(ahead + n + behind, fault, fault == 0 ? NONE : at);
                dueFault(ahead + threeDigits(n) + behind, fault, fault == 0 ? NONE : at);
                dueFault(ahead + "0" + threeDigits(n) + behind, 2, at);
            }
        }
        dueFault(ahead + "1000" + behind, 2, at);
        dueFault(ahead + "4294967346" + behind, 2, at);
        dueFault(ahead + "99999999999999999999" + behind, 2, at);
        dueFault(ahead + "x" + behind, 1, at);
        dueFault(ahead + "-1" + behind, 1, at);
    }

    private static String threeDigits(int n) {
        return n < 10 ? "00" + n : n < 100 ? "0" + n : "" + n;
    }

    private static void settingsWithin() {
        says(3, "BOUND (50 to 100; 70 without)");
        within("bound ", ";", 50, 100);
        due("without", Tape.of(T).count(1), 70);
        due("the least", Tape.of("bound 50;").count(1), 50);
        due("the most", Tape.of("bound 100;").count(1), 100);
        says(3, "LAP (3 to 24; 6 without)");
        within("lap ", ";", 3, 24);
        due("without", Tape.of(T).count(2), 6);
        due("the least", Tape.of("lap 3;").count(2), 3);
        due("the most", Tape.of("lap 024;").count(2), 24);
        says(3, "MARGIN (0 to 50; 5 without)");
        within("margin ", ";", 0, 50);
        due("without", Tape.of(T).count(3), 5);
        due("the least", Tape.of("margin 0;").count(3), 0);
        due("the most", Tape.of("margin 50;").count(3), 50);
    }

    private static void timberNumbersWithin() {
        says(3, "LOST, the least and the most RINGS that are missing outside (0 to 30, the most no less)");
        within("timber ", " 30 1 1 1;", 0, 30);
        within("timber 0 ", " 1 1 1;", 0, 30);
        RingDater x = Tape.of("timber 0 30 1 1 1;timber 30 30 1 1 1;");
        due("the least", x.timber(0, 1), 0);
        due("the most", x.timber(0, 2), 30);
        due("the least of 1", x.timber(1, 1), 30);
        due("the most of 1", x.timber(1, 2), 30);
        says(3, "of each a WIDTH (1 to 99)");
        within("timber 0 0 ", " 1 1;", 1, 99);
        within("timber 0 0 1 ", " 1;", 1, 99);
        within("timber 0 0 1 1 ", ";", 1, 99);
        within("timber 0 0 1 1 1 ", "?;", 1, 99);
        RingDater y = Tape.of("timber 0 0 1 99 001 099?;");
        due("as it was told", Tape.told(y, 0), "timber 0 0 1 99 1 99?;");
    }

    private static void knownAndHouseWithin() {
        says(3, "its YEAR, 0 to 900");
        within(T + "known 0 ", ";", 0, 900);
        due("the least", Tape.of(T + "known 0 0;").timber(0, 4), 0);
        due("the most", Tape.of(T + "known 0 900;").timber(0, 4), 900);
        says(3, "a HOUSE (0 to 3; 0 without)");
        within(T + "house 0 ", ";", 0, 3);
        due("without", Tape.of(T).timber(0, 11), 0);
        due("the least", Tape.of(T + "house 0 0;").timber(0, 11), 0);
        due("the most", Tape.of(T + "house 0 3;").timber(0, 11), 3);
        says(3, "(TIMBER 0 to 7)");
        String eight = T.repeat(8);
        within(eight + "known ", " 5;", 0, 7);
        within(eight + "house ", " 1;", 0, 7);
        due("the first", Tape.of(eight + "known 0 5;house 0 1;").timber(0, 4), 5);
        due("the last", Tape.of(eight + "known 7 5;house 7 1;").timber(7, 4), 5);
        due("its house", Tape.of(eight + "known 7 5;house 7 1;").timber(7, 11), 1);
    }

    // ---- promise 3: rings, timbers

    private static void ringsWithin() {
        says(3, "RINGS 0, 1 .. (3 to 24), the WIDTH of the 25th RING");
        for (int rings = 0; rings <= 26; rings++) {
            for (String ring : new String[] {" 5", " 5?", " 5 ?\n"}) {
                String text = "timber 0 0" + ring.repeat(rings) + ";";
                if (rings < 3) {
                    dueFault(text, 1, text.length() - 1);
                } else if (rings <= 24) {
                    due("rings", Tape.of(text).timber(0, 0), rings);
                } else {
                    dueFault(text, 2, 10 + 24 * ring.length() + 1);
                }
            }
        }
        String full = "timber 0 0" + " 5".repeat(24);
        dueFault(full + " 0;", 2, full.length() + 1);
        dueFault(full + " 1234;", 2, full.length() + 1);
        dueFault(full + "??;", 1, full.length() + 1);
        dueFault(full + "? 5;", 2, full.length() + 2);
        dueFault(full + " timber;", 1, full.length() + 1);
        dueFault(full, 1, full.length());
        dueFault("timber 0 0 5?", 1, 13);
        dueFault("timber 0 0 5??5 5;", 1, 13);
    }

    private static void ninthTimber() {
        says(3, "TIMBERS 0, 1 .. (at most 8), the word of the 9th 'timber'");
        for (int timbers = 0; timbers <= 8; timbers++) {
            due("timbers", Tape.of(T.repeat(timbers)).count(0), timbers);
        }
        String eight = T.repeat(8);
        dueFault(eight + T, 2, eight.length());
        dueFault(eight + "timber", 2, eight.length());
        dueFault(eight + " \ntimber?", 2, eight.length() + 2);
        dueFault(eight + "timbers", 1, eight.length());
        dueFault(eight + "lap 3;timber 0 0 1 1 1;", 2, eight.length() + 6);
        dueFault("lap timber", 1, 4);
    }

    // ---- promise 3: tokens

    private static void blanksOnly() {
        says(3, "blanks (32, 10) between them, which count for nothing");
        for (int sign = 0; sign < 256; sign++) {
            boolean blank = sign == 32 || sign == 10;
            boolean letter = sign >= 97 && sign <= 122;
            boolean digit = sign >= 48 && sign <= 57;
            String s = String.valueOf((char) sign);
            dueFault(s + "lap 3;", blank ? 0 : 1, blank ? NONE : 0);
            dueFault("lap 3;" + s, blank ? 0 : 1, blank ? NONE : 6);
            dueFault("lap 3" + s + ";", blank ? 0 : digit ? 2 : 1, blank ? NONE : digit ? 4 : sign == 59 ? 6 : 5);
            boolean fits = blank || digit && sign <= 50;
            dueFault("lap" + s + "3;", fits ? 0 : digit ? 2 : 1, fits ? NONE : letter ? 0 : 3);
            int lap = sign == 49 ? 13 : sign == 50 ? 23 : 3;
            if (fits) {
                due("lap of lap" + s + "3;", Tape.of("lap" + s + "3;").count(2), lap);
            }
        }
        due("many of them", Tape.of(" \n \n timber\n\n0\n 1  5\n?\n6\n7 ; \n").timber(0, 5), 1);
        dueFault("la p 3;", 1, 0);
        dueFault("lap 1 2;", 2, 4);
        dueFault("lap 6 2;", 1, 6);
    }

    private static void longestRow() {
        says(3, "words (a .. z, the longest row)");
        String[] words = {"timber", "bound", "lap", "margin", "known", "house"};
        for (String word : words) {
            dueFault(word, 1, word.length());
            dueFault(word + ";", 1, word.length());
            dueFault(word + "s 60;", 1, 0);
            dueFault("a" + word + " 60;", 1, 0);
            dueFault(word.substring(1) + " 60;", 1, 0);
            dueFault(word.substring(0, word.length() - 1) + " 60;", 1, 0);
            dueFault(word + word, 1, 0);
            for (int i = 0; i < word.length(); i++) {
                char other = word.charAt(i) == 'q' ? 'p' : 'q';
                dueFault(word.substring(0, i) + other + word.substring(i + 1) + " 60;", 1, 0);
            }
            dueFault(word.toUpperCase() + " 60;", 1, 0);
        }
        dueFault("qap 3;", 1, 0);
        dueFault("laq 3;", 1, 0);
        due("digits end a word", Tape.of("timber0 0 1 1 1;known0 5;").timber(0, 4), 5);
        due("letters end a number", Tape.yard(new RingDater(), "timber 0 0 1 1 1;known 0 5x"), 1);
        dueFault("z", 1, 0);
        dueFault("a", 1, 0);
    }

    /** Each token of a text in turn is another one, or is left out: the grammar, once more and plainer, tells what is due. */
    private static void tokensThatCannotStand() {
        says(3, "1 a TOKEN that can't stand there, or is none");
        String[] tokens = ("lap 6 ; timber 0 1 5 6 ? 7 8 ? ; timber 2 3 5 6 7 ; known 1 9 ; margin 7 ; house 0 3 ; bound 60 ; known 0 8 ;")
                .split(" ");
        String[] others = {"timber", "bound", "lap", "margin", "known", "house", "x", "0", "1", "2", "3", "8", "30", "31", "55", "99",
            "100", "900", "901", "0001", "?", ";", "!", "\u00e9", "", ";;", "??", "? ?", "5?", "?5", "; lap 3 ;"};
        for (int i = 0; i < tokens.length; i++) {
            for (String other : others) {
                StringBuilder text = new StringBuilder();
                for (int k = 0; k < tokens.length; k++) {
                    text.append(k == i ? other : tokens[k]).append(' ');
                }
                likeTheGrammar(text.toString());
            }
        }
    }

    private static void likeTheGrammar(String text) {
        PlainModel model = new PlainModel();
        int[] n = Tape.numbers(text);
        for (int i = 0; i < n.length; i += 5) {
            model.feed(n[i], n[i + 1], n[i + 2], n[i + 3], n[i + 4]);
        }
        int fault = model.yard(text.length());
        dueFault(text, fault, model.fault());
    }

    private static void endsTooSoon() {
        says(3, "(the text's length where it ends too soon)");
        String[] clauses = {"timber 0 1 5? 6 7", "bound 60", "lap 6", "margin 7", "known 0 9", "house 0 3"};
        for (String clause : clauses) {
            String ahead = clause.startsWith("timber") ? "" : T;
            String text = ahead;
            for (String token : clause.split(" ")) {
                text += token + " ";
                String whole = text.substring(0, text.length() - 1);
                dueFault(whole, 1, whole.length());
                dueFault(text, 1, text.length());
                dueFault(text + " \n\n ", 1, text.length() + 4);
            }
            dueFault(text + ";", 0, NONE);
        }
    }

    private static void cutTexts() {
        says(3, "(the text's length where it ends too soon)");
        String text = "lap 9;timber 0 1 5? 6 7;known 0 9;house 0 3;";
        for (int n = 0; n <= text.length(); n++) {
            RingDater x = new RingDater();
            Tape.feed(x, text);
            int length = n;
            String cut = text.substring(0, n);
            String last = cut.substring(cut.lastIndexOf(';') + 1).trim();
            boolean whole = last.isEmpty();
            boolean inAWord = last.matches("l|la|t|ti|tim|timb|timbe|k|kn|kno|know|h|ho|hou|hous");
            due("yard of " + cut, () -> x.yard(length), whole ? 0 : 1);
            due("fault of " + cut, x.fault(), whole ? NONE : inAWord ? n - last.length() : n);
        }
    }

    private static void toldAhead() {
        says(3, "3 a TIMBER that isn't told ahead");
        for (int told = 0; told <= 8; told++) {
            String ahead = T.repeat(told);
            for (String word : new String[] {"known ", "house "}) {
                dueFault(ahead + word + told + " 1;", told < 8 ? 3 : 2, ahead.length() + 6);
                if (told > 0) {
                    dueFault(ahead + word + (told - 1) + " 1;", 0, NONE);
                }
                dueFault(ahead + word + 7 + " 1;", told < 8 ? 3 : 0, told < 8 ? ahead.length() + 6 : NONE);
            }
        }
        dueFault(T + "known 1 5;" + T, 3, T.length() + 6);
        dueFault(T + "house 1 3;" + T, 3, T.length() + 6);
    }

    private static void toldAlready() {
        says(3, "4 a second 'bound', 'lap', 'margin'");
        for (String clause : new String[] {"bound 60;", "lap 6;", "margin 6;"}) {
            dueFault(clause + clause, 4, clause.length());
            dueFault(clause + T + "\n" + clause, 4, clause.length() + T.length() + 1);
            dueFault(clause + clause.substring(0, clause.indexOf(' ')), 4, clause.length());
        }
        dueFault("bound 60;lap 6;margin 6;", 0, NONE);
        dueFault("margin 6;lap 6;bound 60;margin 6;", 4, 24);
        says(3, "4 a TIMBER that is 'known' already, or has its 'house' told already");
        String two = T + T;
        for (String word : new String[] {"known ", "house "}) {
            for (int t = 0; t < 2; t++) {
                String clause = word + t + " 1;";
                dueFault(two + clause + clause, 4, two.length() + 16);
                dueFault(two + clause + word + t, 4, two.length() + 16);
                dueFault(two + clause + word + t + " 999;", 4, two.length() + 16);
                dueFault(two + clause + word + (1 - t) + " 1;", 0, NONE);
                dueFault(two + clause + word + (1 - t) + " 1;" + clause, 4, two.length() + 26);
            }
        }
        dueFault(two + "known 0 1;house 0 1;house 1 1;known 1 1;", 0, NONE);
        dueFault(two + "house 0 0;house 0 0;", 4, two.length() + 16);
    }

    private static void mostBelowLeast() {
        says(3, "5 MOST less than LEAST");
        dueFault("timber 0 0 1 1 1;", 0, NONE);
        dueFault("timber 1 0 1 1 1;", 5, 9);
        dueFault("timber 1 1 1 1 1;", 0, NONE);
        dueFault("timber 30 29 1 1 1;", 5, 10);
        dueFault("timber 30 30 1 1 1;", 0, NONE);
        dueFault("timber 30 0", 5, 10);
        dueFault("timber 12 9 x", 5, 10);
        dueFault("timber 9 12 1 1 1;", 0, NONE);
        dueFault("timber 030 004 1 1 1;", 5, 11);
    }

    private static void firstAlongTheText() {
        says(3, "FAULTS, the first along the text, at a TOKEN's first byte");
        dueFault("lap 2;bound 49;x", 2, 4);
        dueFault("x;lap 2;", 1, 0);
        dueFault(T + "known 1 1000;", 3, 23);
        dueFault(T + "known 0 1000;known 0 5;", 2, 25);
        dueFault("timber 31 40 0 0 0;", 2, 7);
        dueFault("timber 9 40 0 0 0;", 2, 9);
        dueFault("timber 9 8 0 0 0;", 5, 9);
        dueFault("timber 8 9 0 0 0;", 2, 11);
        dueFault("timber 8 9 1 1 100;x", 2, 15);
        dueFault("  \n lap   1000 x", 2, 10);
        dueFault("   margins 3;", 1, 3);
    }

    private static void leastOfOneToken() {
        says(3, "of one TOKEN the least");
        dueFault("known 8 5;", 2, 6);
        dueFault("known 0008 5;", 2, 6);
        dueFault(T + "known 0 1;known 0000 5;", 2, 33);
        dueFault("lap 6;lap lap", 4, 6);
        dueFault("lap 6;bound lap", 1, 12);
        dueFault("timber 30 31 1 1 1;", 2, 10);
        dueFault("timber 30 0001 1 1 1;", 2, 10);
        dueFault("house 9 9;", 2, 6);
        dueFault(T.repeat(8) + "lap timber", 1, 8 * T.length() + 4);
    }

    // ---- promise 4

    private static void faultIsOfTheLatest() {
        says(4, "The place of the latest yard()'s FAULT; NONE without");
        RingDater x = new RingDater();
        due("no yard yet", x.fault(), NONE);
        due("a fault", Tape.yard(x, "lap 2;"), 2);
        due("its place", x.fault(), 4);
        due("another fault", Tape.yard(x, "x"), 1);
        due("its place", x.fault(), 0);
        due("refused by an exception", () -> x.yard(1), ILLEGAL);
        due("no later place", x.fault(), 0);
        due("none", Tape.yard(x, "lap 3;"), 0);
        due("none then", x.fault(), NONE);
        due("refused by an exception", () -> x.yard(-1), ILLEGAL);
        due("none still", x.fault(), NONE);
        due("a fault", Tape.yard(x, "lap 3;lap"), 4);
        due("its place", x.fault(), 6);
        x.image();
        due("another fault", Tape.yard(x, "lap 3;x"), 1);
        due("restored", as01(x.restore()), 1);
        due("an image doesn't keep it", x.fault(), 6);
        due("no bytes", () -> x.yard(0), 0);
        due("none of no bytes", x.fault(), NONE);
        due("restored, there is none", as01(x.restore()), 0);
    }

    private static void faultAtTheEdges() {
        says(4, "The place of the latest yard()'s FAULT");
        dueFault("x", 1, 0);
        dueFault(" ".repeat(899) + "x", 1, 899);
        dueFault(" ".repeat(898) + "x ", 1, 898);
        dueFault("lap" + " ".repeat(897), 1, 900);
        dueFault("lap 6" + "\n".repeat(894) + ";", 0, NONE);
        dueFault("lap 2" + "\n".repeat(895), 2, 4);
        dueFault("a".repeat(900), 1, 0);
        dueFault("lap " + "3".repeat(896), 2, 4);
    }
}
