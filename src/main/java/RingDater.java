import java.util.NoSuchElementException;

/** Dates timbers by their rings; ../shared/DOC.md says what each call promises. */
public final class RingDater {
    public static final int NONE = -1;

    private static final int MOST_BYTES = 900;
    private static final int MOST_TIMBERS = 8;
    private static final int LEAST_RINGS = 3;
    private static final int MOST_RINGS = 24;
    private static final int MOST_WIDTH = 99;
    private static final int MOST_LOST = 30;
    private static final int LAST_YEAR = 900;
    private static final int MOST_PLACES = LAST_YEAR + MOST_RINGS;
    private static final int LAST_HOUSE = 3;
    private static final int LEAST_BOUND = 50;
    private static final int MOST_BOUND = 100;
    private static final int MOST_MARGIN = 50;
    private static final int MOST_LINKS = MOST_TIMBERS * (MOST_TIMBERS - 1) / 2;
    private static final int MOST_ACTS = 40;
    private static final int MOST_NOTES = 8;
    private static final int MOST_DRAWN = 40;

    private static final int NOT_DATABLE = -2;
    private static final int WITHOUT_SLIDE = -1000;
    private static final int NO_STEP = 2;
    private static final int YEAR_OUTSIDE = 4;

    private static final int TEXTS = 0;
    private static final int ACTS = 1;
    private static final int NOTED = 2;

    private final Reader reader = new Reader();
    private final Bench bench = new Bench();
    private final Web web = new Web();
    private final Growth growth = new Growth();
    private final Timber trial = new Timber();
    private final StringBuilder signs = new StringBuilder();

    private final Stock stock = new Stock();
    private final Ledger ledger = new Ledger();
    private final Notes notes = new Notes();
    private final int[] status = new int[3];

    private final Stock keptStock = new Stock();
    private final Ledger keptLedger = new Ledger();
    private final Notes keptNotes = new Notes();
    private final int[] keptStatus = new int[3];
    private boolean imageKept;

    public RingDater() {
    }

    // ---- the tape and its text

    public int feed(int a, int b, int c, int d, int e) {
        if (reader.length + 20 > MOST_BYTES) {
            return NONE;
        }
        reader.putFour(a);
        reader.putFour(b);
        reader.putFour(c);
        reader.putFour(d);
        reader.putFour(e);
        return reader.length;
    }

    public int yard(int n) throws IllegalArgumentException {
        if (n < 0 || n > reader.length) {
            throw new IllegalArgumentException();
        }
        int found = reader.readText(n);
        if (found != 0) {
            status[TEXTS]++;
            return found;
        }
        stock.copyFrom(reader.draft);
        ledger.size = 0;
        notes.size = 0;
        imageKept = false;
        return 0;
    }

    public int fault() {
        return reader.faultAt;
    }

    // ---- what is so

    public int count(int what) throws NoSuchElementException {
        switch (what) {
            case 0:
                return stock.size;
            case 1:
                return stock.bound;
            case 2:
                return stock.lap;
            case 3:
                return stock.margin;
            case 4:
                return stock.datedBits();
            case 5:
                layChronology();
                return bench.first;
            case 6:
                layChronology();
                return bench.last;
            case 7:
                return spunWeb().size;
            case 8:
                return spunWeb().countPieces(stock.size);
            case 9:
                return spunWeb().countAgainst();
            case 10:
                return builtFrom() <= builtUntil() ? builtFrom() : NONE;
            case 11:
                return builtFrom() <= builtUntil() ? builtUntil() : NONE;
            case 12:
                return builtFrom();
            case 13:
                return countPointers();
            case 14:
                return oddTimber();
            case 15:
                return growth.run(stock, bench, stock.bound);
            case 16:
                return ledger.size;
            case 17:
                return notes.size;
            case 18:
                return reader.length;
            case 19:
                return status[TEXTS];
            case 20:
                return status[ACTS];
            case 21:
                return status[NOTED];
            default:
                throw new NoSuchElementException();
        }
    }

    public int timber(int timber, int what) throws NoSuchElementException {
        if (!stock.has(timber)) {
            throw new NoSuchElementException();
        }
        Timber asked = stock.timberAt(timber);
        boolean dated = stock.isDated(timber);
        switch (what) {
            case 0:
                return asked.rings;
            case 1:
                return asked.least;
            case 2:
                return asked.most;
            case 3:
                return dated ? 1 : 0;
            case 4:
                return stock.yearOf(timber);
            case 5:
                return asked.countDoubtful();
            case 6:
                return spunWeb().leastOfPiece(timber);
            case 7:
                return spunWeb().placeOf(timber);
            case 8:
                return dated ? stock.felledFrom(timber) : NONE;
            case 9:
                return dated ? stock.felledUntil(timber) : NONE;
            case 10:
                return dated ? fitOf(timber) : NONE;
            case 11:
                return asked.house;
            case 12:
                return dated ? NONE : whyUnsettled(timber);
            default:
                throw new NoSuchElementException();
        }
    }

    public int house(int house, int what) throws NoSuchElementException {
        if (house < 0 || house > LAST_HOUSE) {
            throw new NoSuchElementException();
        }
        switch (what) {
            case 0:
                return stock.bitsOfHouse(house);
            case 1:
                return stock.edgeOfHouse(house);
            case 2:
                return stock.latestOfHouse(house);
            case 3:
                return stock.reusedOfHouse(house);
            default:
                throw new NoSuchElementException();
        }
    }

    public int ring(int timber, int ring, int what) throws NoSuchElementException {
        if (!stock.has(timber) || !stock.timberAt(timber).has(ring)) {
            throw new NoSuchElementException();
        }
        Timber asked = stock.timberAt(timber);
        switch (what) {
            case 0:
                return asked.widthOf(ring);
            case 1:
                return asked.isDoubtful(ring) ? 1 : 0;
            case 2:
                if (ring == 0) {
                    throw new NoSuchElementException();
                }
                return asked.stepOf(ring);
            case 3:
                return bench.laidOut(asked).rankAt(ring);
            default:
                throw new NoSuchElementException();
        }
    }

    public int index(int year) {
        layChronology();
        return bench.indexOf(year);
    }

    public int depth(int year) {
        int deep = 0;
        for (int t = 0; t < stock.size; t++) {
            if (stock.hasRingIn(t, year)) {
                deep++;
            }
        }
        return deep;
    }

    public int pointer(int i, int what) throws NoSuchElementException {
        if (what < 0 || what > 1) {
            throw new NoSuchElementException();
        }
        int year = pointerYear(i);
        if (year == NONE) {
            throw new NoSuchElementException();
        }
        return what == 0 ? year : stock.pointerStep(year);
    }

    // ---- slides, best places, links

    public int slid(int timber, int along, int by, int what)
            throws NoSuchElementException, IllegalArgumentException {
        if (!stock.has(timber) || !stock.has(along) || what < 0 || what > 3) {
            throw new NoSuchElementException();
        }
        if (timber == along) {
            throw new IllegalArgumentException();
        }
        Slide slide = bench.slideAlong(stock.timberAt(timber), stock.timberAt(along), by);
        if (slide.pairs < 1) {
            return NONE;
        }
        switch (what) {
            case 0:
                return slide.score;
            case 1:
                return slide.pairs;
            case 2:
                return slide.signs;
            default:
                return slide.ranks;
        }
    }

    public int best(int timber, int on, int what)
            throws NoSuchElementException, IllegalArgumentException {
        if (!stock.has(timber) || on != NONE && !stock.has(on) || what < 0 || what > 4) {
            throw new NoSuchElementException();
        }
        if (timber == on) {
            throw new IllegalArgumentException();
        }
        Finding finding = on == NONE
                ? seekAmongOthers(timber)
                : bench.seekOn(stock.timberAt(timber), stock.timberAt(on), stock.lap);
        if (what == 4) {
            return finding.whyNotSure(stock.bound, stock.margin);
        }
        if (!finding.found) {
            return WITHOUT_SLIDE;
        }
        switch (what) {
            case 0:
                return finding.by;
            case 1:
                return finding.score;
            case 2:
                return finding.pairs;
            default:
                return finding.other;
        }
    }

    public int link(int i, int what) throws NoSuchElementException {
        if (what < 0 || what > 4) {
            throw new NoSuchElementException();
        }
        spunWeb();
        if (i < 0 || i >= web.size) {
            throw new NoSuchElementException();
        }
        return web.tell(i, what);
    }

    public int grown(int i, int what) throws NoSuchElementException {
        if (what < 0 || what > 2) {
            throw new NoSuchElementException();
        }
        growth.run(stock, bench, stock.bound);
        if (i < 0 || i >= growth.size) {
            throw new NoSuchElementException();
        }
        return growth.tell(i, what);
    }

    public int help(int timber, int what) throws NoSuchElementException, IllegalArgumentException {
        if (!stock.has(timber) || what < 0 || what > 1) {
            throw new NoSuchElementException();
        }
        if (stock.isDated(timber)) {
            throw new IllegalArgumentException();
        }
        Timber asked = stock.timberAt(timber);
        layChronology();
        int which = 0;
        int score = scoreHere(asked);
        for (int r = 0; r < asked.rings; r++) {
            int without = scoreWithout(asked, r);
            if (without > score) {
                score = without;
                which = 100 + r;
            }
        }
        for (int i = 1; i < asked.rings; i++) {
            int with = scoreWithOneMore(asked, i);
            if (with > score) {
                score = with;
                which = 200 + i;
            }
        }
        return what == 0 ? which : score;
    }

    // ---- acts

    public int date(int timber, int year) {
        if (!stock.has(timber) || year != NONE && !isYear(year) || stock.yearOf(timber) == year) {
            status[ACTS]++;
            return NOT_DATABLE;
        }
        int was = stock.yearOf(timber);
        ledger.record(Ledger.YEAR, timber, 0, was);
        stock.setYear(timber, year);
        return was;
    }

    public int settle(int timber) {
        if (!stock.has(timber) || stock.isDated(timber) || whyUnsettled(timber) != 0) {
            return refusedAct();
        }
        int year = bench.first + seekAmongOthers(timber).by;
        ledger.record(Ledger.YEAR, timber, 0, NONE);
        stock.setYear(timber, year);
        return year;
    }

    public int grow() {
        int more = growth.run(stock, bench, stock.bound);
        if (more == 0) {
            return refusedAct();
        }
        ledger.record(Ledger.GROWTH, growth.bits(), 0, NONE);
        for (int i = 0; i < more; i++) {
            stock.setYear(growth.tell(i, 0), growth.tell(i, 1));
        }
        return more;
    }

    public int mend(int timber, int i, boolean more) {
        if (!stock.has(timber) || stock.isDated(timber)) {
            return refusedAct();
        }
        Timber mended = stock.timberAt(timber);
        if (more ? !mended.canGain(i) : !mended.canLose(i)) {
            return refusedAct();
        }
        if (more) {
            ledger.record(Ledger.RING_IN, timber, i, 0);
            mended.insertRing(i, 1);
        } else {
            ledger.record(Ledger.RING_OUT, timber, i, mended.widthOf(i));
            mended.removeRing(i);
        }
        return mended.rings;
    }

    public int doubt(int timber, int ring) {
        if (!stock.has(timber) || !stock.timberAt(timber).has(ring)) {
            return refusedAct();
        }
        Timber doubted = stock.timberAt(timber);
        ledger.record(Ledger.DOUBT, timber, ring, 0);
        doubted.turnDoubt(ring);
        return doubted.isDoubtful(ring) ? 1 : 0;
    }

    public int move(int timber, int house) {
        if (!stock.has(timber) || house < 0 || house > LAST_HOUSE
                || stock.timberAt(timber).house == house) {
            return refusedAct();
        }
        Timber moved = stock.timberAt(timber);
        int was = moved.house;
        ledger.record(Ledger.HOUSE, timber, 0, was);
        moved.house = house;
        return was;
    }

    public int undo() {
        return ledger.size > 0 ? ledger.takeBack(stock) : NONE;
    }

    // ---- what is noted

    public int note(int timber, int year) {
        if (notes.size >= MOST_NOTES || !stock.has(timber) || year != NONE && !isYear(year)) {
            status[NOTED]++;
            return NONE;
        }
        notes.add(timber, year);
        return notes.size;
    }

    public int fits(int what) throws NoSuchElementException {
        if (what < 0 || what > 1) {
            throw new NoSuchElementException();
        }
        growth.run(stock, bench, LEAST_BOUND);
        int many = 0;
        int least = NONE;
        for (int bound = LEAST_BOUND; bound <= MOST_BOUND; bound++) {
            if (notes.agree(stock, growth, bound)) {
                many++;
                least = least == NONE ? bound : least;
            }
        }
        return what == 0 ? many : least;
    }

    public int look(int what) throws NoSuchElementException {
        if (what < 0 || what > 1) {
            throw new NoSuchElementException();
        }
        growth.run(stock, bench, LEAST_BOUND);
        int which = NONE;
        int most = 0;
        for (int t = 0; t < stock.size; t++) {
            int unlike = countUnlikeYears(t);
            if (unlike > most) {
                most = unlike;
                which = t;
            }
        }
        return what == 0 ? which : most;
    }

    public void forget() {
        notes.size = 0;
    }

    public int chance(int timber, int seed, int n, int what)
            throws NoSuchElementException, IllegalArgumentException {
        if (!stock.has(timber) || what < 0 || what > 2) {
            throw new NoSuchElementException();
        }
        if (n < 0 || n > MOST_DRAWN) {
            throw new IllegalArgumentException();
        }
        Timber asked = stock.timberAt(timber);
        layChronology();
        int own = scoreHere(asked);
        int often = 0;
        int greatest = 0;
        int together = 0;
        int drawn = seed;
        for (int k = 0; k < n; k++) {
            drawn = trial.drawRings(asked.rings, drawn);
            int score = scoreHere(trial);
            often += score >= own ? 1 : 0;
            greatest = Math.max(greatest, score);
            together += score;
        }
        return what == 0 ? often : what == 1 ? greatest : together;
    }

    // ---- the text of a timber, the image

    public int told(int timber, int i) throws NoSuchElementException {
        if (!stock.has(timber)) {
            throw new NoSuchElementException();
        }
        stock.timberAt(timber).writeOn(signs);
        if (i == NONE) {
            return signs.length();
        }
        if (i < 0 || i >= signs.length()) {
            throw new NoSuchElementException();
        }
        return signs.charAt(i);
    }

    public void image() {
        keptStock.copyFrom(stock);
        keptLedger.copyFrom(ledger);
        keptNotes.copyFrom(notes);
        copyRow(status, keptStatus);
        imageKept = true;
    }

    public boolean restore() {
        if (!imageKept) {
            return false;
        }
        stock.copyFrom(keptStock);
        ledger.copyFrom(keptLedger);
        notes.copyFrom(keptNotes);
        copyRow(keptStatus, status);
        return true;
    }

    // ---- helpers of the face

    private static boolean isYear(int year) {
        return year >= 0 && year <= LAST_YEAR;
    }

    private static void copyRow(int[] from, int[] to) {
        for (int i = 0; i < from.length && i < to.length; i++) {
            to[i] = from[i];
        }
    }

    private int refusedAct() {
        status[ACTS]++;
        return NONE;
    }

    private void layChronology() {
        bench.layChronology(stock, stock.years, NONE);
    }

    private Web spunWeb() {
        web.spin(stock, bench);
        return web;
    }

    private Finding seekAmongOthers(int timber) {
        bench.layChronology(stock, stock.years, timber);
        return bench.seekOnChronology(stock.timberAt(timber), stock.lap);
    }

    private int scoreHere(Timber timber) {
        Finding finding = bench.seekOnChronology(timber, stock.lap);
        return finding.found ? finding.score : 0;
    }

    private int scoreWithout(Timber timber, int ring) {
        if (!timber.canLose(ring)) {
            return NONE;
        }
        trial.copyFrom(timber);
        trial.removeRing(ring);
        return scoreHere(trial);
    }

    private int scoreWithOneMore(Timber timber, int ring) {
        if (!timber.canGain(ring)) {
            return NONE;
        }
        trial.copyFrom(timber);
        trial.insertRing(ring, 1);
        return scoreHere(trial);
    }

    private int whyUnsettled(int timber) {
        Finding finding = seekAmongOthers(timber);
        int why = finding.whyNotSure(stock.bound, stock.margin);
        if (why != 0) {
            return why;
        }
        return isYear(bench.first + finding.by) ? 0 : YEAR_OUTSIDE;
    }

    private int builtFrom() {
        int from = NONE;
        for (int t = 0; t < stock.size; t++) {
            if (stock.isDated(t)) {
                from = Math.max(from, stock.felledFrom(t));
            }
        }
        return from;
    }

    private int builtUntil() {
        int until = NONE;
        for (int t = 0; t < stock.size; t++) {
            if (stock.isDated(t) && (until == NONE || stock.felledUntil(t) < until)) {
                until = stock.felledUntil(t);
            }
        }
        return until;
    }

    private int countPointers() {
        layChronology();
        int pointers = 0;
        for (int year = Math.max(0, bench.first); year <= bench.last && year < MOST_PLACES; year++) {
            if (stock.pointerStep(year) != 0) {
                pointers++;
            }
        }
        return pointers;
    }

    private int pointerYear(int i) {
        layChronology();
        int ahead = 0;
        for (int year = Math.max(0, bench.first); year <= bench.last && year < MOST_PLACES; year++) {
            if (stock.pointerStep(year) != 0) {
                if (ahead == i) {
                    return year;
                }
                ahead++;
            }
        }
        return NONE;
    }

    private int fitOf(int timber) {
        bench.layChronology(stock, stock.years, timber);
        if (bench.first == NONE) {
            return 0;
        }
        int by = stock.yearOf(timber) - bench.first;
        Slide slide = bench.slideAlongChronology(stock.timberAt(timber), by);
        return slide.pairs < 1 ? 0 : slide.score;
    }

    private int oddTimber() {
        int odd = NONE;
        int least = 0;
        for (int t = 0; t < stock.size; t++) {
            if (stock.isDated(t)) {
                int fit = fitOf(t);
                if (odd == NONE || fit < least) {
                    odd = t;
                    least = fit;
                }
            }
        }
        return odd;
    }

    /** A timber grows to one year whatever the bound, or not at all: so it has two years at the most. */
    private int countUnlikeYears(int timber) {
        boolean everDated = false;
        boolean everUndated = false;
        for (int bound = LEAST_BOUND; bound <= MOST_BOUND; bound++) {
            if (notes.agree(stock, growth, bound)) {
                boolean dated = growth.yearBy(stock, timber, bound) != NONE;
                everDated = everDated || dated;
                everUndated = everUndated || !dated;
            }
        }
        return (everDated ? 1 : 0) + (everUndated ? 1 : 0);
    }

    // ---- the classes inside

    /** A timber's rings, what it lost outside, its house. */
    private static final class Timber {
        private final int[] widths = new int[MOST_RINGS];
        private final boolean[] doubts = new boolean[MOST_RINGS];
        int rings;
        int least;
        int most;
        int house;

        void begin(int lostLeast, int lostMost) {
            rings = 0;
            least = lostLeast;
            most = lostMost;
            house = 0;
        }

        void copyFrom(Timber from) {
            for (int r = 0; r < MOST_RINGS; r++) {
                widths[r] = from.widths[r];
                doubts[r] = from.doubts[r];
            }
            rings = from.rings;
            least = from.least;
            most = from.most;
            house = from.house;
        }

        boolean has(int ring) {
            return ring >= 0 && ring < rings && ring < MOST_RINGS;
        }

        int widthOf(int ring) {
            return ring >= 0 && ring < rings && ring < MOST_RINGS ? widths[ring] : 0;
        }

        boolean isDoubtful(int ring) {
            return ring >= 0 && ring < rings && ring < MOST_RINGS && doubts[ring];
        }

        int stepOf(int ring) {
            return Integer.compare(widthOf(ring), widthOf(ring - 1));
        }

        void addRing(int width, boolean doubtful) {
            if (rings >= 0 && rings < MOST_RINGS) {
                widths[rings] = width;
                doubts[rings] = doubtful;
                rings++;
            }
        }

        void turnDoubt(int ring) {
            if (has(ring)) {
                doubts[ring] = !doubts[ring];
            }
        }

        boolean canLose(int ring) {
            return rings > LEAST_RINGS && isDoubtful(ring);
        }

        boolean canGain(int ring) {
            return rings < MOST_RINGS && ring >= 1 && has(ring);
        }

        void removeRing(int ring) {
            if (!has(ring)) {
                return;
            }
            for (int r = ring + 1; r < rings && r < MOST_RINGS; r++) {
                widths[r - 1] = widths[r];
                doubts[r - 1] = doubts[r];
            }
            rings--;
        }

        /** A ring that is put in was never seen, so it is doubtful. */
        void insertRing(int ring, int width) {
            if (ring < 0 || ring > rings || rings >= MOST_RINGS) {
                return;
            }
            for (int r = rings; r > ring; r--) {
                widths[r] = widths[r - 1];
                doubts[r] = doubts[r - 1];
            }
            widths[ring] = width;
            doubts[ring] = true;
            rings++;
        }

        /** Answers the seed behind the last ring. */
        int drawRings(int howMany, int seed) {
            begin(0, 0);
            int next = seed;
            for (int r = 0; r < howMany && r < MOST_RINGS; r++) {
                next = next * 1103515245 + 12345;
                addRing(((next >>> 16) & 32767) % MOST_WIDTH + 1, false);
            }
            return next;
        }

        int countDoubtful() {
            int doubtful = 0;
            for (int r = 0; r < rings; r++) {
                doubtful += isDoubtful(r) ? 1 : 0;
            }
            return doubtful;
        }

        int allWidths() {
            int together = 0;
            for (int r = 0; r < rings; r++) {
                together += widthOf(r);
            }
            return together;
        }

        void writeOn(StringBuilder text) {
            text.setLength(0);
            text.append("timber ").append(least).append(' ').append(most);
            for (int r = 0; r < rings; r++) {
                text.append(' ').append(widthOf(r));
                if (isDoubtful(r)) {
                    text.append('?');
                }
            }
            text.append(';');
        }
    }

    /** The timbers with their years, and what makes a best place sure. */
    private static final class Stock {
        static final int BOUND = 0;
        static final int LAP = 1;
        static final int MARGIN = 2;

        private final Timber[] timbers = new Timber[MOST_TIMBERS];
        private final Timber nobody = new Timber();
        final int[] years = new int[MOST_TIMBERS];
        int size;
        int bound;
        int lap;
        int margin;

        Stock() {
            for (int t = 0; t < MOST_TIMBERS; t++) {
                timbers[t] = new Timber();
            }
            wipe();
        }

        void wipe() {
            for (int t = 0; t < MOST_TIMBERS; t++) {
                years[t] = NONE;
            }
            size = 0;
            bound = 70;
            lap = 6;
            margin = 5;
        }

        void change(int setting, int value) {
            if (setting == BOUND) {
                bound = value;
            } else if (setting == LAP) {
                lap = value;
            } else {
                margin = value;
            }
        }

        void copyFrom(Stock from) {
            for (int t = 0; t < MOST_TIMBERS; t++) {
                timbers[t].copyFrom(from.timbers[t]);
                years[t] = from.years[t];
            }
            size = from.size;
            bound = from.bound;
            lap = from.lap;
            margin = from.margin;
        }

        boolean has(int timber) {
            return timber >= 0 && timber < size && timber < MOST_TIMBERS;
        }

        Timber timberAt(int timber) {
            return has(timber) ? timbers[timber] : nobody;
        }

        Timber addTimber(int least, int most) {
            if (size < 0 || size >= MOST_TIMBERS) {
                return nobody;
            }
            size++;
            timbers[size - 1].begin(least, most);
            return timbers[size - 1];
        }

        int yearOf(int timber) {
            return timber >= 0 && timber < size && timber < MOST_TIMBERS ? years[timber] : NONE;
        }

        boolean isDated(int timber) {
            return yearOf(timber) != NONE;
        }

        void setYear(int timber, int year) {
            if (has(timber)) {
                years[timber] = year;
            }
        }

        int datedBits() {
            int bits = 0;
            for (int t = 0; t < size; t++) {
                bits |= isDated(t) ? 1 << t : 0;
            }
            return bits;
        }

        boolean hasRingIn(int timber, int year) {
            int first = yearOf(timber);
            return first != NONE && year >= first && year < first + timberAt(timber).rings;
        }

        /** 1 or -1, if a year is a pointer; 0 if it is none. */
        int pointerStep(int year) {
            int stepping = 0;
            int rising = 0;
            int falling = 0;
            for (int t = 0; t < size; t++) {
                if (hasRingIn(t, year) && hasRingIn(t, year - 1)) {
                    int step = timberAt(t).stepOf(year - yearOf(t));
                    stepping++;
                    rising += step > 0 ? 1 : 0;
                    falling += step < 0 ? 1 : 0;
                }
            }
            if (stepping < 3) {
                return 0;
            }
            return 4 * rising >= 3 * stepping ? 1 : 4 * falling >= 3 * stepping ? -1 : 0;
        }

        int felledFrom(int timber) {
            Timber felled = timberAt(timber);
            return yearOf(timber) + felled.rings - 1 + felled.least;
        }

        int felledUntil(int timber) {
            Timber felled = timberAt(timber);
            return yearOf(timber) + felled.rings - 1 + felled.most;
        }

        int bitsOfHouse(int house) {
            int bits = 0;
            for (int t = 0; t < size; t++) {
                bits |= timberAt(t).house == house ? 1 << t : 0;
            }
            return bits;
        }

        private boolean isDatedIn(int timber, int house) {
            return isDated(timber) && timberAt(timber).house == house;
        }

        int edgeOfHouse(int house) {
            int edge = NONE;
            for (int t = 0; t < size; t++) {
                if (isDatedIn(t, house)) {
                    edge = Math.max(edge, felledFrom(t));
                }
            }
            return edge;
        }

        int reusedOfHouse(int house) {
            int edge = edgeOfHouse(house);
            int bits = 0;
            for (int t = 0; t < size; t++) {
                bits |= isDatedIn(t, house) && felledUntil(t) < edge ? 1 << t : 0;
            }
            return bits;
        }

        int latestOfHouse(int house) {
            int reused = reusedOfHouse(house);
            int latest = NONE;
            for (int t = 0; t < size; t++) {
                boolean counts = isDatedIn(t, house) && (reused >> t & 1) == 0;
                if (counts && (latest == NONE || felledUntil(t) < latest)) {
                    latest = felledUntil(t);
                }
            }
            return latest;
        }
    }

    /** Numbers at places, with their steps and ranks. 0 is none: each width and each index is more. */
    private static final class Row {
        private final int most;
        private final int[] numbers;
        private final boolean[] doubts;
        private final boolean[] shaky;
        private final int[] steps;
        private final int[] ranks;
        private final int[] numbersAhead;
        int length;

        Row(int places) {
            most = Math.max(0, Math.min(places, MOST_PLACES));
            numbers = new int[most];
            doubts = new boolean[most];
            shaky = new boolean[most];
            steps = new int[most];
            ranks = new int[most];
            numbersAhead = new int[most + 1];
        }

        void begin(int places) {
            length = Math.max(0, Math.min(places, most));
            for (int p = 0; p < length; p++) {
                numbers[p] = 0;
                doubts[p] = false;
            }
        }

        void put(int place, int number, boolean doubtful) {
            if (place >= 0 && place < length) {
                numbers[place] = number;
                doubts[place] = doubtful;
            }
        }

        /** Steps and ranks are asked for slide after slide, so they are worked out but once. */
        void finish() {
            numbersAhead[0] = 0;
            for (int p = 0; p < length; p++) {
                boolean here = numbers[p] != 0;
                int ahead = numberAt(p - 1);
                numbersAhead[p + 1] = numbersAhead[p] + (here ? 1 : 0);
                steps[p] = here && ahead != 0 ? Integer.compare(numbers[p], ahead) : NO_STEP;
                ranks[p] = here ? countLess(p) : NONE;
                shaky[p] = doubts[p] || p > 0 && doubts[p - 1];
            }
        }

        private int countLess(int place) {
            int less = 0;
            int from = Math.max(0, place - 2);
            for (int p = from; p < length && p <= place + 2; p++) {
                less += numbers[p] != 0 && numbers[p] < numbers[place] ? 1 : 0;
            }
            return less;
        }

        int numberAt(int place) {
            return place >= 0 && place < length ? numbers[place] : 0;
        }

        int stepAt(int place) {
            return place >= 0 && place < length ? steps[place] : NO_STEP;
        }

        int rankAt(int place) {
            return place >= 0 && place < length ? ranks[place] : NONE;
        }

        /** Whether the number here, or the one ahead of it, is doubtful. */
        boolean isShaky(int place) {
            return place >= 0 && place < length && shaky[place];
        }

        int numbersFrom(int from, int to) {
            if (from < 0 || to > length || from >= to) {
                return 0;
            }
            return numbersAhead[to] - numbersAhead[from];
        }
    }

    /** One slide of a row along another, measured. */
    private static final class Slide {
        int pairs;
        int signs;
        int ranks;
        int score;

        void measure(Row on, Row row, int by) {
            int unlike = 0;
            int stepping = 0;
            int alike = 0;
            pairs = 0;
            int from = Math.max(0, -by);
            int to = Math.min(row.length, on.length - by);
            for (int j = from; j < to; j++) {
                int rankOn = on.rankAt(j + by);
                int rankOf = row.rankAt(j);
                if (rankOn == NONE || rankOf == NONE) {
                    continue;
                }
                pairs++;
                unlike += Math.abs(rankOn - rankOf);
                int stepOn = on.stepAt(j + by);
                int stepOf = row.stepAt(j);
                if (stepOn != NO_STEP && stepOf != NO_STEP) {
                    stepping++;
                    alike += on.isShaky(j + by) || row.isShaky(j) ? 1 : likeness(stepOn, stepOf);
                }
            }
            signs = stepping < 1 ? 0 : alike * 100 / (2 * stepping);
            ranks = pairs < 1 ? 0 : 100 - unlike * 25 / pairs;
            score = (2 * signs + ranks) / 3;
        }

        private static int likeness(int stepOn, int stepOf) {
            if (stepOn == stepOf) {
                return 2;
            }
            return stepOn == 0 || stepOf == 0 ? 1 : 0;
        }
    }

    /** The best place of a row on another. */
    private static final class Finding {
        private final Slide slide = new Slide();
        boolean found;
        int by;
        int score;
        int pairs;
        int other;

        void seek(Row on, Row row, int lap) {
            found = false;
            other = NONE;
            for (int s = 1 - row.length; s < on.length; s++) {
                if (countPairs(on, row, s) >= lap) {
                    slide.measure(on, row, s);
                    weigh(s);
                }
            }
        }

        /** What is slid is always a timber's row, with a number at each of its places. */
        private static int countPairs(Row on, Row row, int s) {
            return on.numbersFrom(Math.max(0, s), Math.min(on.length, row.length + s));
        }

        /** Slides come rising, so of like ones the least stays. */
        private void weigh(int s) {
            if (found && (slide.score < score || slide.score == score && slide.pairs <= pairs)) {
                other = Math.max(other, slide.score);
                return;
            }
            other = found ? score : NONE;
            found = true;
            by = s;
            score = slide.score;
            pairs = slide.pairs;
        }

        int whyNotSure(int bound, int margin) {
            if (!found) {
                return 1;
            }
            if (score < bound) {
                return 2;
            }
            return other != NONE && score - other < margin ? 3 : 0;
        }
    }

    /** Where rows are laid out beside one another: two timbers, or a timber and the chronology. */
    private static final class Bench {
        private final Row under = new Row(MOST_RINGS);
        private final Row over = new Row(MOST_RINGS);
        private final Row chronology = new Row(MOST_PLACES);
        private final int[] sums = new int[MOST_PLACES];
        private final int[] depths = new int[MOST_PLACES];
        private final Slide slide = new Slide();
        private final Finding finding = new Finding();
        int first = NONE;
        int last = NONE;

        Row laidOut(Timber timber) {
            lay(over, timber);
            return over;
        }

        private static void lay(Row row, Timber timber) {
            row.begin(timber.rings);
            for (int r = 0; r < timber.rings; r++) {
                row.put(r, timber.widthOf(r), timber.isDoubtful(r));
            }
            row.finish();
        }

        Slide slideAlong(Timber timber, Timber along, int by) {
            lay(under, along);
            lay(over, timber);
            measureWithin(under, by);
            return slide;
        }

        Slide slideAlongChronology(Timber timber, int by) {
            lay(over, timber);
            measureWithin(chronology, by);
            return slide;
        }

        /** A slide that leads past the ends is held at one that does so too: then nothing wraps. */
        private void measureWithin(Row on, int by) {
            slide.measure(on, over, Math.max(-MOST_RINGS, Math.min(by, MOST_PLACES)));
        }

        Finding seekOn(Timber timber, Timber on, int lap) {
            lay(under, on);
            lay(over, timber);
            finding.seek(under, over, lap);
            return finding;
        }

        Finding seekOnChronology(Timber timber, int lap) {
            lay(over, timber);
            finding.seek(chronology, over, lap);
            return finding;
        }

        void layChronology(Stock stock, int[] years, int without) {
            span(stock, years, without);
            chronology.begin(first == NONE ? 0 : last - first + 1);
            for (int p = 0; p < chronology.length && p < MOST_PLACES; p++) {
                sums[p] = 0;
                depths[p] = 0;
            }
            for (int t = 0; t < stock.size && t < years.length; t++) {
                if (t != without && years[t] != NONE) {
                    addIndices(stock.timberAt(t), years[t] - first);
                }
            }
            for (int p = 0; p < chronology.length && p < MOST_PLACES; p++) {
                if (depths[p] > 0) {
                    chronology.put(p, sums[p] / depths[p], false);
                }
            }
            chronology.finish();
        }

        private void span(Stock stock, int[] years, int without) {
            first = NONE;
            last = NONE;
            for (int t = 0; t < stock.size && t < years.length; t++) {
                if (t != without && years[t] != NONE) {
                    int end = years[t] + stock.timberAt(t).rings - 1;
                    first = first == NONE ? years[t] : Math.min(first, years[t]);
                    last = Math.max(last, end);
                }
            }
        }

        private void addIndices(Timber timber, int from) {
            int together = timber.allWidths();
            if (together < 1 || from < 0) {
                return;
            }
            for (int r = 0; r < timber.rings && from + r < MOST_PLACES; r++) {
                sums[from + r] += 1000 * timber.widthOf(r) * timber.rings / together;
                depths[from + r]++;
            }
        }

        int indexOf(int year) {
            if (first == NONE || year < first || year > last) {
                return NONE;
            }
            int number = chronology.numberAt(year - first);
            return number == 0 ? NONE : number;
        }
    }

    /** The links between timbers, the tied ones first found, and the pieces that they make. */
    private static final class Web {
        private final int[] lesser = new int[MOST_LINKS];
        private final int[] greater = new int[MOST_LINKS];
        private final int[] slides = new int[MOST_LINKS];
        private final int[] scores = new int[MOST_LINKS];
        private final boolean[] tied = new boolean[MOST_LINKS];
        private final int[] leasts = new int[MOST_TIMBERS];
        private final int[] places = new int[MOST_TIMBERS];
        int size;

        void spin(Stock stock, Bench bench) {
            size = 0;
            for (int a = 0; a < stock.size; a++) {
                for (int b = a + 1; b < stock.size; b++) {
                    Finding finding = bench.seekOn(stock.timberAt(b), stock.timberAt(a), stock.lap);
                    if (finding.whyNotSure(stock.bound, stock.margin) == 0) {
                        insert(a, b, finding.by, finding.score);
                    }
                }
            }
            tieAll();
        }

        /** Links come by a, then b: behind all of a like score each stands right. */
        private void insert(int a, int b, int slide, int score) {
            if (size < 0 || size >= MOST_LINKS) {
                return;
            }
            int at = size;
            for (int i = size; i > 0 && scores[i - 1] < score; i--) {
                lesser[i] = lesser[i - 1];
                greater[i] = greater[i - 1];
                slides[i] = slides[i - 1];
                scores[i] = scores[i - 1];
                at = i - 1;
            }
            lesser[at] = a;
            greater[at] = b;
            slides[at] = slide;
            scores[at] = score;
            size++;
        }

        private void tieAll() {
            for (int t = 0; t < MOST_TIMBERS; t++) {
                leasts[t] = t;
                places[t] = 0;
            }
            for (int i = 0; i < size && i < MOST_LINKS; i++) {
                int a = lesser[i];
                int b = greater[i];
                tied[i] = leastOfPiece(a) != leastOfPiece(b);
                if (tied[i]) {
                    join(leastOfPiece(a), leastOfPiece(b), placeOf(a) + slides[i] - placeOf(b));
                }
            }
        }

        /** The piece of timber second lies by so much behind the piece of timber first. */
        private void join(int first, int second, int behind) {
            int least = Math.min(first, second);
            for (int t = 0; t < MOST_TIMBERS; t++) {
                if (least == first && leasts[t] == second) {
                    leasts[t] = least;
                    places[t] += behind;
                } else if (least == second && leasts[t] == first) {
                    leasts[t] = least;
                    places[t] -= behind;
                }
            }
        }

        int leastOfPiece(int timber) {
            return timber >= 0 && timber < MOST_TIMBERS ? leasts[timber] : NONE;
        }

        int placeOf(int timber) {
            return timber >= 0 && timber < MOST_TIMBERS ? places[timber] : 0;
        }

        int countPieces(int timbers) {
            int pieces = 0;
            for (int t = 0; t < timbers; t++) {
                pieces += leastOfPiece(t) == t ? 1 : 0;
            }
            return pieces;
        }

        int countAgainst() {
            int against = 0;
            for (int i = 0; i < size && i < MOST_LINKS; i++) {
                boolean speaks = placeOf(greater[i]) - placeOf(lesser[i]) != slides[i];
                against += !tied[i] && speaks ? 1 : 0;
            }
            return against;
        }

        int tell(int i, int what) {
            if (i < 0 || i >= size || i >= MOST_LINKS) {
                return NONE;
            }
            switch (what) {
                case 0:
                    return lesser[i];
                case 1:
                    return greater[i];
                case 2:
                    return slides[i];
                case 3:
                    return scores[i];
                default:
                    return tied[i] ? 1 : 0;
            }
        }
    }

    /** Which timbers would be dated one after the other. */
    private static final class Growth {
        private final int[] which = new int[MOST_TIMBERS];
        private final int[] yearsFound = new int[MOST_TIMBERS];
        private final int[] scores = new int[MOST_TIMBERS];
        private final int[] years = new int[MOST_TIMBERS];
        private int pickedYear;
        private int pickedScore;
        int size;

        int run(Stock stock, Bench bench, int bound) {
            size = 0;
            copyRow(stock.years, years);
            for (int round = 0; round < MOST_TIMBERS; round++) {
                bench.layChronology(stock, years, NONE);
                int picked = pick(stock, bench, bound);
                if (picked < 0 || picked >= MOST_TIMBERS) {
                    break;
                }
                years[picked] = pickedYear;
                which[round] = picked;
                yearsFound[round] = pickedYear;
                scores[round] = pickedScore;
                size++;
            }
            return size;
        }

        private int pick(Stock stock, Bench bench, int bound) {
            int picked = NONE;
            for (int t = 0; t < stock.size && t < MOST_TIMBERS; t++) {
                if (years[t] != NONE) {
                    continue;
                }
                Finding finding = bench.seekOnChronology(stock.timberAt(t), stock.lap);
                boolean sure = finding.whyNotSure(bound, stock.margin) == 0;
                int year = bench.first + finding.by;
                if (sure && isYear(year) && (picked == NONE || finding.score > pickedScore)) {
                    picked = t;
                    pickedYear = year;
                    pickedScore = finding.score;
                }
            }
            return picked;
        }

        int tell(int i, int what) {
            if (i < 0 || i >= size || i >= MOST_TIMBERS) {
                return NONE;
            }
            return what == 0 ? which[i] : what == 1 ? yearsFound[i] : scores[i];
        }

        int bits() {
            int bits = 0;
            for (int i = 0; i < size; i++) {
                bits |= 1 << tell(i, 0);
            }
            return bits;
        }

        /**
         * A timber's year, were all grown by a greater bound than this ran by. That picks the same ones in the same
         * order and only stops sooner, for of those that are sure by it the best is the best of all.
         */
        int yearBy(Stock stock, int timber, int bound) {
            if (stock.isDated(timber)) {
                return stock.yearOf(timber);
            }
            for (int i = 0; i < size && tell(i, 2) >= bound; i++) {
                if (tell(i, 0) == timber) {
                    return tell(i, 1);
                }
            }
            return NONE;
        }
    }

    /** The acts that are kept: of each what takes it back. */
    private static final class Ledger {
        static final int YEAR = 0;
        static final int GROWTH = 1;
        static final int RING_IN = 2;
        static final int RING_OUT = 3;
        static final int DOUBT = 4;
        static final int HOUSE = 5;

        private final int[] kinds = new int[MOST_ACTS];
        private final int[] subjects = new int[MOST_ACTS];
        private final int[] rings = new int[MOST_ACTS];
        private final int[] before = new int[MOST_ACTS];
        int size;

        void copyFrom(Ledger from) {
            copyRow(from.kinds, kinds);
            copyRow(from.subjects, subjects);
            copyRow(from.rings, rings);
            copyRow(from.before, before);
            size = from.size;
        }

        void record(int kind, int subject, int ring, int was) {
            if (size >= MOST_ACTS) {
                dropFirst();
            }
            if (size >= 0 && size < MOST_ACTS) {
                kinds[size] = kind;
                subjects[size] = subject;
                rings[size] = ring;
                before[size] = was;
                size++;
            }
        }

        private void dropFirst() {
            for (int i = 1; i < MOST_ACTS; i++) {
                kinds[i - 1] = kinds[i];
                subjects[i - 1] = subjects[i];
                rings[i - 1] = rings[i];
                before[i - 1] = before[i];
            }
            size = MOST_ACTS - 1;
        }

        int takeBack(Stock stock) {
            if (size < 1 || size > MOST_ACTS) {
                return NONE;
            }
            size--;
            int subject = subjects[size];
            Timber timber = stock.timberAt(subject);
            switch (kinds[size]) {
                case YEAR:
                    stock.setYear(subject, before[size]);
                    break;
                case GROWTH:
                    undateAll(stock, subject);
                    break;
                case RING_IN:
                    timber.removeRing(rings[size]);
                    break;
                case RING_OUT:
                    timber.insertRing(rings[size], before[size]);
                    break;
                case DOUBT:
                    timber.turnDoubt(rings[size]);
                    break;
                default:
                    timber.house = before[size];
                    break;
            }
            return size;
        }

        private static void undateAll(Stock stock, int bits) {
            for (int t = 0; t < MOST_TIMBERS; t++) {
                if ((bits >> t & 1) != 0) {
                    stock.setYear(t, NONE);
                }
            }
        }
    }

    /** What is noted of timbers' years. */
    private static final class Notes {
        private final int[] timbers = new int[MOST_NOTES];
        private final int[] years = new int[MOST_NOTES];
        int size;

        void copyFrom(Notes from) {
            copyRow(from.timbers, timbers);
            copyRow(from.years, years);
            size = from.size;
        }

        void add(int timber, int year) {
            if (size >= 0 && size < MOST_NOTES) {
                timbers[size] = timber;
                years[size] = year;
                size++;
            }
        }

        boolean agree(Stock stock, Growth growth, int bound) {
            for (int i = 0; i < size && i < MOST_NOTES; i++) {
                if (growth.yearBy(stock, timbers[i], bound) != years[i]) {
                    return false;
                }
            }
            return true;
        }
    }

    /** The tape, and the reading of its text. */
    private static final class Reader {
        private static final int CANNOT_STAND = 1;
        private static final int TOO_MUCH = 2;
        private static final int NOT_TOLD = 3;
        private static final int TOLD_ALREADY = 4;
        private static final int MOST_BELOW_LEAST = 5;

        private static final int END = 0;
        private static final int WORD = 1;
        private static final int NUMBER = 2;
        private static final int SEMICOLON = 3;
        private static final int QUESTION = 4;
        private static final int NO_TOKEN = 5;

        private final int[] tape = new int[MOST_BYTES];
        final Stock draft = new Stock();
        int length;
        int faultAt = NONE;
        private int end;
        private int at;
        private int behind;
        private int kind;
        private int number;
        private int settingBits;
        private int knownBits;
        private int housedBits;

        void putFour(int bytes) {
            for (int shift = 24; shift >= 0 && length >= 0 && length < MOST_BYTES; shift -= 8) {
                tape[length] = bytes >>> shift & 255;
                length++;
            }
        }

        int readText(int n) {
            end = Math.min(n, length);
            behind = 0;
            draft.wipe();
            settingBits = 0;
            knownBits = 0;
            housedBits = 0;
            advance();
            int found = 0;
            for (int clauses = 0; clauses < MOST_BYTES && found == 0 && kind != END; clauses++) {
                found = readClause();
            }
            faultAt = found == 0 ? NONE : at;
            length = 0;
            return found;
        }

        private int byteAt(int place) {
            return place >= 0 && place < end && place < MOST_BYTES ? tape[place] : NONE;
        }

        private static boolean isLetter(int sign) {
            return sign >= 'a' && sign <= 'z';
        }

        private static boolean isDigit(int sign) {
            return sign >= '0' && sign <= '9';
        }

        private void advance() {
            at = behind;
            for (int p = behind; p < end && (byteAt(p) == ' ' || byteAt(p) == '\n'); p++) {
                at = p + 1;
            }
            int sign = byteAt(at);
            behind = at + 1;
            if (sign == NONE) {
                kind = END;
                behind = at;
            } else if (isLetter(sign)) {
                kind = WORD;
                passWord();
            } else if (isDigit(sign)) {
                kind = NUMBER;
                passNumber();
            } else {
                kind = sign == ';' ? SEMICOLON : sign == '?' ? QUESTION : NO_TOKEN;
            }
        }

        private void passWord() {
            for (int p = at; p < end && isLetter(byteAt(p)); p++) {
                behind = p + 1;
            }
        }

        private void passNumber() {
            number = 0;
            for (int p = at; p < end && isDigit(byteAt(p)); p++) {
                behind = p + 1;
                if (p < at + 3) {
                    number = number * 10 + byteAt(p) - '0';
                }
            }
        }

        private boolean isWord(String word) {
            if (behind - at != word.length()) {
                return false;
            }
            for (int i = 0; i < word.length(); i++) {
                if (byteAt(at + i) != word.charAt(i)) {
                    return false;
                }
            }
            return true;
        }

        private int readClause() {
            if (kind != WORD) {
                return CANNOT_STAND;
            }
            if (isWord("timber")) {
                return readTimber();
            }
            if (isWord("bound")) {
                return readSetting(Stock.BOUND, LEAST_BOUND, MOST_BOUND);
            }
            if (isWord("lap")) {
                return readSetting(Stock.LAP, LEAST_RINGS, MOST_RINGS);
            }
            if (isWord("margin")) {
                return readSetting(Stock.MARGIN, 0, MOST_MARGIN);
            }
            if (isWord("known")) {
                return readKnown();
            }
            return isWord("house") ? readHouse() : CANNOT_STAND;
        }

        /** The next token's fault as a number from low to high; 0 without one, then the number is read. */
        private int readNumber(int low, int high) {
            advance();
            if (kind != NUMBER) {
                return CANNOT_STAND;
            }
            return behind - at > 3 || number < low || number > high ? TOO_MUCH : 0;
        }

        private int readClauseEnd() {
            advance();
            if (kind != SEMICOLON) {
                return CANNOT_STAND;
            }
            advance();
            return 0;
        }

        private int readTimber() {
            if (draft.size >= MOST_TIMBERS) {
                return TOO_MUCH;
            }
            int found = readNumber(0, MOST_LOST);
            if (found != 0) {
                return found;
            }
            int least = number;
            found = readNumber(0, MOST_LOST);
            if (found != 0) {
                return found;
            }
            if (number < least) {
                return MOST_BELOW_LEAST;
            }
            return readRings(draft.addTimber(least, number));
        }

        private int readRings(Timber timber) {
            advance();
            for (int r = 0; r <= MOST_RINGS; r++) {
                if (r >= LEAST_RINGS && kind == SEMICOLON) {
                    advance();
                    return 0;
                }
                if (kind != NUMBER) {
                    return CANNOT_STAND;
                }
                if (r == MOST_RINGS || behind - at > 3 || number < 1 || number > MOST_WIDTH) {
                    return TOO_MUCH;
                }
                int width = number;
                advance();
                timber.addRing(width, kind == QUESTION);
                if (kind == QUESTION) {
                    advance();
                }
            }
            return TOO_MUCH;
        }

        private int readSetting(int setting, int low, int high) {
            if ((settingBits >> setting & 1) != 0) {
                return TOLD_ALREADY;
            }
            int found = readNumber(low, high);
            if (found != 0) {
                return found;
            }
            settingBits |= 1 << setting;
            draft.change(setting, number);
            return readClauseEnd();
        }

        private int whyNotTimber(int toldBits) {
            if (!draft.has(number)) {
                return NOT_TOLD;
            }
            return (toldBits >> number & 1) != 0 ? TOLD_ALREADY : 0;
        }

        private int readKnown() {
            int found = readNumber(0, MOST_TIMBERS - 1);
            found = found != 0 ? found : whyNotTimber(knownBits);
            if (found != 0) {
                return found;
            }
            int timber = number;
            found = readNumber(0, LAST_YEAR);
            if (found != 0) {
                return found;
            }
            knownBits |= 1 << timber;
            draft.setYear(timber, number);
            return readClauseEnd();
        }

        private int readHouse() {
            int found = readNumber(0, MOST_TIMBERS - 1);
            found = found != 0 ? found : whyNotTimber(housedBits);
            if (found != 0) {
                return found;
            }
            int timber = number;
            found = readNumber(0, LAST_HOUSE);
            if (found != 0) {
                return found;
            }
            housedBits |= 1 << timber;
            draft.timberAt(timber).house = number;
            return readClauseEnd();
        }
    }
}
