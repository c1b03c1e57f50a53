import java.util.ArrayList;
import java.util.List;
import java.util.NoSuchElementException;
import java.util.TreeSet;

/**
 * The document once more, as plainly and slowly as can be: nothing is kept ready, an act is undone by a copy of all.
 * ModelTest holds the program against it.
 */
final class PlainModel {
    static final int NONE = -1;

    /** One ring. */
    record Ring(int width, boolean doubtful) {
    }

    /** One timber. */
    static final class Wood {
        List<Ring> rings = new ArrayList<>();
        int least;
        int most;
        int house;
        Integer year;

        Wood copy() {
            Wood w = new Wood();
            w.rings.addAll(rings);
            w.least = least;
            w.most = most;
            w.house = house;
            w.year = year;
            return w;
        }
    }

    /** A place of a row: its number (null: none) and whether it is doubtful. */
    record Spot(Integer number, boolean doubtful) {
    }

    /** What a slide comes to. */
    record Measure(int by, int score, int pairs, int signs, int ranks) {
    }

    /** A best place. */
    record Best(Measure measure, Integer other) {
    }

    /** A link. */
    static final class Tie {
        int a;
        int b;
        Measure measure;
        boolean tied;
    }

    /** A timber that would be dated. */
    record Grown(int which, int year, int score) {
    }

    /** All that an image keeps. */
    record Kept(List<Wood> woods, List<List<Wood>> acts, List<int[]> notes, int[] status) {
    }

    List<Wood> woods = new ArrayList<>();
    int bound = 70;
    int lap = 6;
    int margin = 5;
    List<List<Wood>> acts = new ArrayList<>();
    List<int[]> notes = new ArrayList<>();
    int[] status = new int[3];
    Kept kept;
    List<Integer> tape = new ArrayList<>();
    int faultAt = NONE;

    // ---- the text

    /** A fault, on its way out of the grammar. */
    static final class Fault extends Exception {
        private static final long serialVersionUID = 1L;
        final int number;
        final int at;

        Fault(int number, int at) {
            this.number = number;
            this.at = at;
        }
    }

    /** One token: its signs as they stand. */
    record Token(String signs, int at) {
        boolean isNumber() {
            return signs.matches("[0-9]+");
        }

        boolean is(String what) {
            return signs.equals(what);
        }
    }

    /** The grammar over a list of tokens; the last one is empty and stands at the text's end. */
    static final class Grammar {
        final List<Token> tokens = new ArrayList<>();
        int next = 0;
        final PlainModel to = new PlainModel();
        final TreeSet<String> told = new TreeSet<>();

        Grammar(String text) {
            java.util.regex.Matcher m =
                    java.util.regex.Pattern.compile("[a-z]+|[0-9]+|[ \\n]|.", java.util.regex.Pattern.DOTALL).matcher(text);
            while (m.find()) {
                if (!m.group().equals(" ") && !m.group().equals("\n")) {
                    tokens.add(new Token(m.group(), m.start()));
                }
            }
            tokens.add(new Token("", text.length()));
        }

        Token peek() {
            return tokens.get(next);
        }

        void need(boolean so, int fault) throws Fault {
            if (!so) {
                throw new Fault(fault, peek().at);
            }
        }

        int number(int low, int high) throws Fault {
            need(peek().isNumber(), 1);
            need(peek().signs.length() <= 3, 2);
            int n = Integer.parseInt(peek().signs);
            need(n >= low && n <= high, 2);
            return n;
        }

        int take(int low, int high) throws Fault {
            int n = number(low, high);
            next++;
            return n;
        }

        void end() throws Fault {
            need(peek().is(";"), 1);
            next++;
        }

        void text() throws Fault {
            while (!peek().is("")) {
                clause();
            }
        }

        void clause() throws Fault {
            String word = peek().signs;
            switch (word) {
                case "timber" -> timber();
                case "bound", "lap", "margin" -> {
                    need(told.add(word), 4);
                    next++;
                    if (word.equals("bound")) {
                        to.bound = take(50, 100);
                    } else if (word.equals("lap")) {
                        to.lap = take(3, 24);
                    } else {
                        to.margin = take(0, 50);
                    }
                    end();
                }
                case "known", "house" -> {
                    next++;
                    int t = number(0, 7);
                    need(t < to.woods.size(), 3);
                    need(told.add(word + t), 4);
                    next++;
                    if (word.equals("known")) {
                        to.woods.get(t).year = take(0, 900);
                    } else {
                        to.woods.get(t).house = take(0, 3);
                    }
                    end();
                }
                default -> need(false, 1);
            }
        }

        void timber() throws Fault {
            need(to.woods.size() < 8, 2);
            next++;
            Wood w = new Wood();
            w.least = take(0, 30);
            w.most = number(0, 30);
            need(w.most >= w.least, 5);
            next++;
            while (w.rings.size() < 3 || !peek().is(";")) {
                need(peek().isNumber(), 1);
                need(w.rings.size() < 24, 2);
                int width = take(1, 99);
                boolean doubtful = peek().is("?");
                if (doubtful) {
                    next++;
                }
                w.rings.add(new Ring(width, doubtful));
            }
            end();
            to.woods.add(w);
        }
    }

    int feed(int a, int b, int c, int d, int e) {
        if (tape.size() + 20 > 900) {
            return NONE;
        }
        for (int n : new int[] {a, b, c, d, e}) {
            for (byte x : java.nio.ByteBuffer.allocate(4).putInt(n).array()) {
                tape.add(x & 0xff);
            }
        }
        return tape.size();
    }

    int yard(int n) {
        if (n < 0 || n > tape.size()) {
            throw new IllegalArgumentException();
        }
        StringBuilder text = new StringBuilder();
        for (int b : tape.subList(0, n)) {
            text.append((char) b);
        }
        tape.clear();
        Grammar g = new Grammar(text.toString());
        try {
            g.text();
        } catch (Fault f) {
            faultAt = f.at;
            status[0]++;
            return f.number;
        }
        faultAt = NONE;
        woods = g.to.woods;
        bound = g.to.bound;
        lap = g.to.lap;
        margin = g.to.margin;
        acts.clear();
        notes.clear();
        kept = null;
        return 0;
    }

    int fault() {
        return faultAt;
    }

    // ---- rows

    static List<Spot> row(Wood w) {
        List<Spot> row = new ArrayList<>();
        for (Ring r : w.rings) {
            row.add(new Spot(r.width, r.doubtful));
        }
        return row;
    }

    static int sum(Wood w) {
        int sum = 0;
        for (Ring r : w.rings) {
            sum += r.width;
        }
        return sum;
    }

    static boolean covers(Wood w, int year) {
        return w.year != null && year >= w.year && (long) year <= w.year + w.rings.size() - 1;
    }

    static List<Wood> dated(List<Wood> of, Wood without) {
        List<Wood> dated = new ArrayList<>();
        for (Wood w : of) {
            if (w.year != null && w != without) {
                dated.add(w);
            }
        }
        return dated;
    }

    static Integer first(List<Wood> dated) {
        Integer first = null;
        for (Wood w : dated) {
            first = first == null || w.year < first ? w.year : first;
        }
        return first;
    }

    static Integer last(List<Wood> dated) {
        Integer last = null;
        for (Wood w : dated) {
            int end = w.year + w.rings.size() - 1;
            last = last == null || end > last ? Integer.valueOf(end) : last;
        }
        return last;
    }

    static Integer index(List<Wood> dated, int year) {
        int sum = 0;
        int many = 0;
        for (Wood w : dated) {
            if (covers(w, year)) {
                sum += 1000 * w.rings.get(year - w.year).width * w.rings.size() / sum(w);
                many++;
            }
        }
        return many == 0 ? null : Integer.valueOf(sum / many);
    }

    static List<Spot> chronology(List<Wood> dated) {
        List<Spot> row = new ArrayList<>();
        if (!dated.isEmpty()) {
            for (int year = first(dated); year <= last(dated); year++) {
                row.add(new Spot(index(dated, year), false));
            }
        }
        return row;
    }

    static Integer at(List<Spot> row, int place) {
        return place < 0 || place >= row.size() ? null : row.get(place).number;
    }

    static boolean doubtful(List<Spot> row, int place) {
        return place >= 0 && place < row.size() && row.get(place).doubtful;
    }

    static Integer step(List<Spot> row, int place) {
        Integer here = at(row, place);
        Integer ahead = at(row, place - 1);
        return here == null || ahead == null ? null : Integer.valueOf(Integer.signum(here - ahead));
    }

    static int rank(List<Spot> row, int place) {
        int rank = 0;
        for (int d : new int[] {-2, -1, 1, 2}) {
            Integer near = at(row, place + d);
            if (near != null && near < at(row, place)) {
                rank++;
            }
        }
        return rank;
    }

    static Measure measure(List<Spot> a, List<Spot> b, int s) {
        int pairs = 0;
        int steps = 0;
        int signs = 0;
        int ranks = 0;
        for (int j = 0; j < b.size(); j++) {
            long beside = (long) j + s;
            if (beside < 0 || beside >= a.size() || at(a, (int) beside) == null || at(b, j) == null) {
                continue;
            }
            int i = (int) beside;
            pairs++;
            ranks += Math.abs(rank(a, i) - rank(b, j));
            Integer sa = step(a, i);
            Integer sb = step(b, j);
            if (sa == null || sb == null) {
                continue;
            }
            steps++;
            if (doubtful(a, i) || doubtful(a, i - 1) || doubtful(b, j) || doubtful(b, j - 1)) {
                signs += 1;
            } else if (sa.equals(sb)) {
                signs += 2;
            } else if (sa == 0 || sb == 0) {
                signs += 1;
            }
        }
        int allSigns = steps == 0 ? 0 : signs * 100 / (2 * steps);
        int allRanks = pairs == 0 ? 0 : 100 - ranks * 25 / pairs;
        return new Measure(s, (2 * allSigns + allRanks) / 3, pairs, allSigns, allRanks);
    }

    /** Null without a slide. */
    Best best(List<Spot> a, List<Spot> b) {
        List<Measure> all = new ArrayList<>();
        for (int s = -b.size(); s <= a.size(); s++) {
            Measure m = measure(a, b, s);
            if (m.pairs >= lap) {
                all.add(m);
            }
        }
        if (all.isEmpty()) {
            return null;
        }
        all.sort((x, y) -> x.score != y.score ? y.score - x.score : x.pairs != y.pairs ? y.pairs - x.pairs : x.by - y.by);
        return new Best(all.get(0), all.size() < 2 ? null : Integer.valueOf(all.get(1).score));
    }

    int why(Best best, int by) {
        if (best == null) {
            return 1;
        }
        if (best.measure.score < by) {
            return 2;
        }
        return best.other == null || best.other <= best.measure.score - margin ? 0 : 3;
    }

    static int score(Best best) {
        return best == null ? 0 : best.measure.score;
    }

    List<Tie> ties() {
        List<Tie> ties = new ArrayList<>();
        for (int a = 0; a < woods.size(); a++) {
            for (int b = a + 1; b < woods.size(); b++) {
                Best best = best(row(woods.get(a)), row(woods.get(b)));
                if (why(best, bound) == 0) {
                    Tie tie = new Tie();
                    tie.a = a;
                    tie.b = b;
                    tie.measure = best.measure;
                    ties.add(tie);
                }
            }
        }
        ties.sort((x, y) -> x.measure.score != y.measure.score ? y.measure.score - x.measure.score
                : x.a != y.a ? x.a - y.a : x.b - y.b);
        List<Tie> ahead = new ArrayList<>();
        for (Tie tie : ties) {
            tie.tied = way(ahead, tie.a, tie.b, new TreeSet<>()) == null;
            if (tie.tied) {
                ahead.add(tie);
            }
        }
        return ties;
    }

    /** How far ring 0 of one timber lies behind that of another, by tied links; null if they aren't joined. */
    static Integer way(List<Tie> ties, int from, int to, TreeSet<Integer> been) {
        if (from == to) {
            return 0;
        }
        been.add(from);
        for (Tie tie : ties) {
            if (tie.tied && (tie.a == from || tie.b == from)) {
                int beyond = tie.a == from ? tie.b : tie.a;
                Integer rest = been.contains(beyond) ? null : way(ties, beyond, to, been);
                if (rest != null) {
                    return rest + (tie.a == from ? tie.measure.by : -tie.measure.by);
                }
            }
        }
        return null;
    }

    int leastOfPiece(int timber) {
        List<Tie> ties = ties();
        int t = 0;
        while (way(ties, t, timber, new TreeSet<>()) == null) {
            t++;
        }
        return t;
    }

    List<Grown> growBy(int by) {
        List<Wood> trial = new ArrayList<>();
        for (Wood w : woods) {
            trial.add(w.copy());
        }
        List<Grown> grown = new ArrayList<>();
        while (true) {
            Grown next = null;
            List<Wood> dated = dated(trial, null);
            List<Spot> chronology = chronology(dated);
            for (int t = 0; t < trial.size(); t++) {
                if (trial.get(t).year != null) {
                    continue;
                }
                Best best = best(chronology, row(trial.get(t)));
                if (why(best, by) == 0) {
                    int year = first(dated) + best.measure.by;
                    if (year >= 0 && year <= 900 && (next == null || best.measure.score > next.score)) {
                        next = new Grown(t, year, best.measure.score);
                    }
                }
            }
            if (next == null) {
                return grown;
            }
            grown.add(next);
            trial.get(next.which).year = next.year;
        }
    }

    // ---- answers

    Wood wood(int timber) {
        if (timber < 0 || timber >= woods.size()) {
            throw new NoSuchElementException();
        }
        return woods.get(timber);
    }

    static void known(int what, int most) {
        if (what < 0 || what > most) {
            throw new NoSuchElementException();
        }
    }

    static int orNone(Integer n) {
        return n == null ? NONE : n;
    }

    static int felled(Wood w, int lost) {
        return w.year + w.rings.size() - 1 + lost;
    }

    static Integer edge(List<Wood> dated) {
        Integer edge = null;
        for (Wood w : dated) {
            edge = edge == null ? felled(w, w.least) : Math.max(edge, felled(w, w.least));
        }
        return edge;
    }

    static Integer latest(List<Wood> dated) {
        Integer latest = null;
        for (Wood w : dated) {
            latest = latest == null ? felled(w, w.most) : Math.min(latest, felled(w, w.most));
        }
        return latest;
    }

    int fit(Wood w) {
        List<Wood> others = dated(woods, w);
        if (others.isEmpty()) {
            return 0;
        }
        Measure m = measure(chronology(others), row(w), w.year - first(others));
        return m.pairs < 1 ? 0 : m.score;
    }

    List<int[]> pointers() {
        List<int[]> pointers = new ArrayList<>();
        for (int year = 0; year <= 930; year++) {
            int up = 0;
            int down = 0;
            int all = 0;
            for (Wood w : woods) {
                if (covers(w, year) && covers(w, year - 1)) {
                    int step = step(row(w), year - w.year);
                    all++;
                    up += step == 1 ? 1 : 0;
                    down += step == -1 ? 1 : 0;
                }
            }
            if (all >= 3 && up * 100 >= 75 * all) {
                pointers.add(new int[] {year, 1});
            } else if (all >= 3 && down * 100 >= 75 * all) {
                pointers.add(new int[] {year, -1});
            }
        }
        return pointers;
    }

    int count(int what) {
        known(what, 21);
        List<Wood> dated = dated(woods, null);
        Integer edge = edge(dated);
        Integer latest = latest(dated);
        boolean built = edge != null && edge <= latest;
        switch (what) {
            case 0: return woods.size();
            case 1: return bound;
            case 2: return lap;
            case 3: return margin;
            case 4: return bits(dated);
            case 5: return orNone(first(dated));
            case 6: return orNone(last(dated));
            case 7: return ties().size();
            case 8: {
                TreeSet<Integer> leasts = new TreeSet<>();
                for (int t = 0; t < woods.size(); t++) {
                    leasts.add(leastOfPiece(t));
                }
                return leasts.size();
            }
            case 9: {
                List<Tie> ties = ties();
                int against = 0;
                for (Tie tie : ties) {
                    if (!tie.tied && way(ties, tie.a, tie.b, new TreeSet<>()) != tie.measure.by) {
                        against++;
                    }
                }
                return against;
            }
            case 10: return built ? edge : NONE;
            case 11: return built ? latest : NONE;
            case 12: return orNone(edge);
            case 13: return pointers().size();
            case 14: {
                Wood odd = null;
                for (Wood w : dated) {
                    odd = odd == null || fit(w) < fit(odd) ? w : odd;
                }
                return odd == null ? NONE : woods.indexOf(odd);
            }
            case 15: return growBy(bound).size();
            case 16: return acts.size();
            case 17: return notes.size();
            case 18: return tape.size();
            default: return status[what - 19];
        }
    }

    int bits(List<Wood> some) {
        int bits = 0;
        for (Wood w : some) {
            bits += 1 << woods.indexOf(w);
        }
        return bits;
    }

    int whyUnsettled(Wood w) {
        List<Wood> dated = dated(woods, w);
        Best best = best(chronology(dated), row(w));
        int why = why(best, bound);
        if (why != 0) {
            return why;
        }
        int year = first(dated) + best.measure.by;
        return year < 0 || year > 900 ? 4 : 0;
    }

    int timber(int timber, int what) {
        Wood w = wood(timber);
        known(what, 12);
        switch (what) {
            case 0: return w.rings.size();
            case 1: return w.least;
            case 2: return w.most;
            case 3: return w.year == null ? 0 : 1;
            case 4: return orNone(w.year);
            case 5: return (int) w.rings.stream().filter(Ring::doubtful).count();
            case 6: return leastOfPiece(timber);
            case 7: return way(ties(), leastOfPiece(timber), timber, new TreeSet<>());
            case 8: return w.year == null ? NONE : felled(w, w.least);
            case 9: return w.year == null ? NONE : felled(w, w.most);
            case 10: return w.year == null ? NONE : fit(w);
            case 11: return w.house;
            default: return w.year != null ? NONE : whyUnsettled(w);
        }
    }

    int house(int house, int what) {
        known(house, 3);
        known(what, 3);
        List<Wood> all = new ArrayList<>();
        for (Wood w : woods) {
            if (w.house == house) {
                all.add(w);
            }
        }
        List<Wood> dated = dated(all, null);
        Integer edge = edge(dated);
        List<Wood> reused = new ArrayList<>();
        List<Wood> rest = new ArrayList<>();
        for (Wood w : dated) {
            (felled(w, w.most) < edge ? reused : rest).add(w);
        }
        switch (what) {
            case 0: return bits(all);
            case 1: return orNone(edge);
            case 2: return orNone(latest(rest));
            default: return bits(reused);
        }
    }

    int ring(int timber, int ring, int what) {
        Wood w = wood(timber);
        known(ring, w.rings.size() - 1);
        known(what, 3);
        if (what == 0) {
            return w.rings.get(ring).width;
        }
        if (what == 1) {
            return w.rings.get(ring).doubtful ? 1 : 0;
        }
        if (what == 3) {
            return rank(row(w), ring);
        }
        Integer step = step(row(w), ring);
        if (step == null) {
            throw new NoSuchElementException();
        }
        return step;
    }

    int index(int year) {
        return orNone(index(dated(woods, null), year));
    }

    int depth(int year) {
        int depth = 0;
        for (Wood w : woods) {
            depth += covers(w, year) ? 1 : 0;
        }
        return depth;
    }

    int pointer(int i, int what) {
        List<int[]> all = pointers();
        known(i, all.size() - 1);
        known(what, 1);
        return all.get(i)[what];
    }

    int slid(int timber, int along, int by, int what) {
        Wood b = wood(timber);
        Wood a = wood(along);
        known(what, 3);
        if (a == b) {
            throw new IllegalArgumentException();
        }
        Measure m = measure(row(a), row(b), by);
        return m.pairs == 0 ? NONE : new int[] {m.score, m.pairs, m.signs, m.ranks}[what];
    }

    int best(int timber, int on, int what) {
        Wood b = wood(timber);
        Wood a = on == NONE ? null : wood(on);
        known(what, 4);
        if (a == b) {
            throw new IllegalArgumentException();
        }
        Best best = best(a == null ? chronology(dated(woods, b)) : row(a), row(b));
        if (what == 4) {
            return why(best, bound);
        }
        if (best == null) {
            return -1000;
        }
        return new int[] {best.measure.by, best.measure.score, best.measure.pairs, orNone(best.other)}[what];
    }

    int link(int i, int what) {
        List<Tie> all = ties();
        known(i, all.size() - 1);
        known(what, 4);
        Tie tie = all.get(i);
        return new int[] {tie.a, tie.b, tie.measure.by, tie.measure.score, tie.tied ? 1 : 0}[what];
    }

    int grown(int i, int what) {
        List<Grown> all = growBy(bound);
        known(i, all.size() - 1);
        known(what, 2);
        Grown g = all.get(i);
        return new int[] {g.which, g.year, g.score}[what];
    }

    int help(int timber, int what) {
        Wood w = wood(timber);
        known(what, 1);
        if (w.year != null) {
            throw new IllegalArgumentException();
        }
        List<Spot> chronology = chronology(dated(woods, null));
        int which = 0;
        int score = score(best(chronology, row(w)));
        for (int k = 100; k < 230; k++) {
            Wood mended = k < 200 ? without(w, k - 100) : withOneMore(w, k - 200);
            if (mended != null && score(best(chronology, row(mended))) > score) {
                which = k;
                score = score(best(chronology, row(mended)));
            }
        }
        return what == 0 ? which : score;
    }

    static Wood without(Wood w, int i) {
        if (i < 0 || i >= w.rings.size() || !w.rings.get(i).doubtful || w.rings.size() <= 3) {
            return null;
        }
        Wood mended = w.copy();
        mended.rings.remove(i);
        return mended;
    }

    static Wood withOneMore(Wood w, int i) {
        if (i < 1 || i >= w.rings.size() || w.rings.size() >= 24) {
            return null;
        }
        Wood mended = w.copy();
        mended.rings.add(i, new Ring(1, true));
        return mended;
    }

    // ---- acts

    void act() {
        List<Wood> copy = new ArrayList<>();
        for (Wood w : woods) {
            copy.add(w.copy());
        }
        acts.add(copy);
        if (acts.size() > 40) {
            acts.remove(0);
        }
    }

    int refused(int which, int answer) {
        status[which]++;
        return answer;
    }

    boolean has(int timber) {
        return timber >= 0 && timber < woods.size();
    }

    int date(int timber, int year) {
        if (!has(timber) || year < -1 || year > 900 || orNone(woods.get(timber).year) == year) {
            return refused(1, -2);
        }
        act();
        int was = orNone(woods.get(timber).year);
        woods.get(timber).year = year == NONE ? null : Integer.valueOf(year);
        return was;
    }

    int settle(int timber) {
        if (!has(timber) || woods.get(timber).year != null || whyUnsettled(woods.get(timber)) != 0) {
            return refused(1, NONE);
        }
        act();
        Wood w = woods.get(timber);
        List<Wood> dated = dated(woods, w);
        w.year = first(dated) + best(chronology(dated), row(w)).measure.by;
        return w.year;
    }

    int grow() {
        List<Grown> all = growBy(bound);
        if (all.isEmpty()) {
            return refused(1, NONE);
        }
        act();
        for (Grown g : all) {
            woods.get(g.which).year = g.year;
        }
        return all.size();
    }

    int mend(int timber, int i, boolean more) {
        Wood mended = !has(timber) || woods.get(timber).year != null ? null
                : more ? withOneMore(woods.get(timber), i) : without(woods.get(timber), i);
        if (mended == null) {
            return refused(1, NONE);
        }
        act();
        woods.set(timber, mended);
        return mended.rings.size();
    }

    int doubt(int timber, int ring) {
        if (!has(timber) || ring < 0 || ring >= woods.get(timber).rings.size()) {
            return refused(1, NONE);
        }
        act();
        List<Ring> rings = woods.get(timber).rings;
        rings.set(ring, new Ring(rings.get(ring).width, !rings.get(ring).doubtful));
        return rings.get(ring).doubtful ? 1 : 0;
    }

    int move(int timber, int house) {
        if (!has(timber) || house < 0 || house > 3 || woods.get(timber).house == house) {
            return refused(1, NONE);
        }
        act();
        int was = woods.get(timber).house;
        woods.get(timber).house = house;
        return was;
    }

    int undo() {
        if (acts.isEmpty()) {
            return NONE;
        }
        woods = acts.remove(acts.size() - 1);
        return acts.size();
    }

    // ---- notes

    int note(int timber, int year) {
        if (notes.size() == 8 || !has(timber) || year < -1 || year > 900) {
            return refused(2, NONE);
        }
        notes.add(new int[] {timber, year});
        return notes.size();
    }

    /** Of each bound that fits the years that all would have by it. */
    List<int[]> fitting() {
        List<int[]> fitting = new ArrayList<>();
        for (int by = 50; by <= 100; by++) {
            int[] years = new int[9];
            years[8] = by;
            for (int t = 0; t < woods.size(); t++) {
                years[t] = orNone(woods.get(t).year);
            }
            for (Grown g : growBy(by)) {
                years[g.which] = g.year;
            }
            boolean so = true;
            for (int[] note : notes) {
                so &= years[note[0]] == note[1];
            }
            if (so) {
                fitting.add(years);
            }
        }
        return fitting;
    }

    int fits(int what) {
        known(what, 1);
        List<int[]> fitting = fitting();
        return what == 0 ? fitting.size() : fitting.isEmpty() ? NONE : fitting.get(0)[8];
    }

    int look(int what) {
        known(what, 1);
        int which = NONE;
        int most = 0;
        List<int[]> fitting = fitting();
        for (int t = 0; t < woods.size(); t++) {
            TreeSet<Integer> years = new TreeSet<>();
            for (int[] all : fitting) {
                years.add(all[t]);
            }
            if (years.size() > most) {
                which = t;
                most = years.size();
            }
        }
        return what == 0 ? which : most;
    }

    void forget() {
        notes.clear();
    }

    int chance(int timber, int seed, int n, int what) {
        Wood w = wood(timber);
        known(what, 2);
        if (n < 0 || n > 40) {
            throw new IllegalArgumentException();
        }
        List<Spot> chronology = chronology(dated(woods, null));
        int own = score(best(chronology, row(w)));
        int[] answer = new int[3];
        long s = seed;
        for (int k = 0; k < n; k++) {
            List<Spot> drawn = new ArrayList<>();
            for (int r = 0; r < w.rings.size(); r++) {
                s = (s * 1103515245L + 12345L) & 0xffffffffL;
                drawn.add(new Spot((int) ((s >> 16) % 32768 % 99) + 1, false));
            }
            int score = score(best(chronology, drawn));
            answer[0] += score >= own ? 1 : 0;
            answer[1] = Math.max(answer[1], score);
            answer[2] += score;
        }
        return answer[what];
    }

    int told(int timber, int i) {
        Wood w = wood(timber);
        StringBuilder text = new StringBuilder("timber " + w.least + " " + w.most);
        for (Ring r : w.rings) {
            text.append(" " + r.width + (r.doubtful ? "?" : ""));
        }
        text.append(";");
        if (i == NONE) {
            return text.length();
        }
        known(i, text.length() - 1);
        return text.charAt(i);
    }

    // ---- the image

    static Kept keep(List<Wood> woods, List<List<Wood>> acts, List<int[]> notes, int[] status) {
        List<List<Wood>> states = new ArrayList<>(acts);
        states.add(woods);
        List<List<Wood>> copies = new ArrayList<>();
        for (List<Wood> state : states) {
            List<Wood> copy = new ArrayList<>();
            for (Wood w : state) {
                copy.add(w.copy());
            }
            copies.add(copy);
        }
        List<Wood> now = copies.remove(copies.size() - 1);
        return new Kept(now, copies, new ArrayList<>(notes), status.clone());
    }

    void image() {
        kept = keep(woods, acts, notes, status);
    }

    boolean restore() {
        if (kept == null) {
            return false;
        }
        Kept back = keep(kept.woods, kept.acts, kept.notes, kept.status);
        woods = back.woods;
        acts = back.acts;
        notes = back.notes;
        status = back.status;
        return true;
    }
}
