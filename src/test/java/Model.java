import java.util.ArrayList;
import java.util.Arrays;
import java.util.Collections;
import java.util.Comparator;
import java.util.List;
import java.util.TreeMap;
import java.util.TreeSet;

/**
 * The document said again in the plainest way, for ModelTest: nothing is kept that can be worked out, sets and
 * orders are tried one by one. It knows nothing of how HerdBooks does it.
 */
final class Model {
    private static final int NONE = -1;
    private static final int ALL = 1000;

    private List<Boolean> wells = new ArrayList<>();
    private TreeMap<Integer, Integer> ways = new TreeMap<>();
    private List<int[]> camps = new ArrayList<>();
    private List<int[]> grass = new ArrayList<>();
    private TreeSet<Integer> dry = new TreeSet<>();
    private int week = 0;
    private int view = NONE;
    private List<int[]> news = new ArrayList<>();
    private List<int[]> books = new ArrayList<>();
    private List<int[]> acts = new ArrayList<>();
    private String tape = "";
    private List<Line> lines = new ArrayList<>();
    private int fault = 0;
    private int place = NONE;
    private TreeMap<Integer, Integer> wishes = new TreeMap<>();
    private List<Integer> readers = new ArrayList<>();
    private TreeSet<Integer> reads = new TreeSet<>();
    private final Model[] images = new Model[3];

    private static final class Line {
        final List<String[]> tests = new ArrayList<>();
        String deed;
        int number;
    }

    private static boolean in(int n, int a, int b) {
        return a <= n && n <= b;
    }

    private boolean isCell(int c) {
        return in(c, 0, wells.size() - 1);
    }

    private boolean isCamp(int c) {
        return in(c, 0, camps.size() - 1);
    }

    private boolean isBook(int b) {
        return in(b, 0, books.size() - 1);
    }

    private int limit() {
        return view == NONE ? ALL : view;
    }

    int cell(boolean well) {
        if (wells.size() == 10) {
            return NONE;
        }
        wells.add(well);
        return wells.size() - 1;
    }

    boolean way(int a, int b, int days) {
        if (!isCell(a) || !isCell(b) || a == b || !in(days, 1, 9)) {
            return false;
        }
        ways.put(a * 10 + b, days);
        ways.put(b * 10 + a, days);
        return true;
    }

    int camp(int cell, int tongue) {
        if (camps.size() == 6 || !isCell(cell) || !in(tongue, 0, 3)) {
            return NONE;
        }
        camps.add(new int[] {cell, tongue, week});
        return camps.size() - 1;
    }

    boolean grass(int cell, int w, int g) {
        if (!isCell(cell) || !in(w, 0, 99) || !in(g, 0, 99) || grass.size() == 60) {
            return false;
        }
        grass.add(new int[] {cell, w, g, week});
        return true;
    }

    boolean dry(int w, boolean is) {
        if (!in(w, 0, 99)) {
            return false;
        }
        return is ? dry.add(w) : dry.remove(w);
    }

    boolean week(int w) {
        if (!in(w, week, 99)) {
            return false;
        }
        week = w;
        return true;
    }

    boolean view(int w) {
        if (!in(w, NONE, week)) {
            return false;
        }
        view = w;
        return true;
    }

    int news(int camp, int cell, int w, boolean seen) {
        if (news.size() == 60 || !isCamp(camp) || !isCell(cell) || !in(w, camps.get(camp)[2], week)) {
            return NONE;
        }
        news.add(new int[] {camp, cell, w, seen ? 1 : 0, week});
        return news.size() - 1;
    }

    private int grassIn(int cell, int w, int limit) {
        int[] best = null;
        for (int[] g : grass) {
            if (g[0] == cell && g[1] <= w && g[3] <= limit && (best == null || g[1] >= best[1])) {
                best = g;
            }
        }
        return best == null ? 1 : best[2];
    }

    /** Shares whole by weights, what is left by the greatest rests. */
    private static long[] share(long whole, long[] weights) {
        long all = Arrays.stream(weights).sum();
        long[] got = new long[weights.length];
        List<Integer> order = new ArrayList<>();
        long left = whole;
        for (int c = 0; c < weights.length; c++) {
            got[c] = whole * weights[c] / all;
            left -= got[c];
            order.add(c);
        }
        order.sort(Comparator.comparingLong((Integer c) -> -(whole * weights[c] % all)).thenComparing(c -> c));
        for (int i = 0; i < left; i++) {
            got[order.get(i)]++;
        }
        return got;
    }

    private long[] partsIn(int camp, int upTo, int limit, List<Integer> quarrels) {
        int n = wells.size();
        long[] p = new long[n];
        p[camps.get(camp)[0]] = 1000000;
        for (int w = camps.get(camp)[2]; w <= upTo; w++) {
            if (w > camps.get(camp)[2]) {
                long[] q = new long[n];
                for (int c = 0; c < n; c++) {
                    long[] weights = new long[n];
                    for (int d = 0; d < n; d++) {
                        weights[d] = d == c || ways.containsKey(c * 10 + d) ? grassIn(d, w, limit) : 0;
                    }
                    if (Arrays.stream(weights).sum() == 0) {
                        q[c] += p[c];
                    } else {
                        long[] got = share(p[c], weights);
                        for (int d = 0; d < n; d++) {
                            q[d] += got[d];
                        }
                    }
                }
                p = q;
            }
            for (int i = 0; i < news.size(); i++) {
                int[] t = news.get(i);
                if (t[0] != camp || t[2] != w || t[4] > limit) {
                    continue;
                }
                if (p[t[1]] == (t[3] == 1 ? 0 : 1000000)) {
                    quarrels.add(i);
                } else if (t[3] == 1) {
                    p = new long[n];
                    p[t[1]] = 1000000;
                } else {
                    p[t[1]] = 0;
                    p = share(1000000, p);
                }
            }
        }
        return p;
    }

    private boolean isThere(int camp, int w) {
        return isCamp(camp) && in(w, camps.get(camp)[2], 99);
    }

    int parts(int camp, int cell, int w) {
        if (!isThere(camp, w) || !isCell(cell)) {
            return NONE;
        }
        return (int) partsIn(camp, w, limit(), new ArrayList<>())[cell];
    }

    private int likeliestIn(int camp, int w, int limit) {
        long[] p = partsIn(camp, w, limit, new ArrayList<>());
        int best = 0;
        for (int c = 0; c < p.length; c++) {
            best = p[c] > p[best] ? c : best;
        }
        return best;
    }

    int likeliest(int camp, int w) {
        return isThere(camp, w) ? likeliestIn(camp, w, limit()) : NONE;
    }

    int quarrel(int camp, int k) {
        if (!isCamp(camp)) {
            return NONE;
        }
        List<Integer> quarrels = new ArrayList<>();
        partsIn(camp, 99, limit(), quarrels);
        return in(k, 0, quarrels.size() - 1) ? quarrels.get(k) : NONE;
    }

    int book(int kind, int tongue, int level, int pages, int grams) {
        if (books.size() == 24 || !in(kind, 0, 7) || !in(tongue, 0, 3) || !in(level, 0, 9) || !in(pages, 1, 400)
                || !in(grams, 1, 2000)) {
            return NONE;
        }
        books.add(new int[] {kind, tongue, level, pages, grams});
        return books.size() - 1;
    }

    /** ACTS of a BOOK that are not TORN, by WEEKS, of one WEEK as told. */
    private List<int[]> moves(int book, int limit) {
        List<int[]> found = new ArrayList<>();
        for (int[] a : acts) {
            if (a[0] == book && a[1] != 3 && a[4] <= limit) {
                found.add(a);
            }
        }
        found.sort(Comparator.comparingInt(a -> a[3]));
        return found;
    }

    private int whoHas(int book, int w, int limit) {
        int who = NONE;
        for (int[] a : moves(book, limit)) {
            if (a[3] <= w) {
                who = a[2];
            }
        }
        return who;
    }

    private int dueOf(int book, int w, int limit) {
        int[] lent = null;
        for (int[] a : moves(book, limit)) {
            if (a[3] <= w && a[1] == 0) {
                lent = a;
            }
        }
        List<Integer> wet = new ArrayList<>();
        for (int i = lent[3] + 1; i < 100; i++) {
            if (!dry.contains(i)) {
                wet.add(i);
            }
        }
        return wet.size() < lent[5] ? 100 : wet.get(lent[5] - 1);
    }

    private int torn(int book, int camp, int w, int limit, boolean cost) {
        int sum = 0;
        for (int[] a : acts) {
            if (a[1] == 3 && (book == NONE || a[0] == book) && (camp == NONE || a[2] == camp) && a[3] <= w
                    && a[4] <= limit) {
                sum += a[5] * (cost ? a[6] : 1);
            }
        }
        return sum;
    }

    private int held(int camp, int w, int limit, boolean late) {
        int n = 0;
        for (int b = 0; b < books.size(); b++) {
            if (whoHas(b, w, limit) == camp && (!late || w > dueOf(b, w, limit))) {
                n++;
            }
        }
        return n;
    }

    private int factOf(String name, int camp, int book, int w, int limit) {
        switch (name) {
            case "tongue": return books.get(book)[1] == camps.get(camp)[1] ? 1 : 0;
            case "dry": return dry.contains(w) ? 1 : 0;
            case "well": return isThere(camp, w) && wells.get(likeliestIn(camp, w, limit)) ? 1 : 0;
            case "held": return held(camp, w, limit, false);
            case "late": return held(camp, w, limit, true);
            case "kind": return books.get(book)[0];
            case "level": return books.get(book)[2];
            case "left": return books.get(book)[3] - torn(book, NONE, w, limit, false);
            case "torn": return torn(NONE, camp, w, limit, false);
            case "week": return w;
            default: throw new IllegalStateException(name);
        }
    }

    private int firstLine(String deed, int camp, int book, int w, int limit) {
        for (int i = 0; i < lines.size(); i++) {
            boolean all = lines.get(i).deed.equals(deed);
            for (String[] t : lines.get(i).tests) {
                int fact = factOf(t[1], camp, book, w, limit);
                int bound = t[3] == null ? 1 : Integer.parseInt(t[3]);
                String sign = t[2] == null ? "=" : t[2];
                boolean holds = sign.equals("<") ? fact < bound : sign.equals(">") ? fact > bound : fact == bound;
                all &= holds == (t[0] == null);
            }
            if (all) {
                return i;
            }
        }
        return NONE;
    }

    private int numberBy(String deed, int without, int[] of, int limit) {
        int line = firstLine(deed, of[0], of[1], of[2], limit);
        return line == NONE ? without : lines.get(line).number;
    }

    private int tell(int... act) {
        if (acts.size() == 150) {
            return NONE;
        }
        acts.add(act);
        return acts.size() - 1;
    }

    int lend(int book, int camp) {
        if (!isBook(book) || !isCamp(camp) || whoHas(book, week, ALL) != NONE
                || firstLine("bar", camp, book, week, ALL) != NONE) {
            return NONE;
        }
        return tell(book, 0, camp, week, week, numberBy("weeks", 4, new int[] {camp, book, week}, ALL), 0);
    }

    int pass(int book, int camp, int w) {
        if (!isBook(book) || !isCamp(camp) || !in(w, 0, week)) {
            return NONE;
        }
        int who = whoHas(book, w, ALL);
        return who == NONE || who == camp ? NONE : tell(book, 1, camp, w, week, 0, 0);
    }

    int back(int book) {
        return !isBook(book) || whoHas(book, week, ALL) == NONE ? NONE : tell(book, 2, NONE, week, week, 0, 0);
    }

    int tear(int book, int pages, int w) {
        if (!isBook(book) || !in(w, 0, week) || whoHas(book, w, ALL) == NONE || pages < 1
                || pages > books.get(book)[3] - torn(book, NONE, 99, ALL, false)) {
            return NONE;
        }
        int camp = whoHas(book, w, ALL);
        return tell(book, 3, camp, w, week, pages, numberBy("cost", 0, new int[] {camp, book, w}, ALL));
    }

    int act(int k, int what) {
        return in(k, 0, acts.size() - 1) && in(what, 0, 6) ? acts.get(k)[what] : -2;
    }

    int who(int book, int w) {
        return isBook(book) && in(w, 0, 99) ? whoHas(book, w, limit()) : -2;
    }

    int had(int book, int k) {
        List<Integer> row = new ArrayList<>();
        for (int[] a : moves(book, limit())) {
            if (a[1] != 2) {
                row.add(a[2]);
            }
        }
        return in(k, 0, row.size() - 1) ? row.get(k) : NONE;
    }

    int due(int book, int w) {
        return who(book, w) < 0 ? NONE : dueOf(book, w, limit());
    }

    int owes(int camp, int w, int what) {
        if (!isCamp(camp) || !in(w, 0, 99) || !in(what, 0, 3)) {
            return NONE;
        }
        return what < 2 ? held(camp, w, limit(), what == 1) : torn(NONE, camp, w, limit(), what == 3);
    }

    int feed(int... five) {
        if (tape.length() + 20 > 500) {
            return NONE;
        }
        for (int n : five) {
            tape += "" + (char) (n >>> 24) + (char) (n >>> 16 & 255) + (char) (n >>> 8 & 255) + (char) (n & 255);
        }
        return tape.length();
    }

    int end(int n) {
        if (!in(n, 0, tape.length())) {
            return NONE;
        }
        tape = tape.substring(0, n);
        return n;
    }

    /** Thrown at the place of FAULT 1. */
    private static final class Broken extends RuntimeException {
        private static final long serialVersionUID = 1L;
        final int at;

        Broken(int at) {
            this.at = at;
        }
    }

    /** TOKENS of a text, with their places; what is no token is "?". */
    private static final class Reader {
        final List<String> tokens = new ArrayList<>();
        final List<Integer> places = new ArrayList<>();
        int i = 0;

        Reader(String text) {
            java.util.regex.Matcher m =
                java.util.regex.Pattern.compile("[a-z]+|[0-9]+|[:;<>=]|[^ \n]").matcher(text);
            while (m.find()) {
                String t = m.group();
                boolean token = t.matches("[a-z]+|[0-9]{1,4}|[:;<>=]");
                tokens.add(token ? t : "?");
                places.add(m.start());
            }
            tokens.add("");
            places.add(text.length());
        }

        boolean is(String... wanted) {
            return Arrays.asList(wanted).contains(tokens.get(i));
        }

        boolean skip(String wanted) {
            if (is(wanted)) {
                i++;
                return true;
            }
            return false;
        }

        String take(String... wanted) {
            if (!is(wanted)) {
                throw new Broken(places.get(i));
            }
            return tokens.get(i++);
        }

        int number() {
            if (!tokens.get(i).matches("[0-9]+")) {
                throw new Broken(places.get(i));
            }
            return Integer.parseInt(tokens.get(i++));
        }
    }

    private static Line readLine(Reader r, List<int[]> faults, int number) {
        Line line = new Line();
        if (number > 16) {
            faults.add(new int[] {3, r.places.get(r.i)});
        }
        if (r.skip("if")) {
            do {
                String[] test = new String[4];
                if (line.tests.size() == 4) {
                    faults.add(new int[] {3, r.places.get(r.i)});
                }
                test[0] = r.skip("not") ? "not" : null;
                if (r.is("tongue", "dry", "well")) {
                    test[1] = r.take("tongue", "dry", "well");
                } else {
                    test[1] = r.take("held", "late", "kind", "level", "left", "torn", "week");
                    test[2] = r.take("<", ">", "=");
                    test[3] = "" + r.number();
                }
                line.tests.add(test);
            } while (r.skip("and"));
            r.take(":");
        }
        line.deed = r.take("bar", "weeks", "cost");
        if (!line.deed.equals("bar")) {
            int at = r.places.get(r.i);
            line.number = r.number();
            if (line.deed.equals("weeks") && !in(line.number, 1, 99)) {
                faults.add(new int[] {2, at});
            }
        }
        r.take(";");
        return line;
    }

    int rules() {
        Reader r = new Reader(tape);
        tape = "";
        fault = 0;
        place = NONE;
        List<Line> found = new ArrayList<>();
        List<int[]> faults = new ArrayList<>();
        try {
            while (!r.is("")) {
                found.add(readLine(r, faults, found.size() + 1));
            }
        } catch (Broken b) {
            fault = 1;
            place = b.at;
            return NONE;
        }
        if (!faults.isEmpty()) {
            int[] first = Collections.min(faults, Comparator.comparingInt(f -> f[1]));
            fault = first[0];
            place = first[1];
            return NONE;
        }
        lines = found;
        return lines.size();
    }

    int fault(int what) {
        return what == 0 ? fault : what == 1 ? place : NONE;
    }

    int rule(int camp, int book, int w, int what) {
        if (!isThere(camp, w) || !isBook(book) || !in(what, 0, 2)) {
            return -2;
        }
        int[] of = {camp, book, w};
        return what == 0 ? firstLine("bar", camp, book, w, limit())
            : what == 1 ? numberBy("weeks", 4, of, limit()) : numberBy("cost", 0, of, limit());
    }

    private long[] sums(int from, int to) {
        long[] sums = new long[wells.size()];
        for (int camp = 0; camp < camps.size(); camp++) {
            for (int w = from; w <= to; w++) {
                if (isThere(camp, w)) {
                    long[] p = partsIn(camp, w, limit(), new ArrayList<>());
                    for (int c = 0; c < p.length; c++) {
                        sums[c] += p[c];
                    }
                }
            }
        }
        return sums;
    }

    /** Fewest days by growing a way CELL by CELL. */
    private int fewest(int a, int b) {
        TreeMap<Integer, Integer> days = new TreeMap<>();
        days.put(a, 0);
        for (int i = 0; i < 10; i++) {
            for (int key : ways.keySet()) {
                Integer from = days.get(key / 10);
                if (from != null) {
                    days.merge(key % 10, from + ways.get(key), Math::min);
                }
            }
        }
        return days.getOrDefault(b, 10000);
    }

    /** Every row of CELLS with WELLS that can be walked in so many days, the best one kept. */
    private static final class Walker {
        long[] sums;
        int[][] days;
        List<Integer> cells = new ArrayList<>();
        int most;
        List<Integer> row = new ArrayList<>();
        List<Integer> best = null;
        long bestMeets = -1;
        int bestDays = 0;
        int bestSet = 0;

        void walk(int at, int gone, int set, long meets) {
            int all = gone + days[at][0];
            if (all <= most) {
                boolean better = meets > bestMeets || meets == bestMeets && (all < bestDays
                    || all == bestDays && (set < bestSet || set == bestSet && less(row, best)));
                if (better) {
                    best = new ArrayList<>(row);
                    bestMeets = meets;
                    bestDays = all;
                    bestSet = set;
                }
            }
            for (int c : cells) {
                if ((set >> c & 1) == 0 && gone + days[at][c] <= most) {
                    row.add(c);
                    walk(c, gone + days[at][c], set | 1 << c, meets + sums[c]);
                    row.remove(row.size() - 1);
                }
            }
        }

        private static boolean less(List<Integer> a, List<Integer> b) {
            for (int i = 0; i < a.size(); i++) {
                if (!a.get(i).equals(b.get(i))) {
                    return a.get(i) < b.get(i);
                }
            }
            return false;
        }
    }

    private Walker walkRound(int w, int days) {
        if (!in(w, 0, 99) || !in(days, 1, 60) || wells.isEmpty()) {
            return null;
        }
        Walker walker = new Walker();
        walker.sums = sums(w, w);
        walker.most = days;
        walker.days = new int[10][10];
        for (int a = 0; a < wells.size(); a++) {
            for (int b = 0; b < wells.size(); b++) {
                walker.days[a][b] = fewest(a, b);
            }
            if (a > 0 && wells.get(a)) {
                walker.cells.add(a);
            }
        }
        walker.walk(0, 0, 0, wells.get(0) ? walker.sums[0] : 0);
        return walker;
    }

    int round(int w, int days, int what) {
        Walker best = walkRound(w, days);
        if (best == null || !in(what, 0, 2)) {
            return NONE;
        }
        return what == 0 ? (int) best.bestMeets : what == 1 ? best.bestDays : best.bestSet;
    }

    int stop(int w, int days, int i) {
        Walker best = walkRound(w, days);
        return best != null && in(i, 0, best.best.size() - 1) ? best.best.get(i) : NONE;
    }

    boolean wish(int camp, int kind, int wish) {
        if (!isCamp(camp) || !in(kind, 0, 7) || !in(wish, 0, 99)) {
            return false;
        }
        wishes.put(camp * 10 + kind, wish);
        return true;
    }

    int load(int camp, int grams, int what) {
        if (!isCamp(camp) || !in(grams, 1, 20000) || !in(what, 0, 2)) {
            return NONE;
        }
        List<Integer> fit = new ArrayList<>();
        for (int b = 0; b < books.size(); b++) {
            boolean had = false;
            for (int[] a : moves(b, limit())) {
                had |= a[2] == camp;
            }
            if (!had && whoHas(b, week, limit()) == NONE && books.get(b)[1] == camps.get(camp)[1]
                    && firstLine("bar", camp, b, week, limit()) == NONE) {
                fit.add(b);
            }
        }
        int[] best = {0, 0, 0};
        for (int s = 0; s < 1 << fit.size(); s++) {
            int[] got = {0, 0, 0};
            boolean[] kinds = new boolean[8];
            boolean twice = false;
            for (int i = 0; i < fit.size(); i++) {
                if ((s >> i & 1) == 1) {
                    int[] b = books.get(fit.get(i));
                    twice |= kinds[b[0]];
                    kinds[b[0]] = true;
                    got[0] += wishes.getOrDefault(camp * 10 + b[0], 0);
                    got[1] += b[4];
                    got[2] |= 1 << fit.get(i);
                }
            }
            boolean better = got[0] > best[0] || got[0] == best[0] && (got[1] < best[1]
                || got[1] == best[1] && got[2] < best[2]);
            if (!twice && got[1] <= grams && better) {
                best = got;
            }
        }
        return best[what];
    }

    int reader(int camp) {
        if (readers.size() == 12 || !isCamp(camp)) {
            return NONE;
        }
        readers.add(camp);
        return readers.size() - 1;
    }

    boolean read(int reader, int book) {
        return in(reader, 0, readers.size() - 1) && isBook(book) && reads.add(reader * 100 + book);
    }

    private int levelOf(int reader) {
        int best = 0;
        for (int level = 0; level < 10; level++) {
            int n = 0;
            for (int b = 0; b < books.size(); b++) {
                if (reads.contains(reader * 100 + b) && books.get(b)[2] >= level) {
                    n++;
                }
            }
            best = n >= level ? level : best;
        }
        return best;
    }

    int learns(int reader, int what) {
        if (!in(reader, 0, readers.size() - 1) || !in(what, 0, 3)) {
            return -2;
        }
        int bits = 0;
        int next = NONE;
        int wanted = levelOf(reader) + 1;
        for (int b = books.size() - 1; b >= 0; b--) {
            if (reads.contains(reader * 100 + b)) {
                bits |= 1 << b;
            } else if (books.get(b)[1] == camps.get(readers.get(reader))[1] && whoHas(b, week, limit()) == NONE
                    && (next == NONE
                    || Math.abs(books.get(b)[2] - wanted) <= Math.abs(books.get(next)[2] - wanted))) {
                next = b;
            }
        }
        return new int[] {readers.get(reader), wanted - 1, bits, next}[what];
    }

    int giver(int kind) {
        if (!in(kind, 0, 7)) {
            return NONE;
        }
        int[] n = new int[8];
        for (int k = 0; k < 8; k++) {
            TreeSet<Integer> who = new TreeSet<>();
            for (int r : reads) {
                if (books.get(r % 100)[0] == k) {
                    who.add(r / 100);
                }
            }
            n[k] = who.size();
        }
        TreeSet<Integer> hidden = new TreeSet<>();
        for (int k = 0; k < 8; k++) {
            if (in(n[k], 1, 2)) {
                hidden.add(k);
            }
        }
        if (hidden.size() == 1) {
            int least = NONE;
            for (int k = 0; k < 8; k++) {
                if (n[k] > 0 && !hidden.contains(k) && (least == NONE || n[k] < n[least])) {
                    least = k;
                }
            }
            hidden.add(least);
        }
        return hidden.contains(kind) ? -3 : n[kind];
    }

    int house(int a, int b, int what) {
        if (!in(a, 0, 99) || !in(b, a, 99) || wells.isEmpty() || !in(what, 0, 1)) {
            return NONE;
        }
        long[] sums = sums(a, b);
        int best = 0;
        for (int c = 0; c < sums.length; c++) {
            best = sums[c] > sums[best] ? c : best;
        }
        return what == 0 ? best : (int) sums[best];
    }

    int count(int what) {
        int out = 0;
        for (int b = 0; b < books.size(); b++) {
            out += whoHas(b, week, limit()) == NONE ? 0 : 1;
        }
        int newsThen = (int) news.stream().filter(n -> n[4] <= limit()).count();
        int actsThen = (int) acts.stream().filter(a -> a[4] <= limit()).count();
        int[] all = {wells.size(), camps.size(), books.size(), news.size(), acts.size(), readers.size(), week, view,
            lines.size(), out, newsThen, actsThen};
        return in(what, 0, 11) ? all[what] : -2;
    }

    /** Rows that are in a list are never changed, so that the lists alone are copied. */
    private void take(Model o) {
        wells = new ArrayList<>(o.wells);
        ways = new TreeMap<>(o.ways);
        camps = new ArrayList<>(o.camps);
        grass = new ArrayList<>(o.grass);
        dry = new TreeSet<>(o.dry);
        week = o.week;
        view = o.view;
        news = new ArrayList<>(o.news);
        books = new ArrayList<>(o.books);
        acts = new ArrayList<>(o.acts);
        tape = o.tape;
        lines = o.lines;
        fault = o.fault;
        place = o.place;
        wishes = new TreeMap<>(o.wishes);
        readers = new ArrayList<>(o.readers);
        reads = new TreeSet<>(o.reads);
    }

    boolean image(int k) {
        if (!in(k, 0, 2)) {
            return false;
        }
        images[k] = new Model();
        images[k].take(this);
        return true;
    }

    boolean again(int k) {
        if (!in(k, 0, 2) || images[k] == null) {
            return false;
        }
        take(images[k]);
        return true;
    }
}
