import java.util.Arrays;

/** Books that follow the herds; DOC.md tells what each call promises. */
public final class HerdBooks {
    public static final int NONE = -1;

    private static final int NO_SUCH = -2;
    private static final int HIDDEN = -3;

    private static final int WEEKS = 100;
    private static final int LAST_WEEK = 99;
    /** A limit on when things were told: nothing is told behind the last WEEK, so this one lets all through. */
    private static final int NOW = LAST_WEEK;

    private static final int MAX_CELLS = 10;
    private static final int MAX_CAMPS = 6;
    private static final int MAX_GRASS = 60;
    private static final int MAX_NEWS = 60;
    private static final int MAX_BOOKS = 24;
    private static final int MAX_ACTS = 150;
    private static final int MAX_READERS = 12;
    private static final int MAX_TAPE = 500;
    private static final int FED_BYTES = 20;
    private static final int MAX_LINES = 16;
    private static final int MAX_TESTS = 4;
    private static final int IMAGES = 3;

    private static final int TONGUES = 4;
    private static final int KINDS = 8;
    private static final int LEVELS = 10;
    private static final int MAX_PAGES = 400;
    private static final int MAX_GRAMS = 2000;
    private static final int MAX_LOAD = 20000;
    private static final int MAX_DAYS = 60;
    private static final int MAX_WAY = 9;
    private static final int MILLION = 1000000;

    private static final int LENT = 0;
    private static final int PASSED = 1;
    private static final int BACK = 2;
    private static final int TORN = 3;

    private static final int BAR_LINE = 0;
    private static final int WEEKS_LINE = 1;
    private static final int COST_LINE = 2;
    private static final int WEEKS_WITHOUT = 4;

    private static final int FACT_TONGUE = 0;
    private static final int FACT_DRY = 1;
    private static final int FACT_WELL = 2;
    private static final int FACT_HELD = 3;
    private static final int FACT_LATE = 4;
    private static final int FACT_KIND = 5;
    private static final int FACT_LEVEL = 6;
    private static final int FACT_LEFT = 7;
    private static final int FACT_TORN = 8;
    private static final int FACT_WEEK = 9;
    private static final int FACTS = 10;

    private static final int NO_TEXT = 1;
    private static final int BAD_WEEKS = 2;
    private static final int TOO_MANY = 3;

    private final Told told = new Told();
    private final Told[] images = new Told[IMAGES];
    private final Where whereNow = new Where(NOW);
    private final Where whereThen = new Where(NONE);
    private final Walks walks = new Walks();
    private final Parser parser = new Parser();
    private final Box box = new Box();
    private final int[] facts = new int[FACTS];
    private final int[] sums = new int[MAX_CELLS];

    public HerdBooks() {
    }

    // ---- the land and the camps ----

    public int cell(boolean well) {
        int cell = told.land.addCell(well);
        forgetWays();
        return cell;
    }

    public boolean way(int a, int b, int days) {
        Land land = told.land;
        if (!land.hasCell(a) || !land.hasCell(b) || a == b || !isIn(days, 1, MAX_WAY)) {
            return false;
        }
        land.setWay(a, b, days);
        forgetWays();
        return true;
    }

    public int camp(int cell, int tongue) {
        if (!told.land.hasCell(cell) || !isIn(tongue, 0, TONGUES - 1)) {
            return NONE;
        }
        forgetParts();
        return told.herds.addCamp(cell, tongue, told.week);
    }

    public boolean grass(int cell, int week, int grass) {
        if (!told.land.hasCell(cell) || !isWeek(week) || !isIn(grass, 0, 99)) {
            return false;
        }
        forgetParts();
        return told.land.addGrass(cell, week, grass, told.week);
    }

    public boolean dry(int week, boolean is) {
        int mark = is ? 1 : 0;
        if (!isWeek(week) || told.land.dry[week] == mark) {
            return false;
        }
        told.land.dry[week] = mark;
        return true;
    }

    public boolean week(int week) {
        if (week < told.week || week > LAST_WEEK) {
            return false;
        }
        told.week = week;
        return true;
    }

    public boolean view(int week) {
        if (week != NONE && !isPast(week)) {
            return false;
        }
        told.view = week;
        return true;
    }

    public int news(int camp, int cell, int week, boolean seen) {
        Herds herds = told.herds;
        if (!herds.hasCamp(camp) || !told.land.hasCell(cell) || !isPast(week) || week < herds.firstWeeks[camp]) {
            return NONE;
        }
        forgetParts();
        return herds.addNews(camp, cell, week, seen, told.week);
    }

    public int parts(int camp, int cell, int week) {
        if (!isThere(camp, week) || !told.land.hasCell(cell)) {
            return NONE;
        }
        Where where = whereBy(limit());
        where.reach(told, camp, week);
        return where.partsAt(camp, cell, week);
    }

    public int likeliest(int camp, int week) {
        return isThere(camp, week) ? whereBy(limit()).likeliestOf(told, camp, week) : NONE;
    }

    public int quarrel(int camp, int k) {
        return told.herds.hasCamp(camp) ? whereBy(limit()).quarrelOf(told, camp, k) : NONE;
    }

    // ---- the books and the acts ----

    public int book(int kind, int tongue, int level, int pages, int grams) {
        if (!isIn(kind, 0, KINDS - 1) || !isIn(tongue, 0, TONGUES - 1) || !isIn(level, 0, LEVELS - 1)
                || !isIn(pages, 1, MAX_PAGES) || !isIn(grams, 1, MAX_GRAMS)) {
            return NONE;
        }
        return told.shelf.addBook(kind, tongue, level, pages, grams);
    }

    public int lend(int book, int camp) {
        Shelf shelf = told.shelf;
        int week = told.week;
        if (!shelf.hasRoom() || !shelf.hasBook(book) || !told.herds.hasCamp(camp)
                || shelf.holder(book, week, NOW) != NONE) {
            return NONE;
        }
        gatherCamp(camp, week, NOW);
        gatherBook(camp, book, week, NOW);
        if (told.rules.firstThatHolds(BAR_LINE, facts) != NONE) {
            return NONE;
        }
        int length = told.rules.numberBy(WEEKS_LINE, facts, WEEKS_WITHOUT);
        return shelf.addAct(book, LENT, camp, week, week, length, 0);
    }

    public int pass(int book, int camp, int week) {
        Shelf shelf = told.shelf;
        if (!shelf.hasRoom() || !shelf.hasBook(book) || !told.herds.hasCamp(camp) || !isPast(week)) {
            return NONE;
        }
        int holder = shelf.holder(book, week, NOW);
        if (holder == NONE || holder == camp) {
            return NONE;
        }
        return shelf.addAct(book, PASSED, camp, week, told.week, 0, 0);
    }

    public int back(int book) {
        Shelf shelf = told.shelf;
        int week = told.week;
        if (!shelf.hasRoom() || !shelf.hasBook(book) || shelf.holder(book, week, NOW) == NONE) {
            return NONE;
        }
        return shelf.addAct(book, BACK, NONE, week, week, 0, 0);
    }

    public int tear(int book, int pages, int week) {
        Shelf shelf = told.shelf;
        if (!shelf.hasRoom() || !shelf.hasBook(book) || !isPast(week)) {
            return NONE;
        }
        int camp = shelf.holder(book, week, NOW);
        if (camp == NONE || !isIn(pages, 1, shelf.pagesLeft(book, LAST_WEEK, NOW))) {
            return NONE;
        }
        gatherCamp(camp, week, NOW);
        gatherBook(camp, book, week, NOW);
        int cost = told.rules.numberBy(COST_LINE, facts, 0);
        return shelf.addAct(book, TORN, camp, week, told.week, pages, cost);
    }

    public int act(int k, int what) {
        Shelf shelf = told.shelf;
        if (!isIn(k, 0, shelf.acts - 1)) {
            return NO_SUCH;
        }
        switch (what) {
            case 0: return shelf.actBooks[k];
            case 1: return shelf.actKinds[k];
            case 2: return shelf.actCamps[k];
            case 3: return shelf.actWeeks[k];
            case 4: return shelf.actTold[k];
            case 5: return shelf.actAmounts[k];
            case 6: return shelf.actCosts[k];
            default: return NO_SUCH;
        }
    }

    public int who(int book, int week) {
        if (!told.shelf.hasBook(book) || !isWeek(week)) {
            return NO_SUCH;
        }
        return told.shelf.holder(book, week, limit());
    }

    public int had(int book, int k) {
        return told.shelf.hasBook(book) ? told.shelf.holderInRow(book, k, limit()) : NONE;
    }

    public int due(int book, int week) {
        Shelf shelf = told.shelf;
        if (!shelf.hasBook(book) || !isWeek(week) || shelf.holder(book, week, limit()) == NONE) {
            return NONE;
        }
        return shelf.dueWeek(book, week, limit(), told.land.dry);
    }

    public int owes(int camp, int week, int what) {
        Shelf shelf = told.shelf;
        if (!told.herds.hasCamp(camp) || !isWeek(week)) {
            return NONE;
        }
        switch (what) {
            case 0: return shelf.heldBy(camp, week, limit());
            case 1: return shelf.lateWith(camp, week, limit(), told.land.dry);
            case 2: return shelf.tornBy(camp, week, limit());
            case 3: return shelf.owedBy(camp, week, limit());
            default: return NONE;
        }
    }

    // ---- the rules ----

    public int feed(int a, int b, int c, int d, int e) {
        if (told.tapeBytes > MAX_TAPE - FED_BYTES) {
            return NONE;
        }
        told.addBytes(a);
        told.addBytes(b);
        told.addBytes(c);
        told.addBytes(d);
        told.addBytes(e);
        return told.tapeBytes;
    }

    public int end(int n) {
        if (!isIn(n, 0, told.tapeBytes)) {
            return NONE;
        }
        told.tapeBytes = n;
        return n;
    }

    public int rules() {
        parser.parse(told.tape, told.tapeBytes);
        told.tapeBytes = 0;
        told.fault = parser.fault;
        told.faultPlace = parser.place;
        if (parser.fault != 0) {
            return NONE;
        }
        told.rules.copyFrom(parser.draft);
        return told.rules.lines;
    }

    public int fault(int what) {
        switch (what) {
            case 0: return told.fault;
            case 1: return told.faultPlace;
            default: return NONE;
        }
    }

    public int rule(int camp, int book, int week, int what) {
        if (!isThere(camp, week) || !told.shelf.hasBook(book) || !isIn(what, 0, 2)) {
            return NO_SUCH;
        }
        gatherCamp(camp, week, limit());
        gatherBook(camp, book, week, limit());
        switch (what) {
            case 0: return told.rules.firstThatHolds(BAR_LINE, facts);
            case 1: return told.rules.numberBy(WEEKS_LINE, facts, WEEKS_WITHOUT);
            default: return told.rules.numberBy(COST_LINE, facts, 0);
        }
    }

    // ---- rounds, boxes, readers, the giver, the house ----

    public int round(int week, int days, int what) {
        if (!walkRound(week, days)) {
            return NONE;
        }
        switch (what) {
            case 0: return walks.bestMeets;
            case 1: return walks.bestDays;
            case 2: return walks.bestSet << 1;
            default: return NONE;
        }
    }

    public int stop(int week, int days, int i) {
        return walkRound(week, days) ? walks.stopAt(i) : NONE;
    }

    public boolean wish(int camp, int kind, int wish) {
        if (!told.herds.hasCamp(camp) || !isIn(kind, 0, KINDS - 1) || !isIn(wish, 0, 99)) {
            return false;
        }
        told.herds.wishes[camp * KINDS + kind] = wish;
        return true;
    }

    public int load(int camp, int grams, int what) {
        if (!told.herds.hasCamp(camp) || !isIn(grams, 1, MAX_LOAD) || !isIn(what, 0, 2)) {
            return NONE;
        }
        gatherCamp(camp, told.week, limit());
        offerBooks(camp);
        box.choose(told, camp, grams);
        switch (what) {
            case 0: return box.bestWorth;
            case 1: return box.bestGrams;
            default: return box.bestSet;
        }
    }

    public int reader(int camp) {
        return told.herds.hasCamp(camp) ? told.readers.addReader(camp) : NONE;
    }

    public boolean read(int reader, int book) {
        if (!told.readers.hasReader(reader) || !told.shelf.hasBook(book) || told.readers.hasRead(reader, book)) {
            return false;
        }
        told.readers.books[reader] |= 1 << book;
        return true;
    }

    public int learns(int reader, int what) {
        Readers readers = told.readers;
        if (!readers.hasReader(reader)) {
            return NO_SUCH;
        }
        switch (what) {
            case 0: return readers.camps[reader];
            case 1: return readers.levelOf(reader, told.shelf);
            case 2: return readers.books[reader];
            case 3: return nextFor(reader);
            default: return NO_SUCH;
        }
    }

    public int giver(int kind) {
        if (!isIn(kind, 0, KINDS - 1)) {
            return NONE;
        }
        int readers = told.readers.readersOf(kind, told.shelf);
        if (isFew(readers) || kind == hiddenBesides()) {
            return HIDDEN;
        }
        return readers;
    }

    public int house(int a, int b, int what) {
        if (!isWeek(a) || !isWeek(b) || a > b || told.land.cells == 0) {
            return NONE;
        }
        sumParts(a, b);
        int best = 0;
        for (int cell = 1; cell < told.land.cells; cell++) {
            if (sums[cell] > sums[best]) {
                best = cell;
            }
        }
        switch (what) {
            case 0: return best;
            case 1: return sums[best];
            default: return NONE;
        }
    }

    // ---- counts and images ----

    public int count(int what) {
        switch (what) {
            case 0: return told.land.cells;
            case 1: return told.herds.camps;
            case 2: return told.shelf.books;
            case 3: return told.herds.news;
            case 4: return told.shelf.acts;
            case 5: return told.readers.readers;
            case 6: return told.week;
            case 7: return told.view;
            case 8: return told.rules.lines;
            case 9: return told.shelf.heldByAll(told.week, limit());
            case 10: return countUpTo(told.herds.newsTold, told.herds.news, limit());
            case 11: return countUpTo(told.shelf.actTold, told.shelf.acts, limit());
            default: return NO_SUCH;
        }
    }

    public boolean image(int k) {
        if (!isIn(k, 0, IMAGES - 1)) {
            return false;
        }
        if (images[k] == null) {
            images[k] = new Told();
        }
        images[k].copyFrom(told);
        return true;
    }

    public boolean again(int k) {
        if (!isIn(k, 0, IMAGES - 1) || images[k] == null) {
            return false;
        }
        told.copyFrom(images[k]);
        forgetWays();
        return true;
    }

    // ---- what several calls ask ----

    private static boolean isIn(int number, int least, int greatest) {
        return number >= least && number <= greatest;
    }

    private static boolean isWeek(int week) {
        return isIn(week, 0, LAST_WEEK);
    }

    private boolean isPast(int week) {
        return isIn(week, 0, told.week);
    }

    private boolean isThere(int camp, int week) {
        return told.herds.hasCamp(camp) && isWeek(week) && week >= told.herds.firstWeeks[camp];
    }

    private int limit() {
        return told.view == NONE ? NOW : told.view;
    }

    private static int countUpTo(int[] weeks, int count, int limit) {
        int found = 0;
        for (int i = 0; i < count; i++) {
            if (weeks[i] <= limit) {
                found++;
            }
        }
        return found;
    }

    private void forgetParts() {
        whereNow.forget();
        whereThen.forget();
    }

    private void forgetWays() {
        forgetParts();
        walks.forget();
    }

    private Where whereBy(int limit) {
        if (limit == NOW) {
            return whereNow;
        }
        whereThen.aim(limit);
        return whereThen;
    }

    /** Apart from gatherBook, so that a LOAD looks at the CAMP once and not for every BOOK. */
    private void gatherCamp(int camp, int week, int limit) {
        Shelf shelf = told.shelf;
        facts[FACT_DRY] = told.land.dry[week];
        facts[FACT_WELL] = 0;
        if (week >= told.herds.firstWeeks[camp]
                && told.land.hasWell(whereBy(limit).likeliestOf(told, camp, week))) {
            facts[FACT_WELL] = 1;
        }
        facts[FACT_HELD] = shelf.heldBy(camp, week, limit);
        facts[FACT_LATE] = shelf.lateWith(camp, week, limit, told.land.dry);
        facts[FACT_TORN] = shelf.tornBy(camp, week, limit);
        facts[FACT_WEEK] = week;
    }

    private void gatherBook(int camp, int book, int week, int limit) {
        Shelf shelf = told.shelf;
        facts[FACT_TONGUE] = shelf.tongues[book] == told.herds.tongues[camp] ? 1 : 0;
        facts[FACT_KIND] = shelf.kinds[book];
        facts[FACT_LEVEL] = shelf.levels[book];
        facts[FACT_LEFT] = shelf.pagesLeft(book, week, limit);
    }

    private void sumParts(int from, int to) {
        Where where = whereBy(limit());
        Arrays.fill(sums, 0);
        for (int camp = 0; camp < told.herds.camps; camp++) {
            where.reach(told, camp, to);
            for (int week = Math.max(from, told.herds.firstWeeks[camp]); week <= to; week++) {
                for (int cell = 0; cell < told.land.cells; cell++) {
                    sums[cell] += where.partsAt(camp, cell, week);
                }
            }
        }
    }

    private boolean walkRound(int week, int days) {
        if (!isWeek(week) || !isIn(days, 1, MAX_DAYS) || told.land.cells == 0) {
            return false;
        }
        sumParts(week, week);
        walks.choose(told.land, sums, days);
        return true;
    }

    /** Behind gatherCamp. */
    private void offerBooks(int camp) {
        Shelf shelf = told.shelf;
        int week = told.week;
        box.clear();
        for (int book = 0; book < shelf.books; book++) {
            gatherBook(camp, book, week, limit());
            if (facts[FACT_TONGUE] == 1 && shelf.holder(book, week, limit()) == NONE
                    && !shelf.everHad(book, camp, limit())
                    && told.rules.firstThatHolds(BAR_LINE, facts) == NONE) {
                box.offer(shelf, book);
            }
        }
    }

    private int nextFor(int reader) {
        Shelf shelf = told.shelf;
        int tongue = told.herds.tongues[told.readers.camps[reader]];
        int wanted = told.readers.levelOf(reader, shelf) + 1;
        int best = NONE;
        int nearest = LEVELS + 1;
        for (int book = 0; book < shelf.books; book++) {
            int apart = Math.abs(shelf.levels[book] - wanted);
            if (apart < nearest && shelf.tongues[book] == tongue && !told.readers.hasRead(reader, book)
                    && shelf.holder(book, told.week, limit()) == NONE) {
                best = book;
                nearest = apart;
            }
        }
        return best;
    }

    private static boolean isFew(int readers) {
        return readers == 1 || readers == 2;
    }

    /** One hidden KIND alone could be told from a sum, so a second one goes with it. */
    private int hiddenBesides() {
        int hidden = 0;
        int best = NONE;
        int least = MAX_READERS + 1;
        for (int kind = 0; kind < KINDS; kind++) {
            int readers = told.readers.readersOf(kind, told.shelf);
            if (isFew(readers)) {
                hidden++;
            } else if (readers > 0 && readers < least) {
                best = kind;
                least = readers;
            }
        }
        return hidden == 1 ? best : NONE;
    }

    /** All that an image holds. */
    private static final class Told {
        final Land land = new Land();
        final Herds herds = new Herds();
        final Shelf shelf = new Shelf();
        final Rules rules = new Rules();
        final Readers readers = new Readers();
        final int[] tape = new int[MAX_TAPE];
        int tapeBytes = 0;
        int fault = 0;
        int faultPlace = NONE;
        int week = 0;
        int view = NONE;

        void addBytes(int number) {
            for (int shift = 24; shift >= 0 && tapeBytes < MAX_TAPE; shift -= 8) {
                tape[tapeBytes] = (number >> shift) & 255;
                tapeBytes++;
            }
        }

        void copyFrom(Told other) {
            land.copyFrom(other.land);
            herds.copyFrom(other.herds);
            shelf.copyFrom(other.shelf);
            rules.copyFrom(other.rules);
            readers.copyFrom(other.readers);
            copyRow(other.tape, tape);
            tapeBytes = other.tapeBytes;
            fault = other.fault;
            faultPlace = other.faultPlace;
            week = other.week;
            view = other.view;
        }

        static void copyRow(int[] from, int[] to) {
            System.arraycopy(from, 0, to, 0, Math.min(from.length, to.length));
        }
    }

    /** CELLS, WAYS, GRASS, DRY WEEKS. */
    private static final class Land {
        int cells = 0;
        /** Bits by CELL. */
        int wells = 0;
        /** Days by a * MAX_CELLS + b; 0 where there is no WAY. */
        final int[] ways = new int[MAX_CELLS * MAX_CELLS];
        int grasses = 0;
        final int[] grassCells = new int[MAX_GRASS];
        final int[] grassWeeks = new int[MAX_GRASS];
        final int[] grassNumbers = new int[MAX_GRASS];
        final int[] grassTold = new int[MAX_GRASS];
        /** 1 where the WEEK is DRY. */
        final int[] dry = new int[WEEKS];

        boolean hasCell(int cell) {
            return cell >= 0 && cell < cells;
        }

        boolean hasWell(int cell) {
            return hasCell(cell) && ((wells >> cell) & 1) == 1;
        }

        int addCell(boolean well) {
            if (cells >= MAX_CELLS) {
                return NONE;
            }
            if (well) {
                wells |= 1 << cells;
            }
            cells++;
            return cells - 1;
        }

        void setWay(int a, int b, int days) {
            ways[a * MAX_CELLS + b] = days;
            ways[b * MAX_CELLS + a] = days;
        }

        boolean addGrass(int cell, int week, int grass, int toldIn) {
            if (grasses >= MAX_GRASS) {
                return false;
            }
            grassCells[grasses] = cell;
            grassWeeks[grasses] = week;
            grassNumbers[grasses] = grass;
            grassTold[grasses] = toldIn;
            grasses++;
            return true;
        }

        /** Puts the GRASS of every CELL in a WEEK into row; from is a row to work with. */
        void grassOfWeek(int week, int limit, int[] row, int[] from) {
            Arrays.fill(row, 1);
            Arrays.fill(from, NONE);
            for (int i = 0; i < grasses; i++) {
                int cell = grassCells[i];
                // Not below: of two from one WEEK the one told last counts.
                if (grassTold[i] <= limit && grassWeeks[i] <= week && grassWeeks[i] >= from[cell]) {
                    from[cell] = grassWeeks[i];
                    row[cell] = grassNumbers[i];
                }
            }
        }

        void copyFrom(Land other) {
            cells = other.cells;
            wells = other.wells;
            grasses = other.grasses;
            Told.copyRow(other.ways, ways);
            Told.copyRow(other.grassCells, grassCells);
            Told.copyRow(other.grassWeeks, grassWeeks);
            Told.copyRow(other.grassNumbers, grassNumbers);
            Told.copyRow(other.grassTold, grassTold);
            Told.copyRow(other.dry, dry);
        }
    }

    /** CAMPS, their WISHES, NEWS of them. */
    private static final class Herds {
        int camps = 0;
        final int[] tongues = new int[MAX_CAMPS];
        final int[] firstCells = new int[MAX_CAMPS];
        final int[] firstWeeks = new int[MAX_CAMPS];
        /** By camp * KINDS + kind. */
        final int[] wishes = new int[MAX_CAMPS * KINDS];
        int news = 0;
        final int[] newsCamps = new int[MAX_NEWS];
        final int[] newsCells = new int[MAX_NEWS];
        final int[] newsWeeks = new int[MAX_NEWS];
        /** 1 where the CAMP was SEEN. */
        final int[] newsSeen = new int[MAX_NEWS];
        final int[] newsTold = new int[MAX_NEWS];

        boolean hasCamp(int camp) {
            return camp >= 0 && camp < camps;
        }

        int addCamp(int cell, int tongue, int week) {
            if (camps >= MAX_CAMPS) {
                return NONE;
            }
            firstCells[camps] = cell;
            tongues[camps] = tongue;
            firstWeeks[camps] = week;
            camps++;
            return camps - 1;
        }

        int addNews(int camp, int cell, int week, boolean seen, int toldIn) {
            if (news >= MAX_NEWS) {
                return NONE;
            }
            newsCamps[news] = camp;
            newsCells[news] = cell;
            newsWeeks[news] = week;
            newsSeen[news] = seen ? 1 : 0;
            newsTold[news] = toldIn;
            news++;
            return news - 1;
        }

        boolean isNewsOf(int i, int camp, int week, int limit) {
            return newsCamps[i] == camp && newsWeeks[i] == week && newsTold[i] <= limit;
        }

        void copyFrom(Herds other) {
            camps = other.camps;
            news = other.news;
            Told.copyRow(other.tongues, tongues);
            Told.copyRow(other.firstCells, firstCells);
            Told.copyRow(other.firstWeeks, firstWeeks);
            Told.copyRow(other.wishes, wishes);
            Told.copyRow(other.newsCamps, newsCamps);
            Told.copyRow(other.newsCells, newsCells);
            Told.copyRow(other.newsWeeks, newsWeeks);
            Told.copyRow(other.newsSeen, newsSeen);
            Told.copyRow(other.newsTold, newsTold);
        }
    }

    /** PARTS of all CAMPS by what was told up to a limit, kept until something else is told. */
    private static final class Where {
        /** By (camp * WEEKS + week) * MAX_CELLS + cell. */
        private final int[] parts = new int[MAX_CAMPS * WEEKS * MAX_CELLS];
        /** Of each CAMP the last WEEK that parts has. */
        private final int[] knownTo = new int[MAX_CAMPS];
        /** 1 where NEWS is A QUARREL. */
        private final int[] quarrels = new int[MAX_NEWS];
        private final int[] grass = new int[MAX_CELLS];
        private final int[] weights = new int[MAX_CELLS];
        private final int[] rests = new int[MAX_CELLS];
        private int limit;

        Where(int limit) {
            this.limit = limit;
            Arrays.fill(knownTo, NONE);
        }

        void forget() {
            Arrays.fill(knownTo, NONE);
        }

        void aim(int wanted) {
            if (wanted != limit) {
                limit = wanted;
                forget();
            }
        }

        /** For a WEEK that was reached and is not ahead of the CAMP's first one. */
        int partsAt(int camp, int cell, int week) {
            return parts[rowOf(camp, week) + cell];
        }

        int likeliestOf(Told told, int camp, int week) {
            reach(told, camp, week);
            int row = rowOf(camp, week);
            int best = 0;
            for (int cell = 1; cell < MAX_CELLS; cell++) {
                if (parts[row + cell] > parts[row + best]) {
                    best = cell;
                }
            }
            return best;
        }

        int quarrelOf(Told told, int camp, int k) {
            Herds herds = told.herds;
            int found = 0;
            reach(told, camp, told.week);
            for (int week = herds.firstWeeks[camp]; week <= told.week; week++) {
                for (int i = 0; i < herds.news; i++) {
                    if (herds.isNewsOf(i, camp, week, limit) && quarrels[i] == 1) {
                        if (found == k) {
                            return i;
                        }
                        found++;
                    }
                }
            }
            return NONE;
        }

        private static int rowOf(int camp, int week) {
            return (camp * WEEKS + week) * MAX_CELLS;
        }

        private void clearRow(int row) {
            for (int cell = 0; cell < MAX_CELLS; cell++) {
                parts[row + cell] = 0;
            }
        }

        /** Works out the PARTS of a CAMP up to a WEEK, as far as they are not known yet. */
        void reach(Told told, int camp, int week) {
            int first = told.herds.firstWeeks[camp];
            for (int w = Math.max(first, knownTo[camp] + 1); w <= week; w++) {
                int row = rowOf(camp, w);
                clearRow(row);
                if (w == first) {
                    parts[row + told.herds.firstCells[camp]] = MILLION;
                } else {
                    move(told.land, row, w);
                }
                hear(told.herds, camp, w);
                knownTo[camp] = w;
            }
        }

        private void move(Land land, int row, int week) {
            land.grassOfWeek(week, limit, grass, rests);
            for (int cell = 0; cell < land.cells; cell++) {
                int p = parts[row - MAX_CELLS + cell];
                if (p > 0) {
                    int all = weighGrass(land, cell);
                    if (!share(p, all, row)) {
                        parts[row + cell] += p;
                    }
                }
            }
        }

        private int weighGrass(Land land, int cell) {
            int all = 0;
            for (int to = 0; to < MAX_CELLS; to++) {
                boolean open = to == cell || land.ways[cell * MAX_CELLS + to] > 0;
                weights[to] = open ? grass[to] : 0;
                all += weights[to];
            }
            return all;
        }

        private void hear(Herds herds, int camp, int week) {
            int row = rowOf(camp, week);
            for (int i = 0; i < herds.news; i++) {
                if (herds.isNewsOf(i, camp, week, limit)) {
                    int cell = herds.newsCells[i];
                    boolean fits = herds.newsSeen[i] == 1 ? gather(row, cell) : leave(row, cell);
                    quarrels[i] = fits ? 0 : 1;
                }
            }
        }

        private boolean gather(int row, int cell) {
            if (parts[row + cell] == 0) {
                return false;
            }
            clearRow(row);
            parts[row + cell] = MILLION;
            return true;
        }

        private boolean leave(int row, int cell) {
            int others = MILLION - parts[row + cell];
            if (others == 0) {
                return false;
            }
            for (int c = 0; c < MAX_CELLS; c++) {
                weights[c] = c == cell ? 0 : parts[row + c];
                parts[row + c] = 0;
            }
            return share(MILLION, others, row);
        }

        /** Adds whole to a row of parts by weights, which are all together; false if there are none. */
        private boolean share(int whole, int all, int row) {
            if (all <= 0) {
                return false;
            }
            int left = whole;
            for (int c = 0; c < MAX_CELLS; c++) {
                long product = (long) whole * weights[c];
                int got = (int) (product / all);
                rests[c] = (int) (product % all);
                parts[row + c] += got;
                left -= got;
            }
            for (int i = 0; i < MAX_CELLS && left > 0; i++) {
                int best = 0;
                for (int c = 1; c < MAX_CELLS; c++) {
                    if (rests[c] > rests[best]) {
                        best = c;
                    }
                }
                parts[row + best]++;
                rests[best] = NONE;
                left--;
            }
            return true;
        }
    }

    /** BOOKS and ACTS. */
    private static final class Shelf {
        int books = 0;
        final int[] kinds = new int[MAX_BOOKS];
        final int[] tongues = new int[MAX_BOOKS];
        final int[] levels = new int[MAX_BOOKS];
        final int[] pages = new int[MAX_BOOKS];
        final int[] grams = new int[MAX_BOOKS];
        int acts = 0;
        final int[] actBooks = new int[MAX_ACTS];
        final int[] actKinds = new int[MAX_ACTS];
        final int[] actCamps = new int[MAX_ACTS];
        final int[] actWeeks = new int[MAX_ACTS];
        final int[] actTold = new int[MAX_ACTS];
        /** LENGTH of LENT, pages of TORN. */
        final int[] actAmounts = new int[MAX_ACTS];
        final int[] actCosts = new int[MAX_ACTS];

        boolean hasBook(int book) {
            return book >= 0 && book < books;
        }

        boolean hasRoom() {
            return acts < MAX_ACTS;
        }

        int addBook(int kind, int tongue, int level, int pageCount, int weight) {
            if (books >= MAX_BOOKS) {
                return NONE;
            }
            kinds[books] = kind;
            tongues[books] = tongue;
            levels[books] = level;
            pages[books] = pageCount;
            grams[books] = weight;
            books++;
            return books - 1;
        }

        int addAct(int book, int kind, int camp, int week, int toldIn, int amount, int cost) {
            if (acts >= MAX_ACTS) {
                return NONE;
            }
            actBooks[acts] = book;
            actKinds[acts] = kind;
            actCamps[acts] = camp;
            actWeeks[acts] = week;
            actTold[acts] = toldIn;
            actAmounts[acts] = amount;
            actCosts[acts] = cost;
            acts++;
            return acts - 1;
        }

        /** The last ACT of a BOOK up to a WEEK, of kinds from LENT to lastKind. */
        private int lastAct(int book, int lastKind, int week, int limit) {
            int last = NONE;
            int lastWeek = 0;
            for (int i = 0; i < acts; i++) {
                // Not below: of one WEEK the one told last counts.
                if (actBooks[i] == book && actKinds[i] <= lastKind && actTold[i] <= limit
                        && actWeeks[i] <= week && actWeeks[i] >= lastWeek) {
                    last = i;
                    lastWeek = actWeeks[i];
                }
            }
            return last;
        }

        int holder(int book, int week, int limit) {
            int last = lastAct(book, BACK, week, limit);
            return last == NONE ? NONE : actCamps[last];
        }

        int holderInRow(int book, int k, int limit) {
            int found = 0;
            for (int week = 0; week < WEEKS; week++) {
                for (int i = 0; i < acts; i++) {
                    if (actWeeks[i] == week && actBooks[i] == book && actKinds[i] <= PASSED
                            && actTold[i] <= limit) {
                        if (found == k) {
                            return actCamps[i];
                        }
                        found++;
                    }
                }
            }
            return NONE;
        }

        boolean everHad(int book, int camp, int limit) {
            for (int i = 0; i < acts; i++) {
                if (actBooks[i] == book && actKinds[i] <= PASSED && actCamps[i] == camp && actTold[i] <= limit) {
                    return true;
                }
            }
            return false;
        }

        int dueWeek(int book, int week, int limit, int[] dry) {
            int lent = lastAct(book, LENT, week, limit);
            if (lent == NONE) {
                return NONE;
            }
            int left = actAmounts[lent];
            for (int w = actWeeks[lent] + 1; w < WEEKS; w++) {
                left -= 1 - dry[w];
                if (left == 0) {
                    return w;
                }
            }
            return WEEKS;
        }

        int heldBy(int camp, int week, int limit) {
            int held = 0;
            for (int book = 0; book < books; book++) {
                if (holder(book, week, limit) == camp) {
                    held++;
                }
            }
            return held;
        }

        int heldByAll(int week, int limit) {
            return books - heldBy(NONE, week, limit);
        }

        int lateWith(int camp, int week, int limit, int[] dry) {
            int late = 0;
            for (int book = 0; book < books; book++) {
                if (holder(book, week, limit) == camp && week > dueWeek(book, week, limit, dry)) {
                    late++;
                }
            }
            return late;
        }

        private boolean isTorn(int i, int week, int limit) {
            return actKinds[i] == TORN && actWeeks[i] <= week && actTold[i] <= limit;
        }

        int pagesLeft(int book, int week, int limit) {
            int left = pages[book];
            for (int i = 0; i < acts; i++) {
                if (actBooks[i] == book && isTorn(i, week, limit)) {
                    left -= actAmounts[i];
                }
            }
            return left;
        }

        int tornBy(int camp, int week, int limit) {
            int torn = 0;
            for (int i = 0; i < acts; i++) {
                if (actCamps[i] == camp && isTorn(i, week, limit)) {
                    torn += actAmounts[i];
                }
            }
            return torn;
        }

        int owedBy(int camp, int week, int limit) {
            int owed = 0;
            for (int i = 0; i < acts; i++) {
                if (actCamps[i] == camp && isTorn(i, week, limit)) {
                    owed += actAmounts[i] * actCosts[i];
                }
            }
            return owed;
        }

        void copyFrom(Shelf other) {
            books = other.books;
            acts = other.acts;
            Told.copyRow(other.kinds, kinds);
            Told.copyRow(other.tongues, tongues);
            Told.copyRow(other.levels, levels);
            Told.copyRow(other.pages, pages);
            Told.copyRow(other.grams, grams);
            Told.copyRow(other.actBooks, actBooks);
            Told.copyRow(other.actKinds, actKinds);
            Told.copyRow(other.actCamps, actCamps);
            Told.copyRow(other.actWeeks, actWeeks);
            Told.copyRow(other.actTold, actTold);
            Told.copyRow(other.actAmounts, actAmounts);
            Told.copyRow(other.actCosts, actCosts);
        }
    }

    /** LINES with their TESTS, held against a row of facts. */
    private static final class Rules {
        int lines = 0;
        final int[] deeds = new int[MAX_LINES];
        final int[] numbers = new int[MAX_LINES];
        final int[] tests = new int[MAX_LINES];
        /** These four by line * MAX_TESTS + test; nots is 1 behind 'not'. */
        final int[] nots = new int[MAX_LINES * MAX_TESTS];
        final int[] subjects = new int[MAX_LINES * MAX_TESTS];
        final int[] signs = new int[MAX_LINES * MAX_TESTS];
        final int[] bounds = new int[MAX_LINES * MAX_TESTS];

        int firstThatHolds(int deed, int[] facts) {
            for (int line = 0; line < lines; line++) {
                if (deeds[line] == deed && holds(line, facts)) {
                    return line;
                }
            }
            return NONE;
        }

        int numberBy(int deed, int[] facts, int without) {
            int line = firstThatHolds(deed, facts);
            return line == NONE ? without : numbers[line];
        }

        private boolean holds(int line, int[] facts) {
            for (int i = 0; i < tests[line]; i++) {
                int test = line * MAX_TESTS + i;
                if (meetsTest(test, facts[subjects[test]]) == (nots[test] == 1)) {
                    return false;
                }
            }
            return true;
        }

        private boolean meetsTest(int test, int fact) {
            switch (signs[test]) {
                case '<': return fact < bounds[test];
                case '>': return fact > bounds[test];
                default: return fact == bounds[test];
            }
        }

        /** What is one too many is parsed, for its FAULTS, but finds no place here. */
        void keepLine(int line, int deed, int number) {
            if (line < MAX_LINES) {
                deeds[line] = deed;
                numbers[line] = number;
            }
        }

        void keepTests(int line, int count) {
            if (line < MAX_LINES) {
                tests[line] = Math.min(count, MAX_TESTS);
            }
        }

        void keepTest(int line, int i, int not, int subject, int sign, int bound) {
            if (line < MAX_LINES && i < MAX_TESTS) {
                int test = line * MAX_TESTS + i;
                nots[test] = not;
                subjects[test] = subject;
                signs[test] = sign;
                bounds[test] = bound;
            }
        }

        void copyFrom(Rules other) {
            lines = other.lines;
            Told.copyRow(other.deeds, deeds);
            Told.copyRow(other.numbers, numbers);
            Told.copyRow(other.tests, tests);
            Told.copyRow(other.nots, nots);
            Told.copyRow(other.subjects, subjects);
            Told.copyRow(other.signs, signs);
            Told.copyRow(other.bounds, bounds);
        }
    }

    /** Makes RULES of a tape, or finds its FAULT. */
    private static final class Parser {
        private static final int END = 0;
        private static final int WORD = 1;
        private static final int NUMBER = 2;
        private static final int SIGN = 3;
        private static final int NO_TOKEN = 4;
        private static final int MAX_DIGITS = 4;

        final Rules draft = new Rules();
        int fault = 0;
        int place = NONE;
        private final int[] bytes = new int[MAX_TAPE];
        private int length = 0;
        private int next = 0;
        private int token = END;
        private int start = 0;
        private int value = 0;

        void parse(int[] tape, int count) {
            Told.copyRow(tape, bytes);
            length = count;
            next = 0;
            fault = 0;
            place = NONE;
            takeToken();
            int line = 0;
            while (line <= MAX_TAPE && token != END && fault != NO_TEXT) {
                parseLine(line);
                line++;
            }
            draft.lines = Math.min(line, MAX_LINES);
        }

        private void parseLine(int line) {
            if (line == MAX_LINES) {
                note(TOO_MANY);
            }
            int tests = 0;
            if (isWord("if")) {
                tests = parseTests(line);
                if (tests == NONE || !takeSign(':')) {
                    return;
                }
            }
            draft.keepTests(line, tests);
            if (parseDeed(line)) {
                takeSign(';');
            }
        }

        /** How many; NONE if the text breaks off. */
        private int parseTests(int line) {
            int tests = 0;
            do {
                takeToken();
                if (tests == MAX_TESTS) {
                    note(TOO_MANY);
                }
                if (!parseTest(line, tests)) {
                    return NONE;
                }
                tests++;
            } while (tests <= MAX_TAPE && isWord("and"));
            return tests;
        }

        private boolean parseTest(int line, int i) {
            int not = 0;
            if (isWord("not")) {
                not = 1;
                takeToken();
            }
            int subject = subjectOfWord();
            if (subject == NONE) {
                return breakHere();
            }
            takeToken();
            // A fact that is or is not stands as 1 or 0.
            int sign = '=';
            int bound = 1;
            if (subject >= FACT_HELD) {
                if (!isSign('<') && !isSign('>') && !isSign('=')) {
                    return breakHere();
                }
                sign = value;
                takeToken();
                if (token != NUMBER) {
                    return breakHere();
                }
                bound = value;
                takeToken();
            }
            draft.keepTest(line, i, not, subject, sign, bound);
            return true;
        }

        private boolean parseDeed(int line) {
            if (isWord("bar")) {
                draft.keepLine(line, BAR_LINE, 0);
                takeToken();
                return true;
            }
            boolean weeks = isWord("weeks");
            if (!weeks && !isWord("cost")) {
                return breakHere();
            }
            takeToken();
            if (token != NUMBER) {
                return breakHere();
            }
            if (weeks && (value < 1 || value > 99)) {
                note(BAD_WEEKS);
            }
            draft.keepLine(line, weeks ? WEEKS_LINE : COST_LINE, value);
            takeToken();
            return true;
        }

        private boolean breakHere() {
            fault = NO_TEXT;
            place = start;
            return false;
        }

        private void note(int found) {
            if (fault == 0) {
                fault = found;
                place = start;
            }
        }

        private boolean takeSign(char sign) {
            if (!isSign(sign)) {
                return breakHere();
            }
            takeToken();
            return true;
        }

        private boolean isSign(char sign) {
            return token == SIGN && value == sign;
        }

        private boolean isWord(String word) {
            if (token != WORD || next - start != word.length()) {
                return false;
            }
            for (int i = 0; i < word.length(); i++) {
                if (bytes[start + i] != word.charAt(i)) {
                    return false;
                }
            }
            return true;
        }

        private int subjectOfWord() {
            for (int fact = 0; fact < FACTS; fact++) {
                if (isWord(wordOf(fact))) {
                    return fact;
                }
            }
            return NONE;
        }

        private static String wordOf(int fact) {
            switch (fact) {
                case FACT_TONGUE: return "tongue";
                case FACT_DRY: return "dry";
                case FACT_WELL: return "well";
                case FACT_HELD: return "held";
                case FACT_LATE: return "late";
                case FACT_KIND: return "kind";
                case FACT_LEVEL: return "level";
                case FACT_LEFT: return "left";
                case FACT_TORN: return "torn";
                default: return "week";
            }
        }

        private void takeToken() {
            while (next < length && (bytes[next] == 10 || bytes[next] == 32)) {
                next++;
            }
            start = next;
            if (next >= length) {
                token = END;
                return;
            }
            value = bytes[next];
            if (value >= 'a' && value <= 'z') {
                passRow('a', 'z');
                token = WORD;
            } else if (value >= '0' && value <= '9') {
                passRow('0', '9');
                token = next - start <= MAX_DIGITS ? NUMBER : NO_TOKEN;
                value = readDigits();
            } else {
                next++;
                token = value >= ':' && value <= '>' ? SIGN : NO_TOKEN;
            }
        }

        private void passRow(char least, char greatest) {
            while (next < length && bytes[next] >= least && bytes[next] <= greatest) {
                next++;
            }
        }

        private int readDigits() {
            int number = 0;
            for (int i = start; i < next; i++) {
                number = number * 10 + bytes[i] - '0';
            }
            return number;
        }
    }

    /** The fewest days of walks through sets of CELLS, kept until CELLS or WAYS change. */
    private static final class Walks {
        private static final int SETS = 512;
        /** Longer than any walk; a few of them still add up to an int. */
        private static final int FAR = 100000;

        int bestSet = 0;
        int bestDays = 0;
        int bestMeets = 0;
        /** Fewest days by a * MAX_CELLS + b. */
        private final int[] days = new int[MAX_CELLS * MAX_CELLS];
        /** By set * MAX_CELLS + cell: fewest days from the CELL through the set and to the SHED; bit 0 of a set is CELL 1. */
        private final int[] home = new int[SETS * MAX_CELLS];
        private final int[] meets = new int[SETS];
        private boolean known = false;

        void forget() {
            known = false;
        }

        void choose(Land land, int[] sums, int most) {
            if (!known) {
                findDays(land);
                findHome(land);
                known = true;
            }
            addUp(land, sums);
            bestSet = 0;
            // From the least set on, so that of several alike the least one stays.
            for (int set = 1; set < SETS; set++) {
                int length = home[set * MAX_CELLS];
                boolean fewer = meets[set] == meets[bestSet] && length < home[bestSet * MAX_CELLS];
                if (length <= most && (meets[set] > meets[bestSet] || fewer)) {
                    bestSet = set;
                }
            }
            bestDays = home[bestSet * MAX_CELLS];
            bestMeets = meets[bestSet];
        }

        int stopAt(int i) {
            int cell = 0;
            int set = bestSet;
            for (int k = 0; k < MAX_CELLS && set != 0; k++) {
                int to = leastStop(cell, set);
                if (k == i) {
                    return to;
                }
                set = without(set, to);
                cell = to;
            }
            return NONE;
        }

        private int leastStop(int cell, int set) {
            int to = 1;
            while (to < MAX_CELLS - 1 && (!hasStop(set, to)
                    || lengthBy(cell, to, set) != home[set * MAX_CELLS + cell])) {
                to++;
            }
            return to;
        }

        private static boolean hasStop(int set, int cell) {
            return ((set >> (cell - 1)) & 1) == 1;
        }

        private static int without(int set, int cell) {
            return set & ~(1 << (cell - 1));
        }

        private int lengthBy(int cell, int to, int set) {
            return days[cell * MAX_CELLS + to] + home[without(set, to) * MAX_CELLS + to];
        }

        private void findDays(Land land) {
            for (int i = 0; i < days.length; i++) {
                days[i] = land.ways[i] > 0 ? land.ways[i] : FAR;
            }
            for (int c = 0; c < MAX_CELLS; c++) {
                days[c * MAX_CELLS + c] = 0;
            }
            for (int over = 0; over < MAX_CELLS; over++) {
                for (int a = 0; a < MAX_CELLS; a++) {
                    for (int b = 0; b < MAX_CELLS; b++) {
                        int around = days[a * MAX_CELLS + over] + days[over * MAX_CELLS + b];
                        days[a * MAX_CELLS + b] = Math.min(days[a * MAX_CELLS + b], around);
                    }
                }
            }
        }

        private void findHome(Land land) {
            for (int set = 0; set < SETS; set++) {
                boolean allWells = ((set << 1) & ~land.wells) == 0;
                for (int cell = 0; cell < MAX_CELLS; cell++) {
                    home[set * MAX_CELLS + cell] = allWells ? fewestHome(cell, set) : FAR;
                }
            }
        }

        private int fewestHome(int cell, int set) {
            if (set == 0) {
                return days[cell * MAX_CELLS];
            }
            int fewest = FAR;
            for (int to = 1; to < MAX_CELLS; to++) {
                if (hasStop(set, to)) {
                    fewest = Math.min(fewest, lengthBy(cell, to, set));
                }
            }
            return fewest;
        }

        private void addUp(Land land, int[] sums) {
            meets[0] = land.hasWell(0) ? sums[0] : 0;
            for (int set = 1; set < SETS; set++) {
                int cell = 1;
                while (cell < MAX_CELLS - 1 && !hasStop(set, cell)) {
                    cell++;
                }
                meets[set] = meets[without(set, cell)] + sums[cell];
            }
        }
    }

    /** A LOAD. All BOOKS of a KIND are worth the same, so that of each KIND only the lightest one counts. */
    private static final class Box {
        int bestWorth = 0;
        int bestGrams = 0;
        int bestSet = 0;
        private final int[] lightest = new int[KINDS];

        void clear() {
            Arrays.fill(lightest, NONE);
        }

        void offer(Shelf shelf, int book) {
            int kind = shelf.kinds[book];
            if (lightest[kind] == NONE || shelf.grams[book] < shelf.grams[lightest[kind]]) {
                lightest[kind] = book;
            }
        }

        void choose(Told told, int camp, int most) {
            bestWorth = 0;
            bestGrams = 0;
            bestSet = 0;
            for (int kinds = 1; kinds < 1 << KINDS; kinds++) {
                int worth = 0;
                int grams = 0;
                int set = 0;
                for (int kind = 0; kind < KINDS; kind++) {
                    int book = lightest[kind];
                    if (((kinds >> kind) & 1) == 1 && book != NONE) {
                        worth += told.herds.wishes[camp * KINDS + kind];
                        grams += told.shelf.grams[book];
                        set |= 1 << book;
                    }
                }
                if (grams <= most && isBetter(worth, grams, set)) {
                    bestWorth = worth;
                    bestGrams = grams;
                    bestSet = set;
                }
            }
        }

        private boolean isBetter(int worth, int grams, int set) {
            if (worth != bestWorth) {
                return worth > bestWorth;
            }
            return grams != bestGrams ? grams < bestGrams : set < bestSet;
        }
    }

    /** READERS and what they READ. */
    private static final class Readers {
        int readers = 0;
        final int[] camps = new int[MAX_READERS];
        /** Bits by BOOK. */
        final int[] books = new int[MAX_READERS];

        boolean hasReader(int reader) {
            return reader >= 0 && reader < readers;
        }

        boolean hasRead(int reader, int book) {
            return ((books[reader] >> book) & 1) == 1;
        }

        int addReader(int camp) {
            if (readers >= MAX_READERS) {
                return NONE;
            }
            camps[readers] = camp;
            books[readers] = 0;
            readers++;
            return readers - 1;
        }

        int levelOf(int reader, Shelf shelf) {
            for (int level = LEVELS - 1; level > 0; level--) {
                if (booksFrom(reader, shelf, level) >= level) {
                    return level;
                }
            }
            return 0;
        }

        private int booksFrom(int reader, Shelf shelf, int level) {
            int found = 0;
            for (int book = 0; book < shelf.books; book++) {
                if (hasRead(reader, book) && shelf.levels[book] >= level) {
                    found++;
                }
            }
            return found;
        }

        int readersOf(int kind, Shelf shelf) {
            int ofKind = 0;
            for (int book = 0; book < shelf.books; book++) {
                if (shelf.kinds[book] == kind) {
                    ofKind |= 1 << book;
                }
            }
            int found = 0;
            for (int reader = 0; reader < readers; reader++) {
                if ((books[reader] & ofKind) != 0) {
                    found++;
                }
            }
            return found;
        }

        void copyFrom(Readers other) {
            readers = other.readers;
            Told.copyRow(other.camps, camps);
            Told.copyRow(other.books, books);
        }
    }
}
