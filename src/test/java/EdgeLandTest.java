/** The boundary cases of promises 1 to 12 and 36, sentence by sentence as Terms 1 and 2 and the promises have them. */
public final class EdgeLandTest {
    private static final Check CHECK = new Check("EdgeLandTest");
    private static final int NONE = HerdBooks.NONE;
    private static final int NO_SUCH = -2;
    private static final int MIN = Integer.MIN_VALUE;
    private static final int MAX = Integer.MAX_VALUE;
    private static final int MILLION = 1000000;

    public static void main(String[] args) {
        nothingToldYet();
        nothingCanBeTold();
        tenCells();
        shedIsInCellZero();
        wayOfOneToNineDays();
        wayTwiceTheSameCell();
        sixCamps();
        campTongues();
        campInItsWeek();
        grassNumbers();
        grassWeeks();
        sixtyGrasses();
        grassIsOneAtFirst();
        grassOfTheNextWeek();
        grassFromTheLatestWeek();
        grassToldLast();
        restsToTheGreatest();
        allStayWithoutGrass();
        onePartMoves();
        millionTogether();
        restOfAMillion();
        sixtyNews();
        newsWeeks();
        newsOfNoneSuch();
        newsOfTheFirstWeek();
        newsInTheirOrder();
        seenWhereOnePartIs();
        notSeenWhereAllButOneAre();
        partsWeeks();
        partsOfNoneSuch();
        likeliestOfSeveral();
        quarrelsInARow();
        quarrelsOfOneCampAlone();
        dryWeeks();
        weekOfNow();
        viewUpToNow();
        viewToTheEndOfItsWeek();
        viewOfGrass();
        viewOfNews();
        houseWeeks();
        houseOfNothing();
        houseOfAll();
        CHECK.close();
    }

    private static void due(String call, long got, long want) {
        CHECK.due(call, got, want);
    }

    private static void parts(HerdBooks x, int camp, int week, int... want) {
        for (int cell = 0; cell < want.length; cell++) {
            due("parts(" + camp + ", " + cell + ", " + week + ")", x.parts(camp, cell, week), want[cell]);
        }
    }

    /** CELLS in a row, each joined with the next, and a CAMP in the first. */
    private static HerdBooks row(int cells) {
        HerdBooks x = new HerdBooks();
        for (int i = 0; i < cells; i++) {
            x.cell(false);
            x.way(i - 1, i, 1);
        }
        x.camp(0, 0);
        return x;
    }

    /** "No CELLS, CAMPS, BOOKS, RULES; WEEK 0, THE VIEW is NOW; no images." */
    private static void nothingToldYet() {
        HerdBooks x = new HerdBooks();
        due("parts", x.parts(0, 0, 0), NONE);
        due("likeliest", x.likeliest(0, 0), NONE);
        due("quarrel", x.quarrel(0, 0), NONE);
        due("act", x.act(0, 0), NO_SUCH);
        due("who", x.who(0, 0), NO_SUCH);
        due("had", x.had(0, 0), NONE);
        due("due", x.due(0, 0), NONE);
        due("owes", x.owes(0, 0, 0), NONE);
        due("fault 0", x.fault(0), 0);
        due("fault 1", x.fault(1), NONE);
        due("rule", x.rule(0, 0, 0, 0), NO_SUCH);
        due("round", x.round(0, 60, 0), NONE);
        due("stop", x.stop(0, 60, 0), NONE);
        due("load", x.load(0, 1, 0), NONE);
        due("learns", x.learns(0, 0), NO_SUCH);
        for (int kind = 0; kind < 8; kind++) {
            due("giver " + kind, x.giver(kind), 0);
        }
        due("house", x.house(0, 99, 0), NONE);
        due("week", x.count(6), 0);
        due("view", x.count(7), NONE);
        due("lines", x.count(8), 0);
        for (int k = 0; k < 3; k++) {
            CHECK.no("no image " + k, x.again(k));
        }
        due("the tape is empty", x.end(0), 0);
        due("and has not one byte", x.end(1), NONE);
        due("an empty tape is a text", x.rules(), 0);
    }

    /** The same sentence: what needs a CELL, a CAMP, a BOOK or a READER is refused as long as there is none. */
    private static void nothingCanBeTold() {
        HerdBooks x = new HerdBooks();
        CHECK.no("way", x.way(0, 1, 1));
        due("camp", x.camp(0, 0), NONE);
        CHECK.no("grass", x.grass(0, 0, 1));
        due("news", x.news(0, 0, 0, true), NONE);
        due("lend", x.lend(0, 0), NONE);
        due("pass", x.pass(0, 0, 0), NONE);
        due("back", x.back(0), NONE);
        due("tear", x.tear(0, 1, 0), NONE);
        CHECK.no("wish", x.wish(0, 0, 0));
        due("reader", x.reader(0), NONE);
        CHECK.no("read", x.read(0, 0));
        CHECK.no("not dry it is already", x.dry(0, false));
        for (int what = 0; what < 12; what++) {
            due("count " + what, x.count(what), what == 7 ? NONE : 0);
        }
        CHECK.yes("the week of now is a view", x.view(0));
        CHECK.yes("and the week of now", x.week(0));
    }

    /** "CELLS, at most 10, from 0 on"; "NONE: there are 10." */
    private static void tenCells() {
        HerdBooks x = new HerdBooks();
        for (int i = 0; i < 10; i++) {
            due("cells before", x.count(0), i);
            due("cell", x.cell(false), i);
        }
        due("11th cell", x.cell(true), NONE);
        due("12th cell", x.cell(false), NONE);
        due("cells", x.count(0), 10);
        due("no camp in an 11th", x.camp(10, 0), NONE);
        due("a camp in the 10th", x.camp(9, 0), 0);
        CHECK.no("no way to an 11th", x.way(9, 10, 1));
        CHECK.no("no way from an 11th", x.way(10, 9, 1));
        CHECK.yes("a way to the 10th", x.way(0, 9, 1));
        CHECK.no("no grass of an 11th", x.grass(10, 0, 1));
        CHECK.yes("grass of the 10th", x.grass(9, 0, 1));
        due("no news of an 11th", x.news(0, 10, 0, true), NONE);
        due("news of the 10th", x.news(0, 9, 0, true), 0);
        due("no parts of an 11th", x.parts(0, 10, 0), NONE);
        due("parts of the 10th", x.parts(0, 9, 0), MILLION);
        // The refused CELL was told with a WELL: it gave none to another one.
        due("no well", x.round(0, 60, 0), 0);
    }

    /** "the SHED is in CELL 0": a ROUND begins and ends there. */
    private static void shedIsInCellZero() {
        HerdBooks x = new HerdBooks();
        for (int i = 0; i < 3; i++) {
            x.cell(i == 1);
        }
        x.way(0, 1, 4);
        x.way(2, 1, 1);
        x.camp(1, 0);
        due("from cell 0 and back", x.round(0, 60, 1), 8);
        due("not in fewer", x.round(0, 7, 1), 0);
    }

    /** "WAYS join two CELLS, in 1 .. 9 days (told anew it is that)"; "other days": false. */
    private static void wayOfOneToNineDays() {
        HerdBooks x = new HerdBooks();
        x.cell(false);
        x.cell(true);
        x.camp(1, 0);
        for (int days : new int[] {0, 10, -1, -9, 11, MIN, MAX}) {
            CHECK.no("way of " + days, x.way(0, 1, days));
        }
        due("no way", x.round(0, 60, 0), 0);
        parts(x, 0, 1, 0, MILLION);
        for (int days = 1; days <= 9; days++) {
            CHECK.yes("way of " + days, x.way(days % 2, 1 - days % 2, days));
            due("there and back", x.round(0, 60, 1), 2 * days);
        }
        CHECK.no("way of 10", x.way(0, 1, 10));
        CHECK.no("way of 0", x.way(0, 1, 0));
        due("the way is as it was", x.round(0, 60, 1), 18);
        parts(x, 0, 1, 500000, 500000);
        CHECK.yes("told anew, fewer", x.way(1, 0, 1));
        due("it is that", x.round(0, 60, 1), 2);
        due("in just so many days", x.round(0, 2, 1), 2);
        due("not in fewer", x.round(0, 1, 1), 0);
    }

    /** "false: there are no such CELLS, they are one, or other days." */
    private static void wayTwiceTheSameCell() {
        HerdBooks x = row(2);
        for (int[] w : new int[][] {{0, 0}, {1, 1}, {0, 2}, {2, 0}, {1, -1}, {-1, 1}, {-1, -1}, {2, 2}, {MIN, 0},
            {0, MAX}}) {
            CHECK.no("way(" + w[0] + ", " + w[1] + ")", x.way(w[0], w[1], 5));
        }
        parts(x, 0, 1, 500000, 500000);
        // A CELL that comes now is not yet joined.
        x.cell(false);
        parts(x, 0, 2, 500000, 500000, 0);
        CHECK.yes("now there is such a cell", x.way(0, 2, 5));
        parts(x, 0, 1, 333334, 333333, 333333);
    }

    /** "CAMPS, at most 6, from 0 on"; "NONE: there are 6". */
    private static void sixCamps() {
        HerdBooks x = new HerdBooks();
        x.cell(false);
        x.cell(false);
        for (int i = 0; i < 6; i++) {
            due("no such camp yet", x.likeliest(i, 0), NONE);
            due("camp", x.camp(i % 2, 0), i);
            due("it is there", x.likeliest(i, 0), i % 2);
        }
        due("7th camp", x.camp(1, 0), NONE);
        due("camps", x.count(1), 6);
        due("no 7th", x.likeliest(6, 0), NONE);
        due("no parts of a 7th", x.parts(6, 1, 0), NONE);
        due("the 6th is where it was", x.parts(5, 1, 0), MILLION);
        due("no reader of a 7th", x.reader(6), NONE);
        due("a reader of the 6th", x.reader(5), 0);
        CHECK.no("no wish of a 7th", x.wish(6, 7, 1));
        CHECK.yes("a wish of the 6th", x.wish(5, 7, 1));
        due("all in one week", x.house(0, 0, 1), 3 * MILLION);
    }

    /** "have a TONGUE, 0 .. 3, and a CELL"; "NONE: .. there is no such CELL, or TONGUE." */
    private static void campTongues() {
        HerdBooks x = new HerdBooks();
        x.cell(false);
        x.cell(false);
        for (int tongue : new int[] {-1, 4, MIN, MAX}) {
            due("tongue " + tongue, x.camp(0, tongue), NONE);
        }
        for (int cell : new int[] {-1, 2, MIN, MAX}) {
            due("cell " + cell, x.camp(cell, 0), NONE);
        }
        due("none was told", x.count(1), 0);
        for (int tongue = 0; tongue < 4; tongue++) {
            due("tongue " + tongue, x.camp(tongue % 2, tongue), tongue);
            due("book of it", x.book(0, tongue, 0, 1, 1), tongue);
        }
        Check.rules(x, "if tongue: bar;");
        for (int camp = 0; camp < 4; camp++) {
            for (int book = 0; book < 4; book++) {
                due("both have one tongue", x.rule(camp, book, 0, 0), camp == book ? 0 : NONE);
            }
        }
    }

    /** "a CELL in which they are in the WEEK in which they are told", WEEK 99 too. */
    private static void campInItsWeek() {
        HerdBooks x = row(2);
        x.week(98);
        due("camp of 98", x.camp(1, 0), 1);
        x.week(99);
        due("camp of 99", x.camp(1, 0), 2);
        due("ahead of it", x.parts(1, 1, 97), NONE);
        parts(x, 1, 98, 0, MILLION);
        parts(x, 1, 99, 500000, 500000);
        due("ahead of the last", x.parts(2, 1, 98), NONE);
        due("likeliest ahead of the last", x.likeliest(2, 98), NONE);
        parts(x, 2, 99, 0, MILLION);
        due("behind the last", x.parts(2, 1, 100), NONE);
    }

    /** "GRASS of a CELL, 0 .. 99"; "other GRASS": false. */
    private static void grassNumbers() {
        HerdBooks x = row(2);
        for (int grass : new int[] {-1, 100, MIN, MAX}) {
            CHECK.no("grass " + grass, x.grass(1, 0, grass));
        }
        parts(x, 0, 1, 500000, 500000);
        CHECK.yes("grass 99", x.grass(1, 0, 99));
        parts(x, 0, 1, 10000, 990000);
        CHECK.no("grass 100", x.grass(1, 0, 100));
        CHECK.no("grass -1", x.grass(1, 0, -1));
        parts(x, 0, 1, 10000, 990000);
        CHECK.yes("grass 0", x.grass(1, 0, 0));
        parts(x, 0, 1, MILLION, 0);
        for (int cell : new int[] {-1, 2, MIN, MAX}) {
            CHECK.no("cell " + cell, x.grass(cell, 0, 1));
        }
    }

    /** "there is no such CELL, WEEK (0 .. 99)". */
    private static void grassWeeks() {
        HerdBooks x = row(2);
        for (int week : new int[] {-1, 100, MIN, MAX}) {
            CHECK.no("from week " + week, x.grass(1, week, 0));
        }
        parts(x, 0, 1, 500000, 500000);
        CHECK.yes("from week 99", x.grass(0, 99, 0));
        parts(x, 0, 98, 500000, 500000);
        parts(x, 0, 99, 0, MILLION);
        CHECK.yes("from week 0", x.grass(1, 0, 0));
        parts(x, 0, 98, MILLION, 0);
        parts(x, 0, 99, MILLION, 0);
    }

    /** "at most 60 such"; "or there are 60": the 60th counts, the 61st does not. */
    private static void sixtyGrasses() {
        HerdBooks x = row(2);
        for (int i = 1; i < 60; i++) {
            CHECK.yes("grass told " + i, x.grass(1, 1, 3));
        }
        parts(x, 0, 1, 250000, 750000);
        CHECK.yes("the 60th", x.grass(1, 1, 0));
        parts(x, 0, 1, MILLION, 0);
        CHECK.no("the 61st", x.grass(1, 1, 3));
        CHECK.no("the 61st of another", x.grass(0, 1, 0));
        parts(x, 0, 1, MILLION, 0);
    }

    /** "from a WEEK on, is told (1 at first)". */
    private static void grassIsOneAtFirst() {
        HerdBooks x = row(2);
        x.grass(0, 2, 3);
        parts(x, 0, 1, 500000, 500000);
        parts(x, 0, 2, 750000, 250000);
        HerdBooks y = row(2);
        y.grass(0, 0, 1);
        y.grass(1, 0, 1);
        parts(y, 0, 1, 500000, 500000);
    }

    /** "by GRASS of these in that next WEEK": from that WEEK on, not from the one behind it. */
    private static void grassOfTheNextWeek() {
        HerdBooks x = row(2);
        x.grass(1, 1, 0);
        parts(x, 0, 1, MILLION, 0);
        HerdBooks y = row(2);
        y.grass(1, 2, 0);
        parts(y, 0, 1, 500000, 500000);
        parts(y, 0, 2, MILLION, 0);
        // In its first WEEK a CAMP is in its CELL, whatever grows there.
        HerdBooks z = row(2);
        z.grass(0, 0, 0);
        parts(z, 0, 0, MILLION, 0);
        parts(z, 0, 1, 0, MILLION);
    }

    /** "of several the GRASS from the latest WEEK". */
    private static void grassFromTheLatestWeek() {
        HerdBooks x = row(2);
        x.grass(1, 2, 3);
        x.grass(1, 1, 0);
        x.grass(1, 0, 9);
        parts(x, 0, 1, MILLION, 0);
        parts(x, 0, 2, 250000, 750000);
    }

    /** "of these that told last". */
    private static void grassToldLast() {
        HerdBooks x = row(2);
        x.grass(1, 1, 3);
        x.grass(1, 1, 0);
        parts(x, 0, 1, MILLION, 0);
        x.grass(1, 1, 3);
        parts(x, 0, 1, 250000, 750000);
    }

    /** "cut; those that are left, one each, to the greatest rests of that (of several the least CELL)". */
    private static void restsToTheGreatest() {
        HerdBooks x = row(3);
        x.way(0, 2, 1);
        x.grass(0, 1, 3);
        x.grass(1, 1, 2);
        // 6 in all: 500000 and no rest, 333333 and 2, 166666 and 4: the least share has the greatest rest.
        parts(x, 0, 1, 500000, 333333, 166667);
        x.grass(0, 1, 2);
        x.grass(2, 1, 2);
        parts(x, 0, 1, 333334, 333333, 333333);
        // 5 CELLS by 2, 2, 2, 2, 1 of 9: four rests of 2 and one of 1, and one is left.
        HerdBooks y = row(5);
        y.way(0, 2, 1);
        y.way(0, 3, 1);
        y.way(0, 4, 1);
        y.grass(0, 0, 1);
        for (int cell = 1; cell < 5; cell++) {
            y.grass(cell, 0, 2);
        }
        parts(y, 0, 1, 111111, 222223, 222222, 222222, 222222);
    }

    /** "all stay where GRASS is 0 in all of these". */
    private static void allStayWithoutGrass() {
        HerdBooks x = row(4);
        x.camp(2, 0);
        for (int cell = 1; cell < 4; cell++) {
            x.grass(cell, 1, 0);
        }
        parts(x, 1, 1, 0, 0, MILLION, 0);
        parts(x, 1, 99, 0, 0, MILLION, 0);
        // CELL 0 still has GRASS, but no WAY leads to it from CELL 2.
        parts(x, 0, 99, MILLION, 0, 0, 0);
        x.grass(3, 2, 1);
        parts(x, 1, 2, 0, 0, 0, MILLION);
        // A CELL without WAYS: all stay there with GRASS and without.
        HerdBooks y = row(1);
        parts(y, 0, 1, MILLION);
        y.grass(0, 0, 0);
        parts(y, 0, 99, MILLION);
    }

    /** A PART of a million goes from CELL to CELL: in WEEK 5 there is one in CELL 4, all others are in CELL 1. */
    private static HerdBooks onePart() {
        HerdBooks x = row(5);
        int[][] grass = {{0, 1, 99}, {1, 1, 1}, {0, 2, 50}, {1, 2, 49}, {2, 2, 1}, {1, 3, 50}, {2, 3, 49}, {3, 3, 1},
            {0, 4, 1}, {1, 4, 0}, {2, 4, 0}, {3, 4, 0}, {4, 4, 1}, {0, 5, 0}, {1, 5, 1}};
        for (int[] g : grass) {
            x.grass(g[0], g[1], g[2]);
        }
        x.week(5);
        return x;
    }

    /** "the PARTS p of each CELL .. go": be it one PART. */
    private static void onePartMoves() {
        HerdBooks x = onePart();
        parts(x, 0, 1, 990000, 10000, 0, 0, 0);
        parts(x, 0, 2, 505000, 494900, 100, 0, 0);
        // From CELL 1 by 50, 50, 49 of 149: rests 123, 123, 52, and two are left.
        parts(x, 0, 3, 418574, 418624, 162801, 1, 0);
        parts(x, 0, 4, 837198, 0, 162801, 0, 1);
        parts(x, 0, 5, 0, 999999, 0, 0, 1);
    }

    /** "PARTS of a CAMP in a WEEK, 1000000 together": in each of the 100 WEEKS. */
    private static void millionTogether() {
        HerdBooks x = row(4);
        x.grass(0, 3, 7);
        x.grass(2, 5, 13);
        x.grass(3, 50, 0);
        x.week(30);
        x.news(0, 0, 10, false);
        x.news(0, 2, 20, false);
        x.news(0, 3, 30, true);
        for (int week = 0; week < 100; week++) {
            int all = 0;
            for (int cell = 0; cell < 4; cell++) {
                all += x.parts(0, cell, week);
            }
            due("all in week " + week, all, MILLION);
        }
    }

    /** "of each other CELL there are 1000000 * p / all of these, cut, and the rest of a million as above". */
    private static void restOfAMillion() {
        HerdBooks x = row(4);
        x.way(0, 2, 1);
        x.way(0, 3, 1);
        x.week(1);
        parts(x, 0, 1, 250000, 250000, 250000, 250000);
        x.news(0, 0, 1, false);
        parts(x, 0, 1, 0, 333334, 333333, 333333);
        // 333334 and 333333 of 666667: 500000 and 499999, rests 500000 and 166667, and one is left.
        x.news(0, 3, 1, false);
        parts(x, 0, 1, 0, 500001, 499999, 0);
        x.news(0, 1, 1, false);
        parts(x, 0, 1, 0, 0, MILLION, 0);
        due("all fit", x.quarrel(0, 0), NONE);
    }

    /** "NEWS, at most 60, from 0 on"; "NONE: there are 60". */
    private static void sixtyNews() {
        HerdBooks x = row(2);
        x.week(1);
        for (int i = 0; i < 59; i++) {
            due("news", x.news(0, 0, 0, true), i);
        }
        parts(x, 0, 1, 500000, 500000);
        due("the 60th", x.news(0, 1, 1, true), 59);
        parts(x, 0, 1, 0, MILLION);
        due("the 61st", x.news(0, 0, 1, true), NONE);
        due("the 61st, not seen", x.news(0, 1, 1, false), NONE);
        due("news", x.count(3), 60);
        due("news by the view", x.count(10), 60);
        parts(x, 0, 1, 0, MILLION);
        due("a refused one is no quarrel", x.quarrel(0, 0), NONE);
    }

    /** "in a WEEK up to now"; "the WEEK is ahead of the CAMP's first one, or later than now". */
    private static void newsWeeks() {
        HerdBooks x = row(2);
        x.week(3);
        x.camp(1, 0);
        x.week(6);
        for (int week : new int[] {2, 7, -1, 0, 99, 100, MIN, MAX}) {
            due("news of week " + week, x.news(1, 1, week, true), NONE);
        }
        due("none was told", x.count(3), 0);
        due("news of its first week", x.news(1, 1, 3, true), 0);
        due("news of now", x.news(1, 1, 6, true), 1);
        due("news of week 0 for one that was there", x.news(0, 0, 0, true), 2);
        due("not of week -1", x.news(0, 0, -1, true), NONE);
        x.week(99);
        due("news of week 99", x.news(1, 0, 99, true), 3);
        due("not of week 100", x.news(1, 0, 100, true), NONE);
        parts(x, 1, 99, MILLION, 0);
    }

    /** "NONE: .. there is none such (of any)". */
    private static void newsOfNoneSuch() {
        HerdBooks x = row(2);
        for (int camp : new int[] {-1, 1, MIN, MAX}) {
            due("news of camp " + camp, x.news(camp, 0, 0, true), NONE);
        }
        for (int cell : new int[] {-1, 2, MIN, MAX}) {
            due("news of cell " + cell, x.news(0, cell, 0, true), NONE);
        }
        due("none was told", x.count(3), 0);
        due("news", x.news(0, 1, 0, false), 0);
    }

    /** "Then the NEWS of that WEEK (and of its first one)". */
    private static void newsOfTheFirstWeek() {
        HerdBooks x = row(2);
        x.news(0, 0, 0, true);
        x.news(0, 1, 0, false);
        parts(x, 0, 0, MILLION, 0);
        due("both fit", x.quarrel(0, 0), NONE);
        x.news(0, 1, 0, true);
        x.news(0, 0, 0, false);
        parts(x, 0, 0, MILLION, 0);
        due("seen where no part is", x.quarrel(0, 0), 2);
        due("not seen where all are", x.quarrel(0, 1), 3);
        due("no more", x.quarrel(0, 2), NONE);
    }

    /** "in their order". */
    private static void newsInTheirOrder() {
        HerdBooks x = row(3);
        x.week(1);
        x.news(0, 1, 1, true);
        x.news(0, 1, 1, false);
        x.news(0, 0, 1, true);
        parts(x, 0, 1, 0, MILLION, 0);
        due("the second", x.quarrel(0, 0), 1);
        due("the third", x.quarrel(0, 1), 2);
        HerdBooks y = row(3);
        y.week(1);
        y.news(0, 1, 1, false);
        y.news(0, 1, 1, true);
        y.news(0, 0, 1, true);
        parts(y, 0, 1, MILLION, 0, 0);
        due("the second", y.quarrel(0, 0), 1);
        due("no other", y.quarrel(0, 1), NONE);
    }

    /** "SEEN where no PART is" is A QUARREL; where one is, all PARTS are there. */
    private static void seenWhereOnePartIs() {
        HerdBooks x = onePart();
        due("seen where no part is", x.news(0, 3, 5, true), 0);
        parts(x, 0, 5, 0, 999999, 0, 0, 1);
        due("a quarrel", x.quarrel(0, 0), 0);
        due("seen where one is", x.news(0, 4, 5, true), 1);
        parts(x, 0, 5, 0, 0, 0, 0, MILLION);
        due("no second quarrel", x.quarrel(0, 1), NONE);
        due("the first stays", x.quarrel(0, 0), 0);
    }

    /** "not SEEN where all are" is A QUARREL; where all but one are, that one is 1000000 * 1 / 1. */
    private static void notSeenWhereAllButOneAre() {
        HerdBooks x = onePart();
        due("not seen where all but one are", x.news(0, 1, 5, false), 0);
        parts(x, 0, 5, 0, 0, 0, 0, MILLION);
        due("no quarrel", x.quarrel(0, 0), NONE);
        due("not seen where all are", x.news(0, 4, 5, false), 1);
        parts(x, 0, 5, 0, 0, 0, 0, MILLION);
        due("a quarrel", x.quarrel(0, 0), 1);
        HerdBooks y = onePart();
        y.news(0, 4, 5, false);
        parts(y, 0, 5, 0, MILLION, 0, 0, 0);
        due("no quarrel", y.quarrel(0, 0), NONE);
        HerdBooks z = onePart();
        z.news(0, 3, 5, false);
        parts(z, 0, 5, 0, 999999, 0, 0, 1);
        due("not seen where none is fits", z.quarrel(0, 0), NONE);
    }

    /** "PARTS of a CAMP in a CELL in a WEEK (up to 99)", also of WEEKS that come. */
    private static void partsWeeks() {
        HerdBooks x = row(2);
        due("week 99", x.parts(0, 0, 99), 500000);
        due("week 0", x.parts(0, 0, 0), MILLION);
        for (int week : new int[] {-1, 100, MIN, MAX}) {
            due("parts in week " + week, x.parts(0, 0, week), NONE);
            due("likeliest in week " + week, x.likeliest(0, week), NONE);
        }
        due("likeliest in week 99", x.likeliest(0, 99), 0);
    }

    /** "NONE: there is none such (of any), or the WEEK is ahead of its first one." */
    private static void partsOfNoneSuch() {
        HerdBooks x = row(2);
        x.week(7);
        x.camp(1, 0);
        for (int camp : new int[] {-1, 2, MIN, MAX}) {
            due("parts of camp " + camp, x.parts(camp, 0, 9), NONE);
            due("likeliest of camp " + camp, x.likeliest(camp, 9), NONE);
        }
        for (int cell : new int[] {-1, 2, MIN, MAX}) {
            due("parts in cell " + cell, x.parts(0, cell, 9), NONE);
        }
        due("ahead of its first week", x.parts(1, 1, 6), NONE);
        due("in it", x.parts(1, 1, 7), MILLION);
        due("likeliest ahead of its first week", x.likeliest(1, 6), NONE);
        due("likeliest in it", x.likeliest(1, 7), 1);
    }

    /** "LIKELIEST: the CELL with the most PARTS, of several the least." */
    private static void likeliestOfSeveral() {
        HerdBooks x = row(3);
        x.way(0, 2, 1);
        x.grass(0, 1, 0);
        parts(x, 0, 1, 0, 500000, 500000);
        due("of two the least", x.likeliest(0, 1), 1);
        x.week(1);
        x.news(0, 1, 1, false);
        due("the only one", x.likeliest(0, 1), 2);
        HerdBooks y = new HerdBooks();
        for (int i = 0; i < 10; i++) {
            y.cell(false);
        }
        y.camp(9, 0);
        due("the last cell", y.likeliest(0, 0), 9);
        y.way(8, 9, 1);
        due("the one before it", y.likeliest(0, 1), 8);
        // A WEEK behind it is asked for first, in which all are in CELL 0.
        HerdBooks z = row(2);
        z.week(2);
        z.news(0, 0, 2, true);
        due("the later week", z.likeliest(0, 2), 0);
        due("the earlier week", z.likeliest(0, 1), 0);
    }

    /** "The k-th QUARREL of a CAMP, from 0 on, of NEWS by their WEEKS, of one WEEK by numbers". */
    private static void quarrelsInARow() {
        HerdBooks x = row(2);
        due("none yet", x.quarrel(0, 0), NONE);
        x.week(99);
        due("of week 99", x.news(0, 0, 99, false), 0);
        due("of week 99 again", x.news(0, 0, 99, true), 1);
        due("one quarrel, in the week of now", x.quarrel(0, 0), 1);
        due("of week 98", x.news(0, 1, 98, true), 2);
        due("of week 98 again", x.news(0, 0, 98, true), 3);
        due("of week 0", x.news(0, 1, 0, true), 4);
        due("of week 0 again", x.news(0, 0, 0, false), 5);
        int[] want = {4, 5, 3, 1};
        for (int k = 0; k < want.length; k++) {
            due("quarrel " + k, x.quarrel(0, k), want[k]);
        }
        for (int k : new int[] {-1, 4, MIN, MAX}) {
            due("quarrel " + k, x.quarrel(0, k), NONE);
        }
    }

    /** "The k-th QUARREL of a CAMP", of that one alone. */
    private static void quarrelsOfOneCampAlone() {
        HerdBooks x = row(2);
        x.camp(1, 0);
        due("a quarrel of 0", x.news(0, 1, 0, true), 0);
        due("no quarrel of 1", x.news(1, 1, 0, true), 1);
        due("a quarrel of 1", x.news(1, 1, 0, false), 2);
        due("of 0", x.quarrel(0, 0), 0);
        due("no more of 0", x.quarrel(0, 1), NONE);
        due("of 1", x.quarrel(1, 0), 2);
        due("no more of 1", x.quarrel(1, 1), NONE);
        for (int camp : new int[] {-1, 2, MIN, MAX}) {
            due("of camp " + camp, x.quarrel(camp, 0), NONE);
        }
        parts(x, 0, 0, MILLION, 0);
        parts(x, 1, 0, 0, MILLION);
    }

    /** "A WEEK is DRY, or not: true; false: there is none such, or it is so." */
    private static void dryWeeks() {
        HerdBooks x = row(1);
        x.book(0, 0, 0, 1, 1);
        Check.rules(x, "if dry: bar;");
        for (int week : new int[] {-1, 100, MIN, MAX}) {
            CHECK.no("dry " + week, x.dry(week, true));
            CHECK.no("not dry " + week, x.dry(week, false));
        }
        for (int week : new int[] {0, 99}) {
            CHECK.no("not dry at first", x.dry(week, false));
            due("it is not", x.rule(0, 0, week, 0), NONE);
            CHECK.yes("dry", x.dry(week, true));
            CHECK.no("dry it is so", x.dry(week, true));
            due("it is", x.rule(0, 0, week, 0), 0);
            CHECK.yes("not dry", x.dry(week, false));
            CHECK.no("not dry it is so", x.dry(week, false));
            due("it is no longer", x.rule(0, 0, week, 0), NONE);
        }
        due("its neighbour is not", x.rule(0, 0, 1, 0), NONE);
    }

    /** "The WEEK of now: true; false: it is earlier than it was, or above 99." */
    private static void weekOfNow() {
        HerdBooks x = row(1);
        CHECK.no("week -1", x.week(-1));
        CHECK.no("week MIN", x.week(MIN));
        CHECK.yes("week 0 as it is", x.week(0));
        CHECK.no("week 100", x.week(100));
        CHECK.no("week MAX", x.week(MAX));
        due("week 0 still", x.count(6), 0);
        CHECK.yes("week 98", x.week(98));
        CHECK.no("week 97", x.week(97));
        due("week 98 still", x.count(6), 98);
        CHECK.yes("week 99", x.week(99));
        CHECK.yes("week 99 as it is", x.week(99));
        CHECK.no("week 98 again", x.week(98));
        CHECK.no("week 100 behind it", x.week(100));
        due("week 99 still", x.count(6), 99);
    }

    /** "THE VIEW is a WEEK (NONE: NOW): true; false: it is later than now, or none." */
    private static void viewUpToNow() {
        HerdBooks x = row(1);
        CHECK.no("view 1 in week 0", x.view(1));
        CHECK.yes("view 0 in week 0", x.view(0));
        due("view 0", x.count(7), 0);
        x.week(5);
        for (int week : new int[] {6, 99, 100, -2, MIN, MAX}) {
            CHECK.no("view " + week, x.view(week));
            due("view 0 still", x.count(7), 0);
        }
        CHECK.yes("view 5", x.view(5));
        CHECK.yes("view NONE", x.view(NONE));
        due("now", x.count(7), NONE);
        CHECK.no("view 6", x.view(6));
        due("now still", x.count(7), NONE);
        x.week(99);
        CHECK.yes("view 6 now", x.view(6));
        CHECK.yes("view 99", x.view(99));
        CHECK.no("view 100", x.view(100));
        due("view 99", x.count(7), 99);
    }

    /** "told by the end of that WEEK": what comes in the WEEK of THE VIEW, but later, counts. */
    private static void viewToTheEndOfItsWeek() {
        HerdBooks x = row(2);
        x.week(4);
        x.view(4);
        x.news(0, 1, 1, true);
        due("told in that week", x.parts(0, 1, 1), MILLION);
        due("news by the view", x.count(10), 1);
        x.week(5);
        x.news(0, 0, 3, true);
        parts(x, 0, 3, 500000, 500000);
        due("told behind it", x.count(10), 1);
        due("in all", x.count(3), 2);
        x.view(5);
        parts(x, 0, 3, MILLION, 0);
        due("news by a later view", x.count(10), 2);
    }

    /** "asked by GRASS .. told by the end of that WEEK". */
    private static void viewOfGrass() {
        HerdBooks x = row(2);
        x.week(2);
        x.grass(1, 1, 3);
        x.week(3);
        x.grass(1, 1, 0);
        x.view(1);
        parts(x, 0, 1, 500000, 500000);
        x.view(2);
        parts(x, 0, 1, 250000, 750000);
        x.view(3);
        parts(x, 0, 1, MILLION, 0);
        due("house by the view of 3", x.house(1, 1, 1), MILLION);
        x.view(2);
        due("house by the view of 2", x.house(1, 1, 1), 750000);
        due("likeliest by the view of 2", x.likeliest(0, 1), 1);
        x.view(NONE);
        due("likeliest now", x.likeliest(0, 1), 0);
        // Both views again, with GRASS told meanwhile: of both, what is told now is answered.
        x.view(2);
        parts(x, 0, 1, 250000, 750000);
        x.grass(1, 0, 9);
        parts(x, 0, 1, 250000, 750000);
        x.way(0, 1, 9);
        x.cell(false);
        x.way(0, 2, 1);
        parts(x, 0, 1, 200000, 600000, 200000);
        x.view(NONE);
        parts(x, 0, 1, 500000, 0, 500000);
    }

    /** "asked by .. NEWS .. told by the end of that WEEK". */
    private static void viewOfNews() {
        HerdBooks x = row(2);
        x.week(2);
        x.news(0, 1, 0, true);
        x.view(2);
        due("a quarrel told in that week", x.quarrel(0, 0), 0);
        x.view(1);
        due("not known the week before", x.quarrel(0, 0), NONE);
        due("no news then", x.count(10), 0);
        x.view(2);
        due("known again", x.quarrel(0, 0), 0);
        due("one then", x.count(10), 1);
        x.view(0);
        due("not known at first", x.quarrel(0, 0), NONE);
        x.view(NONE);
        due("known now", x.quarrel(0, 0), 0);
    }

    /** "NONE: WEEKS are not 0 .. 99, a is above b, .. or for another what." */
    private static void houseWeeks() {
        HerdBooks x = row(2);
        int[][] wrong = {{-1, 0}, {0, 100}, {100, 100}, {-1, -1}, {1, 0}, {99, 98}, {MIN, MAX}, {MAX, MIN}, {-1, 100}};
        for (int[] w : wrong) {
            for (int what = 0; what < 2; what++) {
                due("house(" + w[0] + ", " + w[1] + ")", x.house(w[0], w[1], what), NONE);
            }
        }
        for (int what : new int[] {-1, 2, MIN, MAX}) {
            due("what " + what, x.house(0, 0, what), NONE);
        }
        due("0 .. 0", x.house(0, 0, 1), MILLION);
        due("99 .. 99", x.house(99, 99, 1), 500000);
        due("98 .. 99", x.house(98, 99, 1), MILLION);
        due("0 .. 99", x.house(0, 99, 1), MILLION + 99 * 500000);
    }

    /** "there are no CELLS"; with CELLS alone none has a PART, and of several it is the least. */
    private static void houseOfNothing() {
        HerdBooks x = new HerdBooks();
        due("no cells", x.house(0, 99, 0), NONE);
        due("no cells, no parts", x.house(0, 99, 1), NONE);
        x.cell(false);
        x.cell(false);
        due("no camps", x.house(0, 99, 0), 0);
        due("no parts", x.house(0, 99, 1), 0);
        x.week(50);
        x.camp(1, 0);
        due("ahead of its first week", x.house(0, 49, 0), 0);
        due("no parts ahead of it", x.house(0, 49, 1), 0);
        due("with its first week", x.house(0, 50, 0), 1);
        due("parts of one week", x.house(0, 50, 1), MILLION);
        due("to the last week", x.house(0, 99, 1), 50 * MILLION);
    }

    /** "the CELL with the most PARTS of all CAMPS in all these WEEKS together; of several the least". */
    private static void houseOfAll() {
        HerdBooks x = new HerdBooks();
        for (int i = 0; i < 10; i++) {
            x.cell(false);
        }
        for (int i = 0; i < 5; i++) {
            x.camp(9, 0);
        }
        due("in the last cell", x.house(0, 99, 0), 9);
        due("five camps", x.house(0, 99, 1), 500 * MILLION);
        x.camp(9, 0);
        due("six camps", x.house(0, 99, 1), 600 * MILLION);
        HerdBooks y = row(3);
        y.camp(1, 0);
        y.camp(2, 0);
        y.way(0, 2, 1);
        due("three alike", y.house(0, 0, 0), 0);
        due("one of each", y.house(0, 0, 1), MILLION);
        y.grass(0, 1, 0);
        due("two alike", y.house(1, 1, 0), 1);
        due("half of each", y.house(1, 1, 1), 1500000);
    }
}
