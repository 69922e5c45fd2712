/** Promises 28 to 31: ROUND, STOPS, WISHES, LOAD. */
public final class RoundsTest {
    private static final Check CHECK = new Check("RoundsTest");
    private static final int NONE = HerdBooks.NONE;
    private static final int MAX = Integer.MAX_VALUE;

    public static void main(String[] args) {
        wrongRounds();
        roundByDays();
        roundThatMeetsNothing();
        roundsAlike();
        stopsInOrder();
        passedCellsCountForNothing();
        shedWithWell();
        tenCells();
        roundInWeekAndView();
        wishes();
        wrongLoads();
        loadByWorth();
        loadsAlike();
        loadOfAllKinds();
        booksForALoad();
        loadInView();
        loadByRulesInView();
        CHECK.close();
    }

    private static void round(HerdBooks x, int week, int days, int meets, int length, int set, int... stops) {
        String call = "round(" + week + ", " + days + ")";
        CHECK.due(call + " meets", x.round(week, days, 0), meets);
        CHECK.due(call + " days", x.round(week, days, 1), length);
        CHECK.due(call + " set", x.round(week, days, 2), set);
        for (int i = 0; i < stops.length; i++) {
            CHECK.due(call + " stop " + i, x.stop(week, days, i), stops[i]);
        }
        CHECK.due(call + " no more stops", x.stop(week, days, stops.length), NONE);
    }

    /** CELLS in a row, 1 day apart, those named with WELLS. */
    private static HerdBooks row(boolean... wells) {
        HerdBooks x = new HerdBooks();
        for (int i = 0; i < wells.length; i++) {
            x.cell(wells[i]);
            x.way(i, i - 1, 1);
        }
        return x;
    }

    private static void wrongRounds() {
        HerdBooks x = new HerdBooks();
        CHECK.due("no cells", x.round(0, 1, 0), NONE);
        CHECK.due("no cells to stop in", x.stop(0, 1, 0), NONE);
        x.cell(true);
        int[][] wrong = {{-1, 1, 0}, {100, 1, 0}, {0, 0, 0}, {0, 61, 0}, {0, -1, 0}, {0, MAX, 0}, {0, 1, 3}, {0, 1, -1}};
        for (int[] w : wrong) {
            CHECK.due("round of none such", x.round(w[0], w[1], w[2]), NONE);
        }
        CHECK.due("a round at home", x.round(99, 60, 0), 0);
        CHECK.due("its set", x.round(99, 60, 2), 0);
        HerdBooks y = row(false, true);
        y.camp(1, 0);
        CHECK.due("stop", y.stop(0, 2, 0), 1);
        int[][] none = {{0, 2, 1}, {0, 2, -1}, {0, 1, 0}, {-1, 2, 0}, {100, 2, 0}, {0, 0, 0}, {0, 61, 0}};
        for (int[] w : none) {
            CHECK.due("stop of none such", y.stop(w[0], w[1], w[2]), NONE);
        }
    }

    private static void roundByDays() {
        HerdBooks x = new HerdBooks();
        for (int i = 0; i < 4; i++) {
            x.cell(i > 0);
        }
        x.way(0, 1, 2);
        x.way(0, 2, 3);
        x.way(0, 3, 9);
        x.way(1, 2, 4);
        x.camp(1, 0);
        x.camp(2, 0);
        x.camp(2, 0);
        x.camp(3, 0);
        round(x, 0, 3, 0, 0, 0);
        round(x, 0, 4, 1000000, 4, 1 << 1, 1);
        round(x, 0, 5, 1000000, 4, 1 << 1, 1);
        round(x, 0, 6, 2000000, 6, 1 << 2, 2);
        round(x, 0, 8, 2000000, 6, 1 << 2, 2);
        round(x, 0, 9, 3000000, 9, 1 << 1 | 1 << 2, 1, 2);
        round(x, 0, 26, 3000000, 9, 1 << 1 | 1 << 2, 1, 2);
        round(x, 0, 27, 4000000, 27, 14, 1, 2, 3);
        round(x, 0, 60, 4000000, 27, 14, 1, 2, 3);
    }

    private static void roundThatMeetsNothing() {
        HerdBooks x = row(false, true, false);
        x.camp(2, 0);
        round(x, 0, 60, 0, 0, 0);
        x.cell(true);
        x.camp(3, 0);
        round(x, 0, 60, 0, 0, 0);
        x.way(3, 2, 1);
        round(x, 0, 60, 1000000, 6, 8, 3);
    }

    private static void roundsAlike() {
        HerdBooks x = row(false, true, true, true);
        x.camp(3, 0);
        x.camp(2, 0);
        // Only one of both can be met in 4 days; CELL 1 adds nothing and no day, so it stays out.
        round(x, 0, 5, 1000000, 4, 4, 2);
        round(x, 0, 6, 2000000, 6, 12, 2, 3);
        HerdBooks y = new HerdBooks();
        for (int i = 0; i < 3; i++) {
            y.cell(i > 0);
        }
        y.way(0, 1, 2);
        y.way(0, 2, 2);
        y.camp(2, 0);
        y.camp(1, 0);
        round(y, 0, 4, 1000000, 4, 2, 1);
        y.way(0, 2, 1);
        round(y, 0, 5, 1000000, 2, 4, 2);
    }

    private static void stopsInOrder() {
        // A ring of six CELLS, 1 day apart: both ways round are as long.
        HerdBooks x = new HerdBooks();
        int[] ring = {0, 4, 2, 5, 1, 3};
        for (int i = 0; i < 6; i++) {
            x.cell(i > 0);
        }
        for (int i = 0; i < 6; i++) {
            x.way(ring[i], ring[(i + 1) % 6], 1);
        }
        for (int i = 1; i < 6; i++) {
            x.camp(i, 0);
        }
        round(x, 0, 6, 5000000, 6, 62, 3, 1, 5, 2, 4);
        // In a row, out and back as long in any order in which it passes: the least row takes all on the way out.
        HerdBooks y = row(false, true, true, true);
        y.camp(1, 0);
        y.camp(2, 0);
        y.camp(3, 0);
        round(y, 0, 6, 3000000, 6, 14, 1, 2, 3);
        CHECK.due("as many days by 2", y.round(0, 7, 1), 6);
        // The farthest CELL has the least number.
        HerdBooks z = new HerdBooks();
        for (int i = 0; i < 4; i++) {
            z.cell(i > 0);
        }
        z.way(0, 3, 1);
        z.way(3, 2, 1);
        z.way(2, 1, 1);
        z.camp(1, 0);
        z.camp(2, 0);
        z.camp(3, 0);
        round(z, 0, 6, 3000000, 6, 14, 1, 2, 3);
    }

    private static void passedCellsCountForNothing() {
        HerdBooks x = new HerdBooks();
        for (int i = 0; i < 4; i++) {
            x.cell(i == 3);
        }
        x.way(0, 3, 9);
        x.way(0, 1, 2);
        x.way(1, 2, 2);
        x.way(2, 3, 2);
        x.camp(1, 0);
        x.camp(3, 0);
        round(x, 0, 11, 0, 0, 0);
        round(x, 0, 12, 1000000, 12, 8, 3);
    }

    private static void shedWithWell() {
        HerdBooks x = row(true, true);
        x.camp(0, 0);
        x.camp(1, 0);
        round(x, 0, 1, 1000000, 0, 0);
        round(x, 0, 2, 2000000, 2, 2, 1);
        HerdBooks y = row(false, true);
        y.camp(0, 0);
        round(y, 0, 60, 0, 0, 0);
    }

    private static void tenCells() {
        boolean[] wells = new boolean[10];
        java.util.Arrays.fill(wells, true);
        HerdBooks x = row(wells);
        x.camp(9, 0);
        round(x, 0, 17, 0, 0, 0);
        round(x, 0, 18, 1000000, 18, 1 << 9, 9);
        x.way(0, 9, 1);
        round(x, 0, 2, 1000000, 2, 1 << 9, 9);
        // A ring now; in WEEK 1 a third lies in each of 8, 9 and 0.
        round(x, 1, 2, 666667, 2, 1 << 9, 9);
        round(x, 1, 4, 1000000, 4, 3 << 8, 8, 9);
        // In WEEK 9 some lie in every CELL, and all of the ring is gone round.
        round(x, 9, 10, 1000000, 10, 1022, 1, 2, 3, 4, 5, 6, 7, 8, 9);
        round(x, 9, 60, 1000000, 10, 1022, 1, 2, 3, 4, 5, 6, 7, 8, 9);
    }

    private static void roundInWeekAndView() {
        HerdBooks x = row(false, true, true);
        x.camp(1, 0);
        round(x, 0, 60, 1000000, 2, 2, 1);
        round(x, 1, 60, 666666, 4, 6, 1, 2);
        round(x, 1, 2, 333333, 2, 2, 1);
        x.week(3);
        x.camp(1, 0);
        round(x, 0, 60, 1000000, 2, 2, 1);
        x.news(0, 2, 1, true);
        round(x, 1, 60, 1000000, 4, 4, 2);
        x.view(2);
        round(x, 1, 2, 333333, 2, 2, 1);
    }

    private static void wishes() {
        HerdBooks x = row(false);
        CHECK.no("no camp", x.wish(0, 0, 1));
        x.camp(0, 0);
        CHECK.yes("wish 0", x.wish(0, 0, 0));
        CHECK.yes("wish 99", x.wish(0, 7, 99));
        CHECK.no("wish -1", x.wish(0, 0, -1));
        CHECK.no("wish 100", x.wish(0, 0, 100));
        CHECK.no("kind -1", x.wish(0, -1, 1));
        CHECK.no("kind 8", x.wish(0, 8, 1));
        CHECK.no("camp 1", x.wish(1, 0, 1));
        CHECK.no("camp -1", x.wish(-1, 0, 1));
    }

    private static void load(HerdBooks x, int camp, int grams, int worth, int weight, int set) {
        String call = "load(" + camp + ", " + grams + ")";
        CHECK.due(call + " worth", x.load(camp, grams, 0), worth);
        CHECK.due(call + " grams", x.load(camp, grams, 1), weight);
        CHECK.due(call + " set", x.load(camp, grams, 2), set);
    }

    private static void wrongLoads() {
        HerdBooks x = row(false);
        CHECK.due("no camp", x.load(0, 1, 0), NONE);
        x.camp(0, 0);
        load(x, 0, 1, 0, 0, 0);
        load(x, 0, 20000, 0, 0, 0);
        int[][] wrong = {{-1, 1, 0}, {1, 1, 0}, {0, 0, 0}, {0, 20001, 0}, {0, -1, 0}, {0, 1, 3}, {0, 1, -1}};
        for (int[] w : wrong) {
            CHECK.due("load of none such", x.load(w[0], w[1], w[2]), NONE);
        }
    }

    private static void loadByWorth() {
        HerdBooks x = row(false);
        x.camp(0, 0);
        x.book(0, 0, 0, 1, 700);
        x.book(1, 0, 0, 1, 500);
        x.book(2, 0, 0, 1, 400);
        x.book(2, 0, 0, 1, 300);
        x.book(3, 0, 0, 1, 1);
        x.wish(0, 0, 10);
        x.wish(0, 1, 6);
        x.wish(0, 2, 5);
        load(x, 0, 299, 0, 0, 0);
        load(x, 0, 300, 5, 300, 8);
        load(x, 0, 699, 6, 500, 2);
        load(x, 0, 700, 10, 700, 1);
        load(x, 0, 800, 11, 800, 10);
        load(x, 0, 1000, 15, 1000, 9);
        load(x, 0, 1499, 16, 1200, 3);
        load(x, 0, 1500, 21, 1500, 11);
        load(x, 0, 20000, 21, 1500, 11);
        x.wish(0, 3, 1);
        load(x, 0, 20000, 22, 1501, 27);
        x.wish(0, 3, 0);
        x.wish(0, 0, 0);
        load(x, 0, 1000, 11, 800, 10);
    }

    private static void loadsAlike() {
        HerdBooks x = row(false);
        x.camp(0, 0);
        x.book(0, 0, 0, 1, 100);
        x.book(0, 0, 0, 1, 100);
        x.book(1, 0, 0, 1, 100);
        x.book(2, 0, 0, 1, 90);
        x.wish(0, 0, 3);
        x.wish(0, 1, 3);
        x.wish(0, 2, 2);
        load(x, 0, 150, 3, 100, 1);
        load(x, 0, 199, 5, 190, 9);
        load(x, 0, 200, 6, 200, 5);
        x.wish(0, 2, 3);
        load(x, 0, 150, 3, 90, 8);
    }

    private static void loadOfAllKinds() {
        HerdBooks x = row(false);
        x.camp(0, 0);
        for (int book = 0; book < 24; book++) {
            x.book(book % 8, 0, 0, 1, 100 + (book + 8) % 24);
        }
        load(x, 0, 20000, 0, 0, 0);
        for (int kind = 0; kind < 8; kind++) {
            x.wish(0, kind, 1 << kind > 99 ? 99 : 1 << kind);
        }
        // The lightest of each KIND are BOOKS 16 .. 23, of 100 .. 107 grams.
        load(x, 0, 20000, 226, 828, 255 << 16);
        load(x, 0, 828, 226, 828, 255 << 16);
        load(x, 0, 827, 225, 728, 254 << 16);
        load(x, 0, 100, 1, 100, 1 << 16);
        load(x, 0, 107, 99, 107, 1 << 23);
    }

    private static void booksForALoad() {
        HerdBooks x = row(false);
        x.camp(0, 0);
        x.camp(0, 1);
        x.book(0, 0, 0, 1, 100);
        x.book(1, 1, 0, 1, 100);
        x.book(2, 0, 9, 1, 100);
        x.book(3, 0, 0, 1, 100);
        for (int kind = 0; kind < 4; kind++) {
            x.wish(0, kind, 1);
            x.wish(1, kind, 1);
        }
        load(x, 0, 1000, 3, 300, 13);
        load(x, 1, 1000, 1, 100, 2);
        Check.rules(x, "if level > 8: bar;");
        load(x, 0, 1000, 2, 200, 9);
        x.lend(3, 1);
        load(x, 0, 1000, 1, 100, 1);
        x.back(3);
        load(x, 0, 1000, 2, 200, 9);
        x.lend(0, 1);
        x.week(3);
        x.pass(0, 0, 1);
        x.pass(0, 1, 2);
        x.back(0);
        // The CAMP had it once.
        load(x, 0, 1000, 1, 100, 8);
        x.tear(0, 1, 2);
        load(x, 1, 1000, 1, 100, 2);
    }

    private static void loadInView() {
        HerdBooks x = row(false);
        x.camp(0, 0);
        x.book(0, 0, 0, 1, 100);
        x.wish(0, 0, 7);
        x.week(2);
        x.lend(0, 0);
        load(x, 0, 1000, 0, 0, 0);
        x.view(1);
        load(x, 0, 1000, 7, 100, 1);
        x.view(NONE);
        x.week(3);
        x.back(0);
        x.view(2);
        load(x, 0, 1000, 0, 0, 0);
        x.view(1);
        load(x, 0, 1000, 7, 100, 1);
    }

    private static void loadByRulesInView() {
        HerdBooks x = row(false);
        x.camp(0, 0);
        x.camp(0, 1);
        x.book(0, 0, 0, 9, 100);
        x.book(1, 0, 0, 9, 100);
        x.wish(0, 0, 7);
        x.wish(0, 1, 5);
        x.lend(1, 0);
        x.lend(0, 1);
        x.week(1);
        x.tear(0, 2, 1);
        x.back(0);
        x.week(2);
        x.back(1);
        Check.rules(x, "if left < 8: bar;");
        load(x, 0, 1000, 0, 0, 0);
        Check.rules(x, "if held > 0: bar;");
        load(x, 0, 1000, 7, 100, 1);
        x.view(1);
        load(x, 0, 1000, 0, 0, 0);
        HerdBooks y = row(false);
        y.camp(0, 0);
        y.camp(0, 1);
        y.book(0, 0, 0, 9, 100);
        y.wish(0, 0, 7);
        y.lend(0, 1);
        y.back(0);
        y.week(2);
        y.lend(0, 1);
        y.tear(0, 5, 2);
        y.back(0);
        Check.rules(y, "if left < 8: bar;");
        load(y, 0, 1000, 0, 0, 0);
        y.view(1);
        load(y, 0, 1000, 7, 100, 1);
    }
}
