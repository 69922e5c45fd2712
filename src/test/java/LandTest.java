/** Promises 1 to 12 and 36: CELLS, WAYS, CAMPS, GRASS, WEEKS, THE VIEW, NEWS, PARTS, QUARRELS, HOUSE. */
public final class LandTest {
    private static final Check CHECK = new Check("LandTest");
    private static final int NONE = HerdBooks.NONE;
    private static final int MIN = Integer.MIN_VALUE;
    private static final int MAX = Integer.MAX_VALUE;

    public static void main(String[] args) {
        newObject();
        cells();
        ways();
        camps();
        grassTold();
        dryWeeks();
        weeks();
        views();
        newsTold();
        partsMove();
        partsByGrass();
        partsByNews();
        partsInView();
        quarrels();
        houses();
        CHECK.close();
    }

    /** Three CELLS in a row, and a CAMP in the first. */
    private static HerdBooks row() {
        HerdBooks x = new HerdBooks();
        x.cell(false);
        x.cell(true);
        x.cell(false);
        x.way(0, 1, 2);
        x.way(2, 1, 3);
        x.camp(0, 0);
        return x;
    }

    private static void parts(HerdBooks x, int camp, int week, int... want) {
        for (int cell = 0; cell < want.length; cell++) {
            CHECK.due("parts(" + camp + ", " + cell + ", " + week + ")", x.parts(camp, cell, week), want[cell]);
        }
    }

    private static void newObject() {
        HerdBooks x = new HerdBooks();
        int[] want = {0, 0, 0, 0, 0, 0, 0, -1, 0, 0, 0, 0, -2};
        for (int what = 0; what < want.length; what++) {
            CHECK.due("new count " + what, x.count(what), want[what]);
        }
        CHECK.due("new fault 0", x.fault(0), 0);
        CHECK.due("new fault 1", x.fault(1), NONE);
        CHECK.due("new tape", x.end(1), NONE);
        CHECK.due("new round", x.round(0, 1, 0), NONE);
        CHECK.due("new house", x.house(0, 0, 0), NONE);
        for (int k = 0; k < 3; k++) {
            CHECK.no("new image", x.again(k));
        }
        CHECK.due("NONE", HerdBooks.NONE, -1);
    }

    private static void cells() {
        HerdBooks x = new HerdBooks();
        for (int i = 0; i < 10; i++) {
            CHECK.due("cell " + i, x.cell(i % 2 == 0), i);
        }
        CHECK.due("11th cell", x.cell(true), NONE);
        CHECK.due("cells", x.count(0), 10);
    }

    private static void ways() {
        HerdBooks x = new HerdBooks();
        CHECK.no("way without cells", x.way(0, 1, 1));
        x.cell(false);
        x.cell(true);
        CHECK.yes("way 1 day", x.way(0, 1, 1));
        CHECK.yes("way 9 days", x.way(1, 0, 9));
        CHECK.yes("way told as it is", x.way(1, 0, 9));
        CHECK.no("way 0 days", x.way(0, 1, 0));
        CHECK.no("way 10 days", x.way(0, 1, 10));
        CHECK.no("way to itself", x.way(1, 1, 3));
        CHECK.no("way to no cell", x.way(0, 2, 3));
        CHECK.no("way from no cell", x.way(-1, 0, 3));
        CHECK.no("way of extremes", x.way(MIN, MAX, MAX));
        x.camp(1, 0);
        CHECK.due("the way told anew counts, to there", x.round(0, 17, 1), 0);
        CHECK.due("and back", x.round(0, 18, 1), 18);
        x.way(0, 1, 2);
        CHECK.due("told anew it is shorter", x.round(0, 4, 1), 4);
    }

    private static void camps() {
        HerdBooks x = new HerdBooks();
        CHECK.due("camp without cells", x.camp(0, 0), NONE);
        x.cell(false);
        CHECK.due("camp in no cell", x.camp(1, 0), NONE);
        CHECK.due("camp in cell -1", x.camp(-1, 0), NONE);
        CHECK.due("tongue 4", x.camp(0, 4), NONE);
        CHECK.due("tongue -1", x.camp(0, -1), NONE);
        for (int i = 0; i < 6; i++) {
            CHECK.due("camp " + i, x.camp(0, i % 4), i);
        }
        CHECK.due("7th camp", x.camp(0, 0), NONE);
        CHECK.due("camps", x.count(1), 6);
    }

    private static void grassTold() {
        HerdBooks x = new HerdBooks();
        CHECK.no("grass of no cell", x.grass(0, 0, 5));
        x.cell(false);
        CHECK.no("grass of cell -1", x.grass(-1, 0, 5));
        CHECK.no("grass in week -1", x.grass(0, -1, 5));
        CHECK.no("grass in week 100", x.grass(0, 100, 5));
        CHECK.no("grass -1", x.grass(0, 0, -1));
        CHECK.no("grass 100", x.grass(0, 0, 100));
        for (int i = 0; i < 60; i++) {
            CHECK.yes("grass " + i, x.grass(0, i == 0 ? 0 : 99, i == 0 ? 0 : 99));
        }
        CHECK.no("61st grass", x.grass(0, 0, 5));
    }

    private static void dryWeeks() {
        HerdBooks x = new HerdBooks();
        CHECK.no("not dry at first", x.dry(0, false));
        CHECK.yes("dry", x.dry(0, true));
        CHECK.no("dry again", x.dry(0, true));
        CHECK.yes("not dry", x.dry(0, false));
        CHECK.yes("dry 99", x.dry(99, true));
        CHECK.no("dry 100", x.dry(100, true));
        CHECK.no("dry -1", x.dry(-1, true));
        CHECK.no("dry MIN", x.dry(MIN, false));
    }

    private static void weeks() {
        HerdBooks x = new HerdBooks();
        CHECK.yes("week as it is", x.week(0));
        CHECK.no("week -1", x.week(-1));
        CHECK.yes("week 7", x.week(7));
        CHECK.yes("week 7 again", x.week(7));
        CHECK.no("week 6", x.week(6));
        CHECK.no("week 100", x.week(100));
        CHECK.due("the week", x.count(6), 7);
        CHECK.yes("week 99", x.week(99));
        CHECK.no("week MAX", x.week(MAX));
        CHECK.due("the last week", x.count(6), 99);
    }

    private static void views() {
        HerdBooks x = new HerdBooks();
        x.week(5);
        CHECK.yes("view of now's week", x.view(5));
        CHECK.due("the view", x.count(7), 5);
        CHECK.no("view ahead", x.view(6));
        CHECK.no("view -2", x.view(-2));
        CHECK.due("the view stays", x.count(7), 5);
        x.week(6);
        CHECK.due("the view stays when the week goes on", x.count(7), 5);
        CHECK.yes("view 0", x.view(0));
        CHECK.yes("view now", x.view(NONE));
        CHECK.due("the view is now", x.count(7), NONE);
    }

    private static void newsTold() {
        HerdBooks x = new HerdBooks();
        CHECK.due("news of nothing", x.news(0, 0, 0, true), NONE);
        x.cell(false);
        x.week(3);
        x.camp(0, 0);
        x.week(5);
        CHECK.due("news of no camp", x.news(1, 0, 4, true), NONE);
        CHECK.due("news of camp -1", x.news(-1, 0, 4, true), NONE);
        CHECK.due("news of no cell", x.news(0, 1, 4, true), NONE);
        CHECK.due("news of cell -1", x.news(0, -1, 4, true), NONE);
        CHECK.due("news ahead of the first week", x.news(0, 0, 2, true), NONE);
        CHECK.due("news later than now", x.news(0, 0, 6, true), NONE);
        CHECK.due("news of week -1", x.news(0, 0, -1, true), NONE);
        CHECK.due("news in the first week", x.news(0, 0, 3, true), 0);
        for (int i = 1; i < 60; i++) {
            CHECK.due("news " + i, x.news(0, 0, 5, i % 2 == 0), i);
        }
        CHECK.due("61st news", x.news(0, 0, 5, true), NONE);
        CHECK.due("news", x.count(3), 60);
    }

    private static void partsMove() {
        HerdBooks x = row();
        parts(x, 0, 0, 1000000, 0, 0);
        parts(x, 0, 2, 416667, 416667, 166666);
        parts(x, 0, 1, 500000, 500000, 0);
        parts(x, 0, 3, 347223, 430555, 222222);
        parts(x, 0, 4, 317131, 428240, 254629);
        CHECK.due("likeliest, of several the least", x.likeliest(0, 2), 0);
        CHECK.due("likeliest", x.likeliest(0, 3), 1);
        int all = x.parts(0, 0, 99) + x.parts(0, 1, 99) + x.parts(0, 2, 99);
        CHECK.due("all in week 99", all, 1000000);
        x.week(2);
        CHECK.due("second camp", x.camp(2, 1), 1);
        parts(x, 1, 2, 0, 0, 1000000);
        parts(x, 1, 3, 0, 500000, 500000);
        CHECK.due("ahead of its first week", x.parts(1, 2, 1), NONE);
        CHECK.due("likeliest ahead of its first week", x.likeliest(1, 1), NONE);
        int[][] wrong = {{2, 0, 2}, {-1, 0, 2}, {0, 3, 2}, {0, -1, 2}, {0, 0, 100}, {0, 0, -1}, {MAX, MIN, MAX}};
        for (int[] w : wrong) {
            CHECK.due("parts of none such", x.parts(w[0], w[1], w[2]), NONE);
        }
        CHECK.due("likeliest of no camp", x.likeliest(2, 2), NONE);
        CHECK.due("likeliest in week 100", x.likeliest(0, 100), NONE);
        CHECK.due("likeliest in week -1", x.likeliest(0, -1), NONE);
        x.way(0, 2, 9);
        parts(x, 0, 1, 333334, 333333, 333333);
    }

    private static void partsByGrass() {
        HerdBooks x = row();
        x.way(0, 2, 1);
        x.grass(1, 1, 2);
        x.grass(2, 0, 4);
        // 7 in all: rests 1, 2 and 4, and one is left.
        parts(x, 0, 1, 142857, 285714, 571429);
        x.grass(1, 0, 50);
        parts(x, 0, 1, 142857, 285714, 571429);
        x.grass(1, 1, 1);
        x.grass(2, 0, 2);
        parts(x, 0, 1, 250000, 250000, 500000);
        x.grass(0, 1, 0);
        x.grass(1, 1, 0);
        parts(x, 0, 1, 0, 0, 1000000);
        x.grass(2, 1, 0);
        parts(x, 0, 1, 1000000, 0, 0);
        parts(x, 0, 99, 1000000, 0, 0);
        x.grass(1, 5, 1);
        parts(x, 0, 4, 1000000, 0, 0);
        parts(x, 0, 5, 0, 1000000, 0);
        HerdBooks y = row();
        y.way(0, 2, 1);
        y.grass(0, 0, 3);
        y.grass(1, 0, 3);
        // Rests 3, 3 and 1 of 7, and one is left: to the least of the greatest.
        parts(y, 0, 1, 428572, 428571, 142857);
    }

    private static void partsByNews() {
        HerdBooks x = row();
        x.week(2);
        x.news(0, 0, 2, false);
        parts(x, 0, 2, 0, 714287, 285713);
        parts(x, 0, 3, 238096, 380953, 380951);
        x.news(0, 2, 2, true);
        parts(x, 0, 2, 0, 0, 1000000);
        parts(x, 0, 3, 0, 500000, 500000);
        x.news(0, 1, 1, true);
        parts(x, 0, 1, 0, 1000000, 0);
        // Now a third lies in each, none in 0 by the first NEWS, and all in 2 by the second.
        parts(x, 0, 2, 0, 0, 1000000);
        HerdBooks y = row();
        y.news(0, 0, 0, true);
        parts(y, 0, 0, 1000000, 0, 0);
        y.week(2);
        y.news(0, 2, 1, false);
        parts(y, 0, 1, 500000, 500000, 0);
        y.news(0, 1, 2, false);
        parts(y, 0, 2, 714287, 0, 285713);
    }

    private static void partsInView() {
        HerdBooks x = row();
        x.week(4);
        x.news(0, 1, 1, true);
        x.week(6);
        x.grass(0, 2, 0);
        x.grass(1, 2, 0);
        parts(x, 0, 2, 0, 0, 1000000);
        x.view(5);
        parts(x, 0, 2, 333334, 333333, 333333);
        x.view(4);
        parts(x, 0, 2, 333334, 333333, 333333);
        CHECK.due("news by the view", x.count(10), 1);
        x.view(3);
        parts(x, 0, 2, 416667, 416667, 166666);
        CHECK.due("no news by the view", x.count(10), 0);
        CHECK.due("news in all", x.count(3), 1);
        x.view(NONE);
        parts(x, 0, 2, 0, 0, 1000000);
        CHECK.due("likeliest now", x.likeliest(0, 2), 2);
        x.view(0);
        CHECK.due("likeliest then", x.likeliest(0, 2), 0);
    }

    private static void quarrels() {
        HerdBooks x = row();
        x.week(4);
        x.news(0, 2, 4, true);
        x.news(0, 2, 1, true);
        x.news(0, 0, 1, true);
        x.news(0, 0, 1, false);
        x.news(0, 0, 4, true);
        x.week(5);
        x.news(0, 1, 0, true);
        x.news(0, 0, 0, false);
        parts(x, 0, 0, 1000000, 0, 0);
        parts(x, 0, 1, 1000000, 0, 0);
        parts(x, 0, 4, 0, 0, 1000000);
        int[] want = {5, 6, 1, 3, 4};
        for (int k = 0; k < want.length; k++) {
            CHECK.due("quarrel " + k, x.quarrel(0, k), want[k]);
        }
        CHECK.due("quarrel 5", x.quarrel(0, 5), NONE);
        CHECK.due("quarrel -1", x.quarrel(0, -1), NONE);
        CHECK.due("quarrel of no camp", x.quarrel(1, 0), NONE);
        CHECK.due("quarrel of camp -1", x.quarrel(-1, 0), NONE);
        x.view(4);
        CHECK.due("quarrel 0 by the view", x.quarrel(0, 0), 1);
        CHECK.due("quarrel 3 by the view", x.quarrel(0, 3), NONE);
        x.view(3);
        CHECK.due("no quarrel by the view", x.quarrel(0, 0), NONE);
    }

    private static void houses() {
        HerdBooks x = new HerdBooks();
        CHECK.due("house without cells", x.house(0, 99, 0), NONE);
        x.cell(false);
        x.cell(false);
        CHECK.due("house without camps", x.house(0, 99, 0), 0);
        CHECK.due("its parts", x.house(0, 99, 1), 0);
        HerdBooks y = row();
        y.week(2);
        y.camp(2, 0);
        CHECK.due("house of week 0", y.house(0, 0, 0), 0);
        CHECK.due("of weeks 0 and 1", y.house(0, 1, 1), 1500000);
        // 416667, 416667 and 166666 with all the second one in CELL 2.
        CHECK.due("of week 2", y.house(2, 2, 0), 2);
        CHECK.due("its parts", y.house(2, 2, 1), 1166666);
        // In all up to 2: 1916667, 916667, 1166666; with 3: 2263890, 1847222, 1888888.
        CHECK.due("of weeks 0 .. 3", y.house(0, 3, 0), 0);
        CHECK.due("its parts", y.house(0, 3, 1), 2263890);
        // 2 and 3 together: 763890, 1347222, 1888888.
        CHECK.due("of weeks 2 .. 3", y.house(2, 3, 1), 1888888);
        CHECK.due("of one in two, the least", row().house(1, 1, 0), 0);
        CHECK.due("a above b", y.house(3, 2, 0), NONE);
        CHECK.due("a below 0", y.house(-1, 2, 0), NONE);
        CHECK.due("b above 99", y.house(0, 100, 0), NONE);
        CHECK.due("another what", y.house(0, 2, 2), NONE);
        CHECK.due("what -1", y.house(0, 2, -1), NONE);
        y.news(0, 1, 1, true);
        y.view(1);
        CHECK.due("by the view", y.house(1, 1, 1), 500000);
        y.view(2);
        CHECK.due("by a later view", y.house(1, 1, 0), 1);
    }
}
