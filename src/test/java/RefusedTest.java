import java.util.function.ToIntFunction;

/**
 * A refused call answers as its promise says, and behind it all is as it was: an object that got it answers every
 * later call as one that did not. The same for calls that only ask.
 */
public final class RefusedTest {
    private static final Check CHECK = new Check("RefusedTest");
    private static final int NONE = HerdBooks.NONE;
    private static final int NO_SUCH = -2;
    private static final int MIN = Integer.MIN_VALUE;
    private static final int MAX = Integer.MAX_VALUE;

    private final ToIntFunction<HerdBooks> telling;
    private final Answers without;
    private final String where;

    private RefusedTest(String where, ToIntFunction<HerdBooks> telling) {
        this.where = where;
        this.telling = telling;
        without = Answers.of(told());
    }

    public static void main(String[] args) {
        for (int view : new int[] {NONE, 3}) {
            RefusedTest test = new RefusedTest("view " + view, x -> tell(x, view));
            test.land();
            test.campsAndNews();
            test.books();
            test.acts();
            test.loans();
            test.rules();
            test.rounds();
            test.readers();
            test.asking();
        }
        fullLand();
        fullShelf();
        fullActs();
        fullTape();
        CHECK.close();
    }

    private HerdBooks told() {
        HerdBooks x = new HerdBooks();
        telling.applyAsInt(x);
        return x;
    }

    /** Calls with one number after another: each answers so, and changes nothing. */
    private void due(String call, int want, ToIntFunction<HerdBooks> made) {
        HerdBooks x = told();
        CHECK.due(where + ", " + call, made.applyAsInt(x), want);
        Answers.of(x).same(CHECK, where + ", behind " + call, without);
    }

    private void refused(String call, ToIntFunction<HerdBooks> made) {
        due(call, NONE, made);
    }

    private void no(String call, java.util.function.Predicate<HerdBooks> made) {
        due(call, 0, x -> made.test(x) ? 1 : 0);
    }

    private static int tell(HerdBooks x, int view) {
        x.cell(false);
        x.cell(true);
        x.cell(false);
        x.way(0, 1, 4);
        x.grass(1, 2, 3);
        x.camp(0, 0);
        x.book(0, 0, 2, 40, 100);
        x.book(1, 1, 1, 50, 200);
        x.book(2, 0, 3, 60, 300);
        Check.rules(x, "if kind = 2 and week > 6: bar; weeks 5; cost 3;");
        x.lend(0, 0);
        x.week(3);
        x.camp(1, 1);
        x.news(0, 1, 2, true);
        x.news(0, 2, 3, true);
        x.week(7);
        x.tear(0, 6, 5);
        x.lend(1, 1);
        x.dry(4, true);
        x.wish(0, 2, 8);
        x.wish(1, 1, 5);
        x.reader(0);
        x.reader(1);
        x.read(0, 1);
        x.read(1, 2);
        Check.rules(x, "weeks 0;");
        Check.type(x, 0, "cost 9; bar; ");
        x.view(view);
        return 0;
    }

    private void land() {
        for (int n : new int[] {-1, 3, MIN, MAX}) {
            no("way from " + n, x -> x.way(n, 0, 2));
            no("way to " + n, x -> x.way(0, n, 2));
            no("grass of " + n, x -> x.grass(n, 1, 9));
            refused("camp in " + n, x -> x.camp(n, 0));
        }
        no("way to itself", x -> x.way(1, 1, 2));
        for (int n : new int[] {0, 10, MIN, MAX}) {
            no("way of " + n, x -> x.way(0, 1, n));
        }
        for (int n : new int[] {-1, 100, MIN, MAX}) {
            no("grass from " + n, x -> x.grass(0, n, 9));
            no("grass " + n, x -> x.grass(0, 1, n));
            no("dry " + n, x -> x.dry(n, true));
            no("not dry " + n, x -> x.dry(n, false));
        }
        for (int n : new int[] {-1, 4, MIN, MAX}) {
            refused("tongue " + n, x -> x.camp(0, n));
        }
        no("dry it is so", x -> x.dry(4, true));
        no("not dry it is so", x -> x.dry(5, false));
        for (int n : new int[] {-1, 0, 6, 100, MIN, MAX}) {
            no("week " + n, x -> x.week(n));
        }
        for (int n : new int[] {-2, 8, 99, MIN, MAX}) {
            no("view " + n, x -> x.view(n));
        }
    }

    private void campsAndNews() {
        for (int n : new int[] {-1, 2, MIN, MAX}) {
            refused("news of camp " + n, x -> x.news(n, 1, 5, true));
            refused("parts of camp " + n, x -> x.parts(n, 1, 5));
            refused("likeliest of camp " + n, x -> x.likeliest(n, 5));
            refused("quarrel of camp " + n, x -> x.quarrel(n, 0));
            no("wish of camp " + n, x -> x.wish(n, 2, 5));
            refused("load of camp " + n, x -> x.load(n, 100, 0));
            refused("reader of camp " + n, x -> x.reader(n));
        }
        for (int n : new int[] {-1, 3, MIN, MAX}) {
            refused("news in cell " + n, x -> x.news(0, n, 5, true));
            refused("parts in cell " + n, x -> x.parts(0, n, 5));
        }
        for (int n : new int[] {-1, 8, MIN, MAX}) {
            refused("news of week " + n, x -> x.news(0, 1, n, true));
            no("wish for kind " + n, x -> x.wish(0, n, 5));
            due("giver of " + n, NONE, x -> x.giver(n));
        }
        refused("news ahead of its first week", x -> x.news(1, 1, 2, false));
        for (int n : new int[] {-1, 100, MIN, MAX}) {
            no("wish " + n, x -> x.wish(0, 2, n));
        }
        for (int n : new int[] {-1, 2, MIN, MAX}) {
            refused("quarrel " + n, x -> x.quarrel(0, n));
        }
    }

    private void books() {
        int[][] wrong = {{-1, 0, 0, 1, 1}, {8, 0, 0, 1, 1}, {0, -1, 0, 1, 1}, {0, 4, 0, 1, 1}, {0, 0, -1, 1, 1},
            {0, 0, 10, 1, 1}, {0, 0, 0, 0, 1}, {0, 0, 0, 401, 1}, {0, 0, 0, 1, 0}, {0, 0, 0, 1, 2001}};
        for (int[] w : wrong) {
            refused("book of other numbers", x -> x.book(w[0], w[1], w[2], w[3], w[4]));
        }
        for (int n : new int[] {-1, 3, MIN, MAX}) {
            refused("lend " + n, x -> x.lend(n, 0));
            refused("pass " + n, x -> x.pass(n, 1, 5));
            refused("back " + n, x -> x.back(n));
            refused("tear " + n, x -> x.tear(n, 1, 5));
            due("who of " + n, NO_SUCH, x -> x.who(n, 5));
            refused("had of " + n, x -> x.had(n, 0));
            refused("due of " + n, x -> x.due(n, 5));
            no("read " + n, x -> x.read(0, n));
        }
    }

    private void acts() {
        for (int n : new int[] {-1, 2, MIN, MAX}) {
            refused("lend to " + n, x -> x.lend(2, n));
            refused("pass to " + n, x -> x.pass(0, n, 5));
        }
        refused("lent already", x -> x.lend(0, 1));
        refused("barred", x -> x.lend(2, 1));
        refused("passed to itself", x -> x.pass(0, 0, 5));
        refused("passed from the shed", x -> x.pass(2, 0, 5));
        refused("passed ahead of the loan", x -> x.pass(1, 0, 6));
        refused("back from the shed", x -> x.back(2));
        refused("torn in the shed", x -> x.tear(2, 1, 5));
        refused("torn ahead of the loan", x -> x.tear(1, 1, 6));
        for (int n : new int[] {-1, 8, 100, MIN, MAX}) {
            refused("passed in " + n, x -> x.pass(0, 1, n));
            refused("torn in " + n, x -> x.tear(0, 1, n));
        }
        for (int n : new int[] {0, -1, 35, MIN, MAX}) {
            refused("torn " + n, x -> x.tear(0, n, 5));
        }
        for (int n : new int[] {-1, 3, MIN, MAX}) {
            due("act " + n, NO_SUCH, x -> x.act(n, 0));
        }
        for (int n : new int[] {-1, 7, MIN, MAX}) {
            due("act what " + n, NO_SUCH, x -> x.act(0, n));
        }
    }

    private void loans() {
        for (int n : new int[] {-1, 100, MIN, MAX}) {
            due("who in " + n, NO_SUCH, x -> x.who(0, n));
            refused("due in " + n, x -> x.due(0, n));
            refused("owes in " + n, x -> x.owes(0, n, 0));
            refused("parts in " + n, x -> x.parts(0, 0, n));
            refused("likeliest in " + n, x -> x.likeliest(0, n));
            due("rule in " + n, NO_SUCH, x -> x.rule(0, 0, n, 0));
            refused("round in " + n, x -> x.round(n, 10, 0));
            refused("stop in " + n, x -> x.stop(n, 10, 0));
            refused("house from " + n, x -> x.house(n, 50, 0));
            refused("house to " + n, x -> x.house(50, n, 0));
        }
        refused("due in the shed", x -> x.due(2, 5));
        refused("had 1", x -> x.had(0, 1));
        refused("had -1", x -> x.had(0, -1));
        refused("house backwards", x -> x.house(5, 4, 0));
        for (int n : new int[] {-1, 4, MIN, MAX}) {
            refused("owes what " + n, x -> x.owes(0, 5, n));
            due("learns what " + n, NO_SUCH, x -> x.learns(0, n));
        }
    }

    private void rules() {
        for (int n : new int[] {-1, 14, 500, 501, MIN, MAX}) {
            refused("end " + n, x -> x.end(n));
        }
        for (int n : new int[] {-1, 2, MIN, MAX}) {
            refused("fault what " + n, x -> x.fault(n));
            due("rule of camp " + n, NO_SUCH, x -> x.rule(n, 0, 5, 0));
        }
        for (int n : new int[] {-1, 3, MIN, MAX}) {
            due("rule of book " + n, NO_SUCH, x -> x.rule(0, n, 5, 0));
            due("rule what " + n, NO_SUCH, x -> x.rule(0, 0, 5, n));
        }
        due("rule ahead of its first week", NO_SUCH, x -> x.rule(1, 0, 2, 0));
        // All the tape is its first 13 bytes.
        due("end 13", 13, x -> x.end(13));
    }

    private void rounds() {
        for (int n : new int[] {0, 61, -1, MIN, MAX}) {
            refused("round of " + n, x -> x.round(5, n, 0));
            refused("stop of " + n, x -> x.stop(5, n, 0));
        }
        for (int n : new int[] {-1, 3, MIN, MAX}) {
            refused("round what " + n, x -> x.round(5, 10, n));
            refused("stop " + n, x -> x.stop(5, 10, n));
            refused("load what " + n, x -> x.load(0, 100, n));
        }
        for (int n : new int[] {0, 20001, -1, MIN, MAX}) {
            refused("load of " + n, x -> x.load(0, n, 0));
        }
        for (int n : new int[] {-1, 2, MIN, MAX}) {
            refused("house what " + n, x -> x.house(0, 9, n));
        }
    }

    private void readers() {
        for (int n : new int[] {-1, 2, MIN, MAX}) {
            no("read by " + n, x -> x.read(n, 0));
            due("learns of " + n, NO_SUCH, x -> x.learns(n, 0));
        }
        no("read already", x -> x.read(0, 1));
        for (int n : new int[] {-1, 12, MIN, MAX}) {
            due("count " + n, NO_SUCH, x -> x.count(n));
        }
        for (int n : new int[] {-1, 3, MIN, MAX}) {
            no("image " + n, x -> x.image(n));
            no("again " + n, x -> x.again(n));
        }
        for (int n = 0; n < 3; n++) {
            int k = n;
            no("again without image " + n, x -> x.again(k));
            due("image " + n, 1, x -> x.image(k) ? 1 : 0);
            due("image and again " + n, 1, x -> x.image(k) && x.again(k) ? 1 : 0);
        }
    }

    /** What is told as it is, and what is asked, changes nothing either. */
    private void asking() {
        due("week as it is", 1, x -> x.week(7) ? 1 : 0);
        due("view as it is", 1, x -> x.view(x.count(7)) ? 1 : 0);
        due("way as it is", 1, x -> x.way(1, 0, 4) ? 1 : 0);
        due("wish as it is", 1, x -> x.wish(0, 2, 8) ? 1 : 0);
        due("wish of 0 as it is", 1, x -> x.wish(1, 7, 0) ? 1 : 0);
        due("another view and back", 1, x -> {
            int view = x.count(7);
            x.view(0);
            x.parts(0, 0, 9);
            x.view(5);
            x.parts(1, 0, 9);
            return x.view(view) ? 1 : 0;
        });
        due("all rounds", 0, x -> {
            int least = 0;
            for (int days = 1; days <= 60; days++) {
                least = Math.min(least, x.round(6, days, 0));
            }
            return least;
        });
    }

    private static void fullLand() {
        RefusedTest test = new RefusedTest("full land", x -> {
            for (int i = 0; i < 10; i++) {
                x.cell(i > 6);
                x.way(i, i - 1, 1);
            }
            for (int i = 0; i < 6; i++) {
                x.camp(i, i % 4);
            }
            x.week(2);
            for (int i = 0; i < 60; i++) {
                x.grass(i % 10, i % 4, i);
                x.news(i % 6, i % 5, i % 3, i % 7 == 0);
            }
            return 0;
        });
        test.refused("11th cell", x -> x.cell(true));
        test.refused("11th cell, no well", x -> x.cell(false));
        test.refused("7th camp", x -> x.camp(0, 0));
        test.no("61st grass", x -> x.grass(0, 0, 50));
        test.refused("61st news, seen", x -> x.news(0, 0, 0, true));
        test.refused("61st news, not seen", x -> x.news(1, 2, 2, false));
        test.no("way to an 11th", x -> x.way(9, 10, 1));
    }

    private static void fullShelf() {
        RefusedTest test = new RefusedTest("full shelf", x -> {
            x.cell(true);
            x.camp(0, 0);
            x.camp(0, 1);
            for (int i = 0; i < 24; i++) {
                x.book(i % 8, i % 2, i % 10, 1 + i, 100 + i);
                x.lend(i, i % 3);
            }
            for (int i = 0; i < 12; i++) {
                x.reader(i % 2);
                x.read(i, 2 * i);
            }
            return 0;
        });
        test.refused("25th book", x -> x.book(0, 0, 0, 1, 1));
        test.refused("13th reader", x -> x.reader(1));
        test.no("read by a 13th", x -> x.read(12, 0));
        test.no("a 25th read", x -> x.read(0, 24));
        test.refused("a 25th lent", x -> x.lend(24, 0));
    }

    private static void fullActs() {
        RefusedTest test = new RefusedTest("full acts", x -> {
            x.cell(true);
            x.camp(0, 0);
            x.camp(0, 1);
            for (int i = 0; i < 3; i++) {
                x.book(i, 0, i, 300, 100);
            }
            x.lend(0, 0);
            x.lend(1, 1);
            for (int i = 0; i < 148; i++) {
                x.tear(i % 2, 1, 0);
            }
            return 0;
        });
        test.refused("lend", x -> x.lend(2, 0));
        test.refused("pass", x -> x.pass(0, 1, 0));
        test.refused("back", x -> x.back(0));
        test.refused("tear", x -> x.tear(0, 1, 0));
    }

    private static void fullTape() {
        for (int bytes : new int[] {481, 499, 500}) {
            RefusedTest test = new RefusedTest("tape of " + bytes, x -> {
                Check.type(x, 0, " ".repeat(bytes - 9) + "bar;bar; ");
                return 0;
            });
            test.refused("feed", x -> x.feed(0x7A7A7A7A, 0x7A7A7A7A, 0x7A7A7A7A, 0x7A7A7A7A, 0x7A7A7A7A));
            test.refused("end of one more", x -> x.end(bytes + 1));
            test.refused("end below 0", x -> x.end(-1));
            test.due("end of all", bytes, x -> x.end(bytes));
        }
    }
}
