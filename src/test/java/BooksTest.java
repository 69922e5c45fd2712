/** Promises 13 to 22: BOOKS, ACTS, WHO has them, DUE, what a CAMP owes. */
public final class BooksTest {
    private static final Check CHECK = new Check("BooksTest");
    private static final int NONE = HerdBooks.NONE;
    private static final int MIN = Integer.MIN_VALUE;
    private static final int MAX = Integer.MAX_VALUE;
    private static final int NO_SUCH = -2;

    public static void main(String[] args) {
        booksTold();
        lends();
        lendsByRules();
        actsWhateverTheView();
        passes();
        givesBack();
        tears();
        costs();
        actsTold();
        actsAreFull();
        whoHas();
        whoHasInView();
        whoHadIt();
        dueWeeks();
        dueOfTheLatestLoan();
        owing();
        CHECK.close();
    }

    /** A CELL with a WELL, three CAMPS of TONGUES 0, 1, 0, two BOOKS. */
    private static HerdBooks library() {
        HerdBooks x = new HerdBooks();
        x.cell(true);
        x.camp(0, 0);
        x.camp(0, 1);
        x.camp(0, 0);
        x.book(1, 0, 3, 100, 500);
        x.book(2, 1, 4, 10, 300);
        return x;
    }

    private static void booksTold() {
        HerdBooks x = new HerdBooks();
        int[][] wrong = {{-1, 0, 0, 1, 1}, {8, 0, 0, 1, 1}, {0, -1, 0, 1, 1}, {0, 4, 0, 1, 1}, {0, 0, -1, 1, 1},
            {0, 0, 10, 1, 1}, {0, 0, 0, 0, 1}, {0, 0, 0, 401, 1}, {0, 0, 0, 1, 0}, {0, 0, 0, 1, 2001},
            {MIN, MIN, MIN, MIN, MIN}, {MAX, MAX, MAX, MAX, MAX}};
        for (int[] w : wrong) {
            CHECK.due("book of other numbers", x.book(w[0], w[1], w[2], w[3], w[4]), NONE);
        }
        for (int i = 0; i < 24; i++) {
            int got = i % 2 == 0 ? x.book(0, 0, 0, 1, 1) : x.book(7, 3, 9, 400, 2000);
            CHECK.due("book " + i, got, i);
        }
        CHECK.due("25th book", x.book(0, 0, 0, 1, 1), NONE);
        CHECK.due("books", x.count(2), 24);
    }

    private static void lends() {
        HerdBooks x = library();
        CHECK.due("in the shed at first", x.who(0, 0), NONE);
        CHECK.due("no book", x.lend(2, 0), NONE);
        CHECK.due("book -1", x.lend(-1, 0), NONE);
        CHECK.due("no camp", x.lend(0, 3), NONE);
        CHECK.due("camp -1", x.lend(0, -1), NONE);
        x.week(3);
        CHECK.due("lent", x.lend(0, 0), 0);
        CHECK.due("lent already", x.lend(0, 1), NONE);
        CHECK.due("lent to it already", x.lend(0, 0), NONE);
        CHECK.due("another", x.lend(1, 0), 1);
        int[] want = {0, 0, 0, 3, 3, 4, 0};
        for (int what = 0; what < want.length; what++) {
            CHECK.due("act 0, " + what, x.act(0, what), want[what]);
        }
        x.back(0);
        CHECK.due("lent in the week in which it came back", x.lend(0, 1), 3);
        CHECK.due("who has it", x.who(0, 3), 1);
    }

    private static void lendsByRules() {
        HerdBooks x = library();
        Check.rules(x, "if not tongue: bar; if held > 0: bar; if kind = 1: weeks 7; weeks 2;");
        CHECK.due("of another tongue", x.lend(0, 1), NONE);
        CHECK.due("lent", x.lend(0, 0), 0);
        CHECK.due("length", x.act(0, 5), 7);
        x.book(3, 0, 0, 1, 1);
        CHECK.due("holds one already", x.lend(2, 0), NONE);
        CHECK.due("by the second line", x.lend(2, 2), 1);
        CHECK.due("its length", x.act(1, 5), 2);
        Check.rules(x, "weeks 50;");
        CHECK.due("length stays as it was lent", x.act(0, 5), 7);
        // Asked by an early VIEW, lending still goes by all ACTS.
        x.week(5);
        x.back(0);
        x.week(6);
        x.view(4);
        CHECK.due("as the view has it", x.who(0, 6), 0);
        CHECK.due("lent by all acts", x.lend(0, 1), 3);
        CHECK.due("not seen by the view", x.who(0, 6), 0);
        x.view(NONE);
        CHECK.due("seen now", x.who(0, 6), 1);
    }

    /** What can be, LENGTH and COST go by all ACTS, whatever THE VIEW. */
    private static void actsWhateverTheView() {
        HerdBooks x = library();
        x.lend(0, 0);
        x.week(3);
        x.pass(0, 1, 2);
        x.tear(0, 40, 2);
        x.view(1);
        CHECK.due("the second camp has it now", x.pass(0, 1, 3), NONE);
        CHECK.due("passed on", x.pass(0, 0, 3), 3);
        CHECK.due("pages that are left now", x.tear(0, 61, 3), NONE);
        Check.rules(x, "if left = 60: cost 3; if torn = 40: cost 5; cost 1; if left = 60: weeks 8;");
        x.tear(0, 10, 2);
        CHECK.due("cost by what is left now", x.act(4, 6), 3);
        CHECK.due("by the camp that has it now", x.act(4, 2), 1);
        Check.rules(x, "if torn = 50: cost 5; cost 1; if left = 50: weeks 8;");
        x.tear(0, 1, 2);
        CHECK.due("cost by what is torn now", x.act(5, 6), 5);
        x.back(0);
        Check.rules(x, "if left = 49: weeks 8;");
        CHECK.due("lent", x.lend(0, 2), 7);
        CHECK.due("length by what is left now", x.act(7, 5), 8);
        CHECK.due("due as known then", x.due(0, 3), 4);
        x.view(2);
        CHECK.due("as known in 2", x.who(0, 3), 0);
        x.view(3);
        CHECK.due("as known in 3", x.who(0, 3), 2);
        CHECK.due("due as known in 3", x.due(0, 3), 11);
        HerdBooks y = library();
        y.lend(0, 0);
        y.week(2);
        y.back(0);
        y.view(1);
        CHECK.due("due as known then, by who has it then", y.due(0, 2), 4);
        y.view(2);
        CHECK.due("in the shed as known now", y.due(0, 2), NONE);
    }

    private static void passes() {
        HerdBooks x = library();
        x.week(2);
        CHECK.due("the shed has it", x.pass(0, 1, 2), NONE);
        x.lend(0, 0);
        x.week(5);
        CHECK.due("to itself", x.pass(0, 0, 4), NONE);
        CHECK.due("ahead of the loan", x.pass(0, 1, 1), NONE);
        CHECK.due("later than now", x.pass(0, 1, 6), NONE);
        CHECK.due("in week -1", x.pass(0, 1, -1), NONE);
        CHECK.due("no book", x.pass(2, 1, 4), NONE);
        CHECK.due("no camp", x.pass(0, 3, 4), NONE);
        CHECK.due("camp -1", x.pass(0, -1, 4), NONE);
        CHECK.due("passed in the week of the loan", x.pass(0, 1, 2), 1);
        CHECK.due("who has it in 2", x.who(0, 2), 1);
        CHECK.due("passed", x.pass(0, 2, 4), 2);
        CHECK.due("passed between, told late", x.pass(0, 0, 3), 3);
        CHECK.due("who has it in 3", x.who(0, 3), 0);
        CHECK.due("who has it in 4", x.who(0, 4), 2);
        int[] want = {0, 1, 0, 3, 5, 0, 0};
        for (int what = 0; what < want.length; what++) {
            CHECK.due("act 3, " + what, x.act(3, what), want[what]);
        }
        x.back(0);
        CHECK.due("given back", x.pass(0, 1, 5), NONE);
        CHECK.due("but not in 4", x.pass(0, 1, 4), 5);
        x.camp(0, 3);
        CHECK.due("to a camp of a later first week", x.pass(0, 3, 3), 6);
    }

    private static void givesBack() {
        HerdBooks x = library();
        CHECK.due("the shed has it", x.back(0), NONE);
        x.lend(0, 0);
        x.week(4);
        CHECK.due("back", x.back(0), 1);
        int[] want = {0, 2, NONE, 4, 4, 0, 0};
        for (int what = 0; what < want.length; what++) {
            CHECK.due("act 1, " + what, x.act(1, what), want[what]);
        }
        CHECK.due("back again", x.back(0), NONE);
        CHECK.due("no book", x.back(2), NONE);
        CHECK.due("book -1", x.back(-1), NONE);
        CHECK.due("who had it in 3", x.who(0, 3), 0);
        CHECK.due("who has it in 4", x.who(0, 4), NONE);
    }

    private static void tears() {
        HerdBooks x = library();
        CHECK.due("the shed has it", x.tear(0, 1, 0), NONE);
        x.week(1);
        x.lend(0, 0);
        x.week(3);
        CHECK.due("no pages", x.tear(0, 0, 2), NONE);
        CHECK.due("pages below 0", x.tear(0, -5, 2), NONE);
        CHECK.due("more than it has", x.tear(0, 101, 2), NONE);
        CHECK.due("ahead of the loan", x.tear(0, 1, 0), NONE);
        CHECK.due("later than now", x.tear(0, 1, 4), NONE);
        CHECK.due("in week -1", x.tear(0, 1, -1), NONE);
        CHECK.due("no book", x.tear(2, 1, 2), NONE);
        CHECK.due("book -1", x.tear(-1, 1, 2), NONE);
        CHECK.due("torn", x.tear(0, 60, 3), 1);
        // All TORN told counts, of later WEEKS too.
        CHECK.due("more than is left", x.tear(0, 41, 1), NONE);
        CHECK.due("all that is left", x.tear(0, 40, 1), 2);
        CHECK.due("nothing is left", x.tear(0, 1, 3), NONE);
        CHECK.due("who has it stays", x.who(0, 3), 0);
        x.pass(0, 2, 3);
        CHECK.due("torn by the camp as it was told", x.act(1, 2), 0);
    }

    private static void costs() {
        HerdBooks x = library();
        CHECK.due("rules", Check.rules(x, "if torn > 4: cost 9; if week < 2: cost 3; cost 5;"), 3);
        x.lend(0, 0);
        x.week(3);
        x.tear(0, 5, 2);
        CHECK.due("cost without what is just told", x.act(1, 6), 5);
        x.tear(0, 1, 1);
        CHECK.due("cost in week 1", x.act(2, 6), 3);
        x.tear(0, 1, 3);
        CHECK.due("cost with what was torn", x.act(3, 6), 9);
        int[] want = {0, 3, 0, 3, 3, 1, 9};
        for (int what = 0; what < want.length; what++) {
            CHECK.due("act 3, " + what, x.act(3, what), want[what]);
        }
        Check.rules(x, "");
        x.tear(0, 2, 3);
        CHECK.due("cost without rules", x.act(4, 6), 0);
        CHECK.due("cost stays as it was told", x.act(3, 6), 9);
        // 5 * 5 + 1 * 3 + 1 * 9 + 2 * 0
        CHECK.due("owes", x.owes(0, 3, 3), 37);
        Check.rules(x, "if not well: cost 8; cost 1;");
        x.camp(0, 2);
        x.pass(0, 3, 2);
        x.tear(0, 1, 2);
        CHECK.due("no well ahead of its first week", x.act(6, 6), 8);
        x.tear(0, 1, 3);
        CHECK.due("a well from its first week on", x.act(7, 6), 1);
    }

    private static void actsTold() {
        HerdBooks x = library();
        CHECK.due("no act", x.act(0, 0), NO_SUCH);
        x.lend(0, 0);
        CHECK.due("act -1", x.act(-1, 0), NO_SUCH);
        CHECK.due("act 1", x.act(1, 0), NO_SUCH);
        CHECK.due("what 7", x.act(0, 7), NO_SUCH);
        CHECK.due("what -1", x.act(0, -1), NO_SUCH);
        x.week(2);
        x.tear(0, 3, 1);
        x.view(0);
        CHECK.due("whatever the view", x.act(1, 5), 3);
        CHECK.due("the week in which it was", x.act(1, 3), 1);
        CHECK.due("the week in which it was told", x.act(1, 4), 2);
    }

    private static void actsAreFull() {
        HerdBooks x = library();
        for (int i = 0; i < 148; i += 2) {
            CHECK.due("lend " + i, x.lend(0, 0), i);
            CHECK.due("back " + i, x.back(0), i + 1);
        }
        x.lend(0, 0);
        CHECK.due("the last act", x.lend(1, 0), 149);
        CHECK.due("acts", x.count(4), 150);
        CHECK.due("no more back", x.back(0), NONE);
        CHECK.due("no more pass", x.pass(0, 1, 0), NONE);
        CHECK.due("no more tear", x.tear(0, 1, 0), NONE);
        x.book(0, 0, 0, 1, 1);
        CHECK.due("no more lend", x.lend(2, 0), NONE);
    }

    private static void whoHas() {
        HerdBooks x = library();
        x.week(2);
        x.lend(0, 2);
        CHECK.due("ahead of the loan", x.who(0, 1), NONE);
        CHECK.due("in it", x.who(0, 2), 2);
        CHECK.due("in the last week", x.who(0, 99), 2);
        CHECK.due("no book", x.who(2, 2), NO_SUCH);
        CHECK.due("book -1", x.who(-1, 2), NO_SUCH);
        CHECK.due("week 100", x.who(0, 100), NO_SUCH);
        CHECK.due("week -1", x.who(0, -1), NO_SUCH);
        CHECK.due("camps have", x.count(9), 1);
        x.back(0);
        CHECK.due("back in its week", x.who(0, 2), NONE);
        CHECK.due("camps have none", x.count(9), 0);
    }

    private static void whoHasInView() {
        HerdBooks x = library();
        x.lend(0, 0);
        x.week(3);
        x.pass(0, 1, 1);
        x.week(4);
        x.back(0);
        CHECK.due("now", x.who(0, 1), 1);
        CHECK.due("acts by the view, now", x.count(11), 3);
        x.view(2);
        CHECK.due("as known in 2", x.who(0, 1), 0);
        CHECK.due("as known in 2, of 4", x.who(0, 4), 0);
        CHECK.due("acts by the view", x.count(11), 1);
        CHECK.due("acts in all", x.count(4), 3);
        CHECK.due("camps have, as known in 2", x.count(9), 1);
        x.view(3);
        CHECK.due("as known in 3", x.who(0, 4), 1);
        CHECK.due("back by all acts", x.back(0), NONE);
        x.view(4);
        CHECK.due("as known in 4", x.who(0, 4), NONE);
    }

    private static void whoHadIt() {
        HerdBooks x = library();
        CHECK.due("none yet", x.had(0, 0), NONE);
        x.week(1);
        x.lend(0, 0);
        x.week(5);
        x.pass(0, 1, 4);
        x.pass(0, 2, 3);
        x.pass(0, 0, 3);
        x.tear(0, 1, 5);
        x.back(0);
        x.lend(0, 2);
        int[] want = {0, 2, 0, 1, 2};
        for (int k = 0; k < want.length; k++) {
            CHECK.due("had " + k, x.had(0, k), want[k]);
        }
        CHECK.due("had 5", x.had(0, 5), NONE);
        CHECK.due("had -1", x.had(0, -1), NONE);
        CHECK.due("had of no book", x.had(2, 0), NONE);
        CHECK.due("had of book -1", x.had(-1, 0), NONE);
        x.view(4);
        CHECK.due("had 0 by the view", x.had(0, 0), 0);
        CHECK.due("had 1 by the view", x.had(0, 1), NONE);
    }

    private static void dueWeeks() {
        HerdBooks x = library();
        CHECK.due("no camp has it", x.due(0, 0), NONE);
        x.week(2);
        x.lend(0, 0);
        CHECK.due("due 4 weeks behind", x.due(0, 2), 6);
        CHECK.due("no camp had it", x.due(0, 1), NONE);
        CHECK.due("asked for the last week", x.due(0, 99), 6);
        x.dry(2, true);
        CHECK.due("its own week counts for nothing", x.due(0, 2), 6);
        x.dry(4, true);
        CHECK.due("one week is dry", x.due(0, 2), 7);
        x.dry(7, true);
        CHECK.due("the last one, too", x.due(0, 2), 8);
        x.dry(4, false);
        CHECK.due("no longer", x.due(0, 2), 6);
        CHECK.due("not late when due", x.owes(0, 6, 1), 0);
        CHECK.due("late behind it", x.owes(0, 7, 1), 1);
        CHECK.due("no book", x.due(2, 2), NONE);
        CHECK.due("book -1", x.due(-1, 2), NONE);
        CHECK.due("week 100", x.due(0, 100), NONE);
        CHECK.due("week -1", x.due(0, -1), NONE);
        x.week(95);
        x.lend(1, 1);
        CHECK.due("due in the last week", x.due(1, 95), 99);
        x.dry(97, true);
        CHECK.due("not so many weeks", x.due(1, 95), 100);
        CHECK.due("never late", x.owes(1, 99, 1), 0);
    }

    private static void dueOfTheLatestLoan() {
        HerdBooks x = library();
        x.lend(0, 0);
        x.week(3);
        x.pass(0, 1, 2);
        CHECK.due("passed on it is due as it was lent", x.due(0, 3), 4);
        x.back(0);
        Check.rules(x, "weeks 1;");
        x.week(10);
        x.lend(0, 2);
        CHECK.due("the first loan, asked for then", x.due(0, 2), 4);
        CHECK.due("between", x.due(0, 5), NONE);
        CHECK.due("the second loan", x.due(0, 10), 11);
        x.view(2);
        CHECK.due("as known in 2", x.due(0, 10), 4);
        CHECK.due("late as known in 2", x.owes(0, 10, 1), 1);
    }

    private static void owing() {
        HerdBooks x = library();
        Check.rules(x, "cost 20;");
        x.lend(0, 0);
        x.lend(1, 0);
        x.week(5);
        x.tear(0, 3, 2);
        x.tear(1, 4, 5);
        x.pass(1, 1, 4);
        int[] want = {1, 1, 7, 140};
        for (int what = 0; what < want.length; what++) {
            CHECK.due("owes " + what, x.owes(0, 5, what), want[what]);
        }
        CHECK.due("held by the other", x.owes(1, 5, 0), 1);
        CHECK.due("torn by the other", x.owes(1, 5, 2), 0);
        CHECK.due("held earlier", x.owes(0, 3, 0), 2);
        CHECK.due("late earlier", x.owes(0, 3, 1), 0);
        CHECK.due("torn earlier", x.owes(0, 4, 2), 3);
        CHECK.due("owed earlier", x.owes(0, 4, 3), 60);
        CHECK.due("owed ahead of it", x.owes(0, 1, 3), 0);
        int[][] wrong = {{3, 0, 0}, {-1, 0, 0}, {0, 100, 0}, {0, -1, 0}, {0, 0, 4}, {0, 0, -1}};
        for (int[] w : wrong) {
            CHECK.due("owes of none such", x.owes(w[0], w[1], w[2]), NONE);
        }
        x.view(4);
        CHECK.due("held as known in 4", x.owes(0, 5, 0), 2);
        CHECK.due("late as known in 4", x.owes(0, 5, 1), 2);
        CHECK.due("torn as known in 4", x.owes(0, 5, 2), 0);
        CHECK.due("owed as known in 4", x.owes(0, 5, 3), 0);
    }
}
