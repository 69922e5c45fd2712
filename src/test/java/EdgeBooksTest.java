/** The boundary cases of promises 13 to 22, sentence by sentence as Terms 3 and the promises have them. */
public final class EdgeBooksTest {
    private static final Check CHECK = new Check("EdgeBooksTest");
    private static final int NONE = HerdBooks.NONE;
    private static final int NO_SUCH = -2;
    private static final int MIN = Integer.MIN_VALUE;
    private static final int MAX = Integer.MAX_VALUE;
    private static final int[] NO_BOOKS = {-1, 2, MIN, MAX};
    private static final int[] NO_CAMPS = {-1, 3, MIN, MAX};

    public static void main(String[] args) {
        bookNumbers();
        bookNumbersAreKept();
        twentyFourBooks();
        inTheShedAtFirst();
        lendOfNoneSuch();
        lendFromTheShed();
        lendIfItMay();
        lendInTheLastWeek();
        passOfNoneSuch();
        passWeeks();
        passToAnother();
        passBehindBack();
        backOfNoneSuch();
        backFromACamp();
        tearOfNoneSuch();
        tearWeeks();
        tearPages();
        tearAllTold();
        tearByThatCamp();
        costAsItIsTold();
        actsAreFull();
        actOfNoneSuch();
        actOfEachKind();
        whoWeeks();
        whoOfOneWeek();
        hadInARow();
        hadOfWeeks();
        dueOfNoneSuch();
        dueOfOneWeek();
        dueOfNinetyNineWeeks();
        dueWithDryWeeks();
        dueNever();
        dueOfTheLatestLoan();
        lateBehindDue();
        owesOfNoneSuch();
        owesUpToThen();
        owesMost();
        actsByTheView();
        viewHasNoSayInActs();
        CHECK.close();
    }

    private static void due(String call, long got, long want) {
        CHECK.due(call, got, want);
    }

    /** A CELL with a WELL, three CAMPS of TONGUES 0, 1, 0, BOOKS of 100 and of 10 pages. */
    private static HerdBooks library() {
        HerdBooks x = new HerdBooks();
        x.cell(true);
        x.camp(0, 0);
        x.camp(0, 1);
        x.camp(0, 0);
        x.book(1, 0, 3, 100, 500);
        x.book(2, 1, 4, 10, 300);
        return x;
    }

    private static void act(HerdBooks x, int k, int... want) {
        for (int what = 0; what < want.length; what++) {
            due("act(" + k + ", " + what + ")", x.act(k, what), want[what]);
        }
    }

    /** "have a KIND, 0 .. 7, a TONGUE, a LEVEL, 0 .. 9, PAGES, 1 .. 400, and GRAMS, 1 .. 2000"; "other numbers". */
    private static void bookNumbers() {
        HerdBooks x = new HerdBooks();
        int[] least = {0, 0, 0, 1, 1};
        int[] most = {7, 3, 9, 400, 2000};
        int told = 0;
        for (int i = 0; i < 5; i++) {
            for (int wrong : new int[] {least[i] - 1, most[i] + 1, MIN, MAX}) {
                int[] n = least.clone();
                n[i] = wrong;
                due("number " + i + " is " + wrong, x.book(n[0], n[1], n[2], n[3], n[4]), NONE);
                n = most.clone();
                n[i] = wrong;
                due("number " + i + " is " + wrong, x.book(n[0], n[1], n[2], n[3], n[4]), NONE);
            }
            due("none of these was told", x.count(2), told);
            int[] n = least.clone();
            n[i] = most[i];
            due("number " + i + " is " + most[i], x.book(n[0], n[1], n[2], n[3], n[4]), told++);
            n = most.clone();
            n[i] = least[i];
            due("number " + i + " is " + least[i], x.book(n[0], n[1], n[2], n[3], n[4]), told++);
        }
        due("books", x.count(2), 10);
    }

    /** The same numbers, as they are asked for again: by RULES, and GRAMS by a LOAD. */
    private static void bookNumbersAreKept() {
        HerdBooks x = library();
        due("the least", x.book(0, 0, 0, 1, 1), 2);
        due("the greatest", x.book(7, 0, 9, 400, 2000), 3);
        Check.rules(x, "if kind=0 and level=0 and left=1: cost 1; if kind=7 and level=9 and left=400: cost 2;");
        due("as told", x.rule(0, 2, 0, 2), 1);
        due("as told", x.rule(0, 3, 0, 2), 2);
        x.wish(0, 0, 1);
        due("1 gram", x.load(0, 20000, 1), 1);
        x.wish(0, 7, 1);
        due("2001 grams", x.load(0, 20000, 1), 2001);
    }

    /** "BOOKS, at most 24, from 0 on"; "NONE: there are 24". */
    private static void twentyFourBooks() {
        HerdBooks x = library();
        for (int i = 2; i < 24; i++) {
            due("no such book yet", x.who(i, 0), NO_SUCH);
            due("book", x.book(5, 0, 0, 1, 1), i);
        }
        due("the 25th", x.book(5, 0, 0, 1, 1), NONE);
        due("books", x.count(2), 24);
        due("no 25th to lend", x.lend(24, 0), NONE);
        due("the 24th", x.lend(23, 0), 0);
        due("who has the 24th", x.who(23, 0), 0);
        due("who has a 25th", x.who(24, 0), NO_SUCH);
        x.reader(0);
        CHECK.no("no 25th to read", x.read(0, 24));
        CHECK.yes("the 24th is read", x.read(0, 23));
        due("its bit", x.learns(0, 2), 1 << 23);
    }

    /** "they are in the SHED at first". */
    private static void inTheShedAtFirst() {
        HerdBooks x = library();
        for (int week : new int[] {0, 99}) {
            due("who", x.who(0, week), NONE);
            due("due", x.due(0, week), NONE);
        }
        due("had", x.had(0, 0), NONE);
        due("camps have none", x.count(9), 0);
        due("not to be passed", x.pass(0, 1, 0), NONE);
        due("not to be given back", x.back(0), NONE);
        due("not to be torn", x.tear(0, 1, 0), NONE);
        due("no act was told", x.count(4), 0);
        due("to be lent", x.lend(0, 0), 0);
    }

    /** "NONE: .. there is none such (of either)" of lend(). */
    private static void lendOfNoneSuch() {
        HerdBooks x = library();
        for (int book : NO_BOOKS) {
            due("book " + book, x.lend(book, 0), NONE);
        }
        for (int camp : NO_CAMPS) {
            due("camp " + camp, x.lend(0, camp), NONE);
        }
        due("no act was told", x.count(4), 0);
        due("the last of both", x.lend(1, 2), 0);
        due("the first of both", x.lend(0, 0), 1);
    }

    /** "can be LENT if NOW the SHED has it in the WEEK of now". */
    private static void lendFromTheShed() {
        HerdBooks x = library();
        x.week(3);
        due("lent", x.lend(0, 0), 0);
        due("a camp has it", x.lend(0, 0), NONE);
        due("another may not have it, too", x.lend(0, 2), NONE);
        x.week(4);
        due("nor in the next week", x.lend(0, 2), NONE);
        due("who has it", x.who(0, 4), 0);
        x.back(0);
        due("in the week in which it came back", x.lend(0, 2), 2);
        due("who has it now", x.who(0, 4), 2);
        due("acts", x.count(4), 3);
    }

    /** "and the CAMP MAY then": by the WEEK of now. */
    private static void lendIfItMay() {
        HerdBooks x = library();
        Check.rules(x, "if week < 5: bar; if week > 5: bar;");
        x.week(4);
        due("barred in 4", x.lend(0, 0), NONE);
        x.week(5);
        due("not in 5", x.lend(0, 0), 0);
        x.week(6);
        due("barred in 6", x.lend(1, 0), NONE);
        due("who has it", x.who(1, 6), NONE);
        Check.rules(x, "if held > 0: bar;");
        due("holds one", x.lend(1, 0), NONE);
        due("holds none", x.lend(1, 1), 1);
    }

    /** "ACTS .. are told in the WEEK of now", be it the last one. */
    private static void lendInTheLastWeek() {
        HerdBooks x = library();
        x.week(99);
        due("lent", x.lend(0, 0), 0);
        act(x, 0, 0, 0, 0, 99, 99, 4, 0);
        due("who in 98", x.who(0, 98), NONE);
        due("who in 99", x.who(0, 99), 0);
        due("due", x.due(0, 99), 100);
        due("torn in 99", x.tear(0, 1, 99), 1);
        due("not in 100", x.tear(0, 1, 100), NONE);
        due("passed in 99", x.pass(0, 1, 99), 2);
        due("not in 100", x.pass(0, 0, 100), NONE);
        due("back", x.back(0), 3);
        due("who in 99 now", x.who(0, 99), NONE);
        due("had 0", x.had(0, 0), 0);
        due("had 1", x.had(0, 1), 1);
    }

    /** pass(): "NONE: as lend()." */
    private static void passOfNoneSuch() {
        HerdBooks x = library();
        x.lend(0, 0);
        x.lend(1, 0);
        for (int book : NO_BOOKS) {
            due("book " + book, x.pass(book, 1, 0), NONE);
        }
        for (int camp : NO_CAMPS) {
            due("camp " + camp, x.pass(0, camp, 0), NONE);
        }
        due("no act was told", x.count(4), 2);
        due("the last of both", x.pass(1, 2, 0), 2);
        due("the first of both", x.pass(1, 0, 0), 3);
    }

    /** "PASSED to a CAMP in a WEEK up to now"; "in a WEEK in which .. another CAMP has it". */
    private static void passWeeks() {
        HerdBooks x = library();
        x.week(3);
        x.lend(0, 0);
        x.week(6);
        for (int week : new int[] {2, 7, 0, -1, 99, 100, MIN, MAX}) {
            due("in week " + week, x.pass(0, 1, week), NONE);
        }
        due("no act was told", x.count(4), 1);
        due("in the week of now", x.pass(0, 1, 6), 1);
        due("in the week of the loan", x.pass(0, 2, 3), 2);
        due("who in 2", x.who(0, 2), NONE);
        due("who in 3", x.who(0, 3), 2);
        due("who in 5", x.who(0, 5), 2);
        due("who in 6", x.who(0, 6), 1);
        HerdBooks y = library();
        y.lend(0, 0);
        due("not in week -1", y.pass(0, 1, -1), NONE);
        due("in week 0", y.pass(0, 1, 0), 1);
    }

    /** "another CAMP": not the one that has it then. */
    private static void passToAnother() {
        HerdBooks x = library();
        x.lend(0, 0);
        x.week(4);
        due("to itself", x.pass(0, 0, 2), NONE);
        due("to another", x.pass(0, 1, 2), 1);
        due("to that, which has it in 2 now", x.pass(0, 1, 2), NONE);
        due("and in 3", x.pass(0, 1, 3), NONE);
        due("but not in 1", x.pass(0, 1, 1), 2);
        due("to the first again, which has it in 0 alone", x.pass(0, 0, 0), NONE);
        due("to the first again", x.pass(0, 0, 4), 3);
        due("acts", x.count(4), 4);
    }

    /** The SHED has it from BACK on: "PASSED in a WEEK in which NOW another CAMP has it". */
    private static void passBehindBack() {
        HerdBooks x = library();
        x.lend(0, 0);
        x.week(3);
        x.back(0);
        x.week(5);
        due("in the week of back", x.pass(0, 1, 3), NONE);
        due("behind it", x.pass(0, 1, 4), NONE);
        due("in the week before", x.pass(0, 1, 2), 2);
        due("who in 2", x.who(0, 2), 1);
        due("who in 3", x.who(0, 3), NONE);
    }

    /** back(): "NONE: as lend()." */
    private static void backOfNoneSuch() {
        HerdBooks x = library();
        x.lend(0, 0);
        x.lend(1, 1);
        for (int book : NO_BOOKS) {
            due("book " + book, x.back(book), NONE);
        }
        due("no act was told", x.count(4), 2);
        due("the last", x.back(1), 2);
        due("the first", x.back(0), 3);
    }

    /** "BACK if NOW a CAMP has it in the WEEK of now". */
    private static void backFromACamp() {
        HerdBooks x = library();
        due("the shed has it", x.back(0), NONE);
        x.lend(0, 0);
        due("in the week of the loan", x.back(0), 1);
        due("the shed has it again", x.back(0), NONE);
        due("who in 0", x.who(0, 0), NONE);
        due("acts", x.count(4), 2);
        x.lend(0, 0);
        x.week(2);
        x.pass(0, 1, 1);
        due("from the one to which it was passed", x.back(0), 4);
        due("who in 1", x.who(0, 1), 1);
        due("who in 2", x.who(0, 2), NONE);
    }

    /** tear(): "NONE: as lend()." */
    private static void tearOfNoneSuch() {
        HerdBooks x = library();
        x.lend(0, 0);
        x.lend(1, 1);
        for (int book : NO_BOOKS) {
            due("book " + book, x.tear(book, 1, 0), NONE);
        }
        due("no act was told", x.count(4), 2);
        due("the last", x.tear(1, 1, 0), 2);
        due("the first", x.tear(0, 1, 0), 3);
    }

    /** "TORN so many pages (1 on) in a WEEK up to now"; "in a WEEK in which NOW a CAMP has it". */
    private static void tearWeeks() {
        HerdBooks x = library();
        x.week(3);
        x.lend(0, 0);
        x.week(5);
        x.back(0);
        x.week(7);
        for (int week : new int[] {2, 5, 6, 7, 8, 0, -1, 99, 100, MIN, MAX}) {
            due("in week " + week, x.tear(0, 1, week), NONE);
        }
        due("no act was told", x.count(4), 2);
        due("in the week of the loan", x.tear(0, 1, 3), 2);
        due("in the last week in which a camp had it", x.tear(0, 1, 4), 3);
        x.lend(0, 1);
        due("in the week of now", x.tear(0, 1, 7), 5);
        due("not later", x.tear(0, 1, 8), NONE);
        HerdBooks y = library();
        y.lend(0, 0);
        due("not in week -1", y.tear(0, 1, -1), NONE);
        due("in week 0", y.tear(0, 1, 0), 1);
    }

    /** "pages (1 on)"; "pages that it has left". */
    private static void tearPages() {
        HerdBooks x = library();
        x.book(0, 0, 0, 400, 1);
        x.book(0, 0, 0, 1, 1);
        x.lend(2, 0);
        x.lend(3, 0);
        for (int pages : new int[] {0, -1, 401, MIN, MAX}) {
            due(pages + " pages", x.tear(2, pages, 0), NONE);
        }
        due("no act was told", x.count(4), 2);
        due("nothing is torn", x.owes(0, 0, 2), 0);
        due("all 400", x.tear(2, 400, 0), 2);
        due("no page is left", x.tear(2, 1, 0), NONE);
        due("of the other one 2", x.tear(3, 2, 0), NONE);
        due("of the other one 1", x.tear(3, 1, 0), 3);
        due("none of that is left", x.tear(3, 1, 0), NONE);
        due("torn", x.owes(0, 0, 2), 401);
    }

    /** "pages that it has left (less all TORN told)": of later WEEKS and by other CAMPS, too. */
    private static void tearAllTold() {
        HerdBooks x = library();
        x.lend(0, 0);
        x.week(5);
        x.pass(0, 1, 3);
        due("99 by the second", x.tear(0, 99, 5), 2);
        due("2 by the first, earlier", x.tear(0, 2, 0), NONE);
        due("1 by the first, earlier", x.tear(0, 1, 0), 3);
        due("1 more", x.tear(0, 1, 0), NONE);
        due("1 more, later", x.tear(0, 1, 5), NONE);
        due("torn by the first", x.owes(0, 5, 2), 1);
        due("torn by the second", x.owes(1, 5, 2), 99);
    }

    /** "TORN by that CAMP": the one that has it in that WEEK, as it is told. */
    private static void tearByThatCamp() {
        HerdBooks x = library();
        x.lend(0, 0);
        x.week(4);
        x.pass(0, 1, 3);
        x.tear(0, 1, 2);
        x.tear(0, 2, 3);
        due("the week before", x.act(2, 2), 0);
        due("in its week", x.act(3, 2), 1);
        // Told late that another one had it then: what was told stays as it was told.
        x.pass(0, 2, 2);
        due("who in 2 now", x.who(0, 2), 2);
        due("torn by the first still", x.act(2, 2), 0);
        due("of the first", x.owes(0, 4, 2), 1);
        due("of the third", x.owes(2, 4, 2), 0);
        x.tear(0, 4, 2);
        due("by the third from now on", x.act(5, 2), 2);
    }

    /** "COST each, by RULES for it, the BOOK and that WEEK, as it is told, NOW." */
    private static void costAsItIsTold() {
        HerdBooks x = library();
        x.lend(0, 0);
        x.week(3);
        due("no rules", x.tear(0, 1, 1), 1);
        due("no cost", x.act(1, 6), 0);
        Check.rules(x, "if week = 1: cost 9999; if torn > 5: cost 7; if left < 98: cost 6; cost 5;");
        x.tear(0, 1, 1);
        due("of week 1", x.act(2, 6), 9999);
        x.tear(0, 4, 2);
        due("98 left, 2 torn without these", x.act(3, 6), 5);
        x.tear(0, 1, 2);
        due("94 left, 6 torn", x.act(4, 6), 7);
        due("the first stays without", x.act(1, 6), 0);
        due("as it would be now", x.rule(0, 0, 2, 2), 7);
    }

    /** "ACTS, at most 150, from 0 on"; "NONE: there are 150". */
    private static void actsAreFull() {
        HerdBooks x = library();
        x.lend(0, 0);
        for (int i = 1; i < 149; i++) {
            due("act " + i, i % 2 == 1 ? x.lend(1, 1) : x.back(1), i);
        }
        due("there are 149", x.count(4), 149);
        due("the 150th", x.tear(0, 1, 0), 149);
        due("no tear", x.tear(0, 1, 0), NONE);
        due("no pass", x.pass(0, 1, 0), NONE);
        due("no back", x.back(0), NONE);
        due("no lend", x.lend(1, 0), NONE);
        due("acts", x.count(4), 150);
        due("acts by the view", x.count(11), 150);
        due("who has the first", x.who(0, 0), 0);
        due("who has the second", x.who(1, 0), NONE);
        due("one page is torn", x.owes(0, 0, 2), 1);
        due("no act 150", x.act(150, 0), NO_SUCH);
        act(x, 149, 0, 3, 0, 0, 0, 1, 0);
        due("the last that had it", x.had(1, 73), 1);
        due("no more had it", x.had(1, 74), NONE);
    }

    /** act(): "-2 if there is none such, or for another what." */
    private static void actOfNoneSuch() {
        HerdBooks x = library();
        due("no act yet", x.act(0, 0), NO_SUCH);
        x.lend(1, 2);
        x.back(1);
        for (int k : new int[] {-1, 2, MIN, MAX}) {
            for (int what = 0; what < 7; what++) {
                due("act " + k, x.act(k, what), NO_SUCH);
            }
        }
        for (int what : new int[] {-1, 7, MIN, MAX}) {
            due("what " + what, x.act(0, what), NO_SUCH);
        }
        act(x, 0, 1, 0, 2, 0, 0, 4, 0);
        act(x, 1, 1, 2, NONE, 0, 0, 0, 0);
    }

    /** act(): "the CAMP (of BACK NONE; of TORN that CAMP)", "LENGTH (LENT), pages (TORN), else 0", "COST .. else 0". */
    private static void actOfEachKind() {
        HerdBooks x = library();
        Check.rules(x, "cost 9999; weeks 99;");
        x.week(1);
        x.lend(1, 2);
        x.week(4);
        x.pass(1, 1, 2);
        x.tear(1, 10, 3);
        x.back(1);
        x.view(0);
        act(x, 0, 1, 0, 2, 1, 1, 99, 0);
        act(x, 1, 1, 1, 1, 2, 4, 0, 0);
        act(x, 2, 1, 3, 1, 3, 4, 10, 9999);
        act(x, 3, 1, 2, NONE, 4, 4, 0, 0);
    }

    /** "WHO has a BOOK in a WEEK (0 .. 99) .. -2: there is none such (of either)." */
    private static void whoWeeks() {
        HerdBooks x = library();
        x.week(1);
        x.lend(0, 2);
        due("week 0", x.who(0, 0), NONE);
        due("week 1", x.who(0, 1), 2);
        due("week 99", x.who(0, 99), 2);
        for (int week : new int[] {-1, 100, MIN, MAX}) {
            due("week " + week, x.who(0, week), NO_SUCH);
        }
        for (int book : NO_BOOKS) {
            due("book " + book, x.who(book, 1), NO_SUCH);
        }
        due("the other one", x.who(1, 1), NONE);
    }

    /** "by the last ACT of it that is not TORN, up to that WEEK (of one WEEK the one told last)". */
    private static void whoOfOneWeek() {
        HerdBooks x = library();
        x.lend(0, 0);
        due("lent", x.who(0, 0), 0);
        x.pass(0, 1, 0);
        due("passed", x.who(0, 0), 1);
        x.tear(0, 1, 0);
        due("torn", x.who(0, 0), 1);
        x.back(0);
        due("back", x.who(0, 0), NONE);
        x.lend(0, 2);
        due("lent again", x.who(0, 0), 2);
        x.week(3);
        x.pass(0, 1, 2);
        x.pass(0, 0, 1);
        due("told last, but of an earlier week", x.who(0, 2), 1);
        due("of that week", x.who(0, 1), 0);
        due("of the week before", x.who(0, 0), 2);
    }

    /** "The k-th CAMP that had a BOOK, from 0 on .. NONE: there is none such." */
    private static void hadInARow() {
        HerdBooks x = library();
        x.lend(0, 2);
        due("the first", x.had(0, 0), 2);
        due("no second", x.had(0, 1), NONE);
        x.tear(0, 1, 0);
        due("torn is no second", x.had(0, 1), NONE);
        x.back(0);
        due("back is no second", x.had(0, 1), NONE);
        for (int k : new int[] {-1, MIN, MAX}) {
            due("had " + k, x.had(0, k), NONE);
        }
        for (int book : NO_BOOKS) {
            due("had of book " + book, x.had(book, 0), NONE);
        }
        due("the other one", x.had(1, 0), NONE);
    }

    /** "by ACTS of their WEEKS, of one WEEK as told": WEEKS 0 and 99 among them. */
    private static void hadOfWeeks() {
        HerdBooks x = library();
        x.lend(0, 0);
        x.week(99);
        x.pass(0, 1, 99);
        x.pass(0, 2, 99);
        x.pass(0, 1, 0);
        x.pass(0, 2, 0);
        int[] want = {0, 1, 2, 1, 2};
        for (int k = 0; k < want.length; k++) {
            due("had " + k, x.had(0, k), want[k]);
        }
        due("had 5", x.had(0, 5), NONE);
    }

    /** "NONE: no CAMP has it then, or there is none such (of either)" of due(). */
    private static void dueOfNoneSuch() {
        HerdBooks x = library();
        x.week(2);
        x.lend(0, 0);
        x.week(5);
        x.back(0);
        due("ahead of the loan", x.due(0, 1), NONE);
        due("in its week", x.due(0, 2), 6);
        due("the last week in which a camp has it", x.due(0, 4), 6);
        due("in the week of back", x.due(0, 5), NONE);
        due("behind it", x.due(0, 99), NONE);
        for (int week : new int[] {-1, 100, MIN, MAX}) {
            due("week " + week, x.due(0, week), NONE);
        }
        for (int book : NO_BOOKS) {
            due("book " + book, x.due(book, 2), NONE);
        }
        due("the other one", x.due(1, 2), NONE);
    }

    /** "LENGTH of a loan: WEEKS by RULES in the WEEK of now, as it is LENT"; the least is 1. */
    private static void dueOfOneWeek() {
        HerdBooks x = library();
        Check.rules(x, "weeks 1;");
        x.lend(0, 0);
        due("the next week", x.due(0, 0), 1);
        Check.rules(x, "weeks 2;");
        due("as it was lent", x.due(0, 0), 1);
        x.week(98);
        Check.rules(x, "weeks 1;");
        x.lend(1, 0);
        due("the last week", x.due(1, 98), 99);
        due("not late in it", x.owes(0, 99, 1), 1);
        x.back(1);
        x.week(99);
        x.lend(1, 0);
        due("there are not so many", x.due(1, 99), 100);
    }

    /** "100, if there are not so many": 99 WEEKS behind WEEK 0, and no more. */
    private static void dueOfNinetyNineWeeks() {
        HerdBooks x = library();
        Check.rules(x, "weeks 99;");
        x.lend(0, 0);
        due("the last week", x.due(0, 0), 99);
        due("asked for the last", x.due(0, 99), 99);
        x.week(1);
        x.lend(1, 1);
        due("one too few", x.due(1, 1), 100);
        x.back(1);
        Check.rules(x, "weeks 98;");
        x.lend(1, 1);
        due("just so many", x.due(1, 1), 99);
        x.dry(50, true);
        due("one is dry", x.due(1, 1), 100);
        due("of the other, too", x.due(0, 0), 100);
        x.dry(50, false);
        due("not dry", x.due(0, 0), 99);
    }

    /** "so many WEEKS that are not DRY have gone by behind that in which it was LENT". */
    private static void dueWithDryWeeks() {
        HerdBooks x = library();
        x.week(2);
        x.lend(0, 0);
        x.dry(2, true);
        x.dry(1, true);
        due("dry up to its own", x.due(0, 2), 6);
        x.dry(7, true);
        due("dry behind due", x.due(0, 2), 6);
        x.dry(6, true);
        due("dry in due and behind", x.due(0, 2), 8);
        x.dry(3, true);
        due("dry in the first", x.due(0, 2), 9);
        x.dry(8, true);
        x.dry(9, true);
        due("two more", x.due(0, 2), 11);
        x.dry(7, false);
        due("one fewer", x.due(0, 2), 10);
    }

    /** "100, if there are not so many": no WEEK that is not DRY is left. */
    private static void dueNever() {
        HerdBooks x = library();
        Check.rules(x, "weeks 1;");
        x.lend(0, 0);
        for (int week = 1; week < 99; week++) {
            x.dry(week, true);
        }
        due("the last is not dry", x.due(0, 0), 99);
        due("not late in it", x.owes(0, 99, 1), 0);
        x.dry(99, true);
        due("all are dry", x.due(0, 0), 100);
        due("not late either", x.owes(0, 99, 1), 0);
        x.dry(98, false);
        due("one is not", x.due(0, 0), 98);
        due("not late in it", x.owes(0, 98, 1), 0);
        due("late behind it", x.owes(0, 99, 1), 1);
    }

    /** "that of the latest such ACT up to the WEEK that is asked for". */
    private static void dueOfTheLatestLoan() {
        HerdBooks x = library();
        x.lend(0, 0);
        x.week(2);
        x.back(0);
        Check.rules(x, "weeks 7;");
        x.lend(0, 1);
        due("the first loan", x.due(0, 1), 4);
        due("the second, from its week on", x.due(0, 2), 9);
        x.back(0);
        Check.rules(x, "weeks 9;");
        x.lend(0, 2);
        due("the third, of the same week", x.due(0, 2), 11);
        due("the first still", x.due(0, 1), 4);
        // Passed on, it is the loan of the one before.
        x.week(5);
        x.pass(0, 1, 1);
        x.pass(0, 0, 4);
        due("passed in the first", x.due(0, 1), 4);
        due("passed in the third", x.due(0, 5), 11);
    }

    /** "LATE in a WEEK: a CAMP has it, and that WEEK is behind DUE." */
    private static void lateBehindDue() {
        HerdBooks x = library();
        x.lend(0, 0);
        x.week(6);
        due("in due", x.owes(0, 4, 1), 0);
        due("behind due", x.owes(0, 5, 1), 1);
        due("of another camp", x.owes(1, 5, 1), 0);
        x.pass(0, 1, 5);
        due("passed on", x.owes(0, 5, 1), 0);
        due("late with the other", x.owes(1, 5, 1), 1);
        x.back(0);
        due("back", x.owes(1, 6, 1), 0);
        due("late the week before", x.owes(1, 5, 1), 1);
        x.dry(4, true);
        due("dry: due in 5", x.owes(1, 5, 1), 0);
    }

    /** owes(): "NONE: there is none such (of any)." */
    private static void owesOfNoneSuch() {
        HerdBooks x = library();
        for (int what = 0; what < 4; what++) {
            for (int camp : NO_CAMPS) {
                due("camp " + camp, x.owes(camp, 0, what), NONE);
            }
            for (int week : new int[] {-1, 100, MIN, MAX}) {
                due("week " + week, x.owes(0, week, what), NONE);
            }
            due("week 0", x.owes(0, 0, what), 0);
            due("week 99", x.owes(2, 99, what), 0);
        }
        for (int what : new int[] {-1, 4, MIN, MAX}) {
            due("what " + what, x.owes(0, 0, what), NONE);
        }
    }

    /** "what it owes (pages TORN up to then, each by its COST)". */
    private static void owesUpToThen() {
        HerdBooks x = library();
        x.lend(0, 0);
        x.lend(1, 0);
        x.week(9);
        Check.rules(x, "cost 3;");
        x.tear(0, 2, 4);
        Check.rules(x, "cost 100;");
        x.tear(1, 5, 6);
        int[][] want = {{3, 0, 0}, {4, 2, 6}, {5, 2, 6}, {6, 7, 506}, {99, 7, 506}};
        for (int[] w : want) {
            due("torn up to " + w[0], x.owes(0, w[0], 2), w[1]);
            due("owed up to " + w[0], x.owes(0, w[0], 3), w[2]);
            due("by the other", x.owes(1, w[0], 3), 0);
        }
        x.back(0);
        due("it owes what it gave back", x.owes(0, 9, 3), 506);
    }

    /** The most that can be owed: all pages of 24 BOOKS of 400, by 9999. */
    private static void owesMost() {
        HerdBooks x = new HerdBooks();
        x.cell(false);
        x.camp(0, 0);
        Check.rules(x, "cost 9999;");
        for (int i = 0; i < 24; i++) {
            x.book(0, 0, 0, 400, 1);
            x.lend(i, 0);
            x.tear(i, 400, 0);
        }
        due("held", x.owes(0, 0, 0), 24);
        due("late in 99", x.owes(0, 99, 1), 24);
        due("torn", x.owes(0, 0, 2), 9600);
        due("owed", x.owes(0, 0, 3), 95990400);
    }

    /** "asked by .. ACTS (3.) told by the end of that WEEK": of the WEEK itself, not of the next one. */
    private static void actsByTheView() {
        HerdBooks x = library();
        Check.rules(x, "cost 2;");
        x.week(3);
        x.lend(0, 0);
        x.week(5);
        x.tear(0, 7, 4);
        x.week(6);
        x.pass(0, 1, 4);
        int[] acts = {0, 0, 0, 1, 1, 2, 3};
        int[] who = {NONE, NONE, NONE, 0, 0, 0, 1};
        int[] had = {NONE, NONE, NONE, NONE, NONE, NONE, 1};
        int[] torn = {0, 0, 0, 0, 0, 7, 7};
        for (int view = 0; view <= 6; view++) {
            x.view(view);
            due("acts by " + view, x.count(11), acts[view]);
            due("acts in all", x.count(4), 3);
            due("who by " + view, x.who(0, 4), who[view]);
            due("had 0 by " + view, x.had(0, 0), view < 3 ? NONE : 0);
            due("had 1 by " + view, x.had(0, 1), had[view]);
            due("due by " + view, x.due(0, 4), view < 3 ? NONE : 7);
            due("held by " + view, x.owes(0, 4, 0), who[view] == 0 ? 1 : 0);
            due("late by " + view, x.owes(0, 8, 1), who[view] == 0 ? 1 : 0);
            due("torn by " + view, x.owes(0, 4, 2), torn[view]);
            due("owed by " + view, x.owes(0, 4, 3), 2 * torn[view]);
            due("camps have by " + view, x.count(9), view < 3 ? 0 : 1);
        }
    }

    /** "(Where FACE says NOW, by all.)": lend, pass, back and tear go by what is told later than THE VIEW, too. */
    private static void viewHasNoSayInActs() {
        HerdBooks x = library();
        x.week(2);
        x.view(1);
        due("lent", x.lend(0, 0), 0);
        due("in the shed by the view", x.who(0, 2), NONE);
        due("not to be lent again", x.lend(0, 1), NONE);
        due("passed", x.pass(0, 1, 2), 1);
        due("not again", x.pass(0, 1, 2), NONE);
        due("torn", x.tear(0, 100, 2), 2);
        due("not again", x.tear(0, 1, 2), NONE);
        due("back", x.back(0), 3);
        due("not again", x.back(0), NONE);
        due("acts by the view", x.count(11), 0);
        due("acts", x.count(4), 4);
        x.view(NONE);
        due("in the shed now", x.who(0, 2), NONE);
    }
}
