/** The boundary cases of promises 37 to 39, sentence by sentence. */
public final class EdgeImagesTest {
    private static final Check CHECK = new Check("EdgeImagesTest");
    private static final int NONE = HerdBooks.NONE;
    private static final int NO_SUCH = -2;
    private static final int MIN = Integer.MIN_VALUE;
    private static final int MAX = Integer.MAX_VALUE;
    private static final int BLANKS = 0x20202020;

    public static void main(String[] args) {
        countOfNoneSuch();
        countsInAllAndByTheView();
        countOfBooksNow();
        imageOfNoneSuch();
        againOfNoneMade();
        againNothingToldYet();
        againAllThatIsTold();
        againBehindOthers();
        againOfTheTape();
        againOfTheFault();
        againOfFullRows();
        againOfAFullShelf();
        imagesApart();
        imageToldAnew();
        imageOfAnImage();
        theLastCall();
        CHECK.close();
    }

    private static void due(String call, long got, long want) {
        CHECK.due(call, got, want);
    }

    /** count(): "-2 for another what." */
    private static void countOfNoneSuch() {
        HerdBooks x = new HerdBooks();
        tellOne(x);
        for (int what : new int[] {-1, 12, -2, 13, MIN, MAX}) {
            due("count " + what, x.count(what), NO_SUCH);
        }
        int[] want = {2, 2, 4, 2, 3, 2, 7, NONE, 3, 2, 2, 3};
        for (int what = 0; what < 12; what++) {
            due("count " + what, x.count(what), want[what]);
        }
    }

    /** "3 NEWS, 4 ACTS (both in all)", "10 NEWS, 11 ACTS by THE VIEW": of its WEEK, not of the next one. */
    private static void countsInAllAndByTheView() {
        HerdBooks x = new HerdBooks();
        x.cell(false);
        x.camp(0, 0);
        x.book(0, 0, 0, 9, 1);
        x.week(2);
        x.lend(0, 0);
        x.week(3);
        x.news(0, 0, 1, true);
        x.tear(0, 1, 2);
        int[] news = {0, 0, 0, 1};
        int[] acts = {0, 0, 1, 2};
        for (int view = 0; view < 4; view++) {
            x.view(view);
            due("news in all", x.count(3), 1);
            due("acts in all", x.count(4), 2);
            due("the view", x.count(7), view);
            due("news by " + view, x.count(10), news[view]);
            due("acts by " + view, x.count(11), acts[view]);
        }
        x.view(NONE);
        due("news now", x.count(10), 1);
        due("acts now", x.count(11), 2);
    }

    /** "9 BOOKS that CAMPS have in the WEEK of now". */
    private static void countOfBooksNow() {
        HerdBooks x = new HerdBooks();
        x.cell(false);
        x.camp(0, 0);
        x.camp(0, 0);
        due("no books", x.count(9), 0);
        for (int i = 0; i < 24; i++) {
            x.book(0, 0, 0, 9, 1);
            due("before", x.count(9), i);
            x.lend(i, i % 2);
        }
        due("all 24", x.count(9), 24);
        x.week(1);
        x.pass(0, 1, 1);
        due("passed on", x.count(9), 24);
        x.back(0);
        due("one back", x.count(9), 23);
        x.view(0);
        due("by the view of 0", x.count(9), 24);
        x.view(1);
        due("by the view of 1", x.count(9), 23);
    }

    /** image(): "Image k (0 .. 2) ..: true; false for another k"; again(): "false if there is none such". */
    private static void imageOfNoneSuch() {
        HerdBooks x = new HerdBooks();
        tellOne(x);
        for (int k : new int[] {-1, 3, MIN, MAX}) {
            CHECK.no("image " + k, x.image(k));
            CHECK.no("again " + k, x.again(k));
        }
        for (int k = 0; k < 3; k++) {
            CHECK.no("no image was made", x.again(k));
        }
        for (int k = 0; k < 3; k++) {
            CHECK.yes("image " + k, x.image(k));
        }
        for (int k = 0; k < 3; k++) {
            CHECK.yes("again " + k, x.again(k));
        }
        for (int k : new int[] {-1, 3, MIN, MAX}) {
            CHECK.no("again " + k, x.again(k));
        }
        Answers.of(x).same(CHECK, "all as it was", Answers.of(one()));
    }

    /** again(): "false if there is none such", and all is as it was. */
    private static void againOfNoneMade() {
        for (int made = 0; made < 3; made++) {
            HerdBooks x = new HerdBooks();
            x.image(made);
            tellOne(x);
            for (int k = 0; k < 3; k++) {
                if (k != made) {
                    CHECK.no("image " + k + " beside " + made, x.again(k));
                }
            }
            Answers.of(x).same(CHECK, "image " + made + " alone", Answers.of(one()));
        }
    }

    /** An image of a new object: all is as at first. */
    private static void againNothingToldYet() {
        HerdBooks x = new HerdBooks();
        CHECK.yes("image of nothing", x.image(1));
        tellOne(x);
        CHECK.yes("again", x.again(1));
        Answers.of(x).same(CHECK, "nothing told yet", Answers.of(new HerdBooks()));
    }

    /** "All that is as image k has it", each row of it told otherwise meanwhile. */
    private static void againAllThatIsTold() {
        CHECK.yes("both differ", Answers.of(one()).others(Answers.of(two())) > 80);
        for (int k = 0; k < 3; k++) {
            HerdBooks x = new HerdBooks();
            x.image((k + 1) % 3);
            tellOne(x);
            CHECK.yes("image", x.image(k));
            CHECK.yes("nothing again", x.again((k + 1) % 3));
            tellTwo(x);
            CHECK.yes("image", x.image((k + 2) % 3));
            CHECK.yes("the first again", x.again(k));
            Answers.of(x).same(CHECK, "as image " + k + " has it", Answers.of(one()));
        }
    }

    /** The same the other way round, and more than once. */
    private static void againBehindOthers() {
        HerdBooks x = new HerdBooks();
        x.image(0);
        tellOne(x);
        x.image(1);
        x.again(0);
        tellTwo(x);
        x.image(2);
        for (int i = 0; i < 6; i++) {
            CHECK.yes("again", x.again(i % 3));
        }
        Answers.of(x).same(CHECK, "as image 2 has it", Answers.of(two()));
        CHECK.yes("again behind all", x.again(1));
        due("its week", x.count(6), 7);
        due("its tape", x.end(5), 5);
        due("no more on it", x.end(6), NONE);
    }

    /** "(the tape, the FAULT, too)": what stands on it, and how much. */
    private static void againOfTheTape() {
        HerdBooks x = new HerdBooks();
        Check.type(x, 0, "weeks 55;");
        x.image(0);
        due("one line", x.rules(), 1);
        Check.type(x, 0, "cost 1;cost 2;cost 3;");
        x.image(1);
        x.again(0);
        due("9 bytes", x.end(10), NONE);
        due("cut", x.end(7), 7);
        Check.type(x, 7, ";bar;");
        due("two lines", x.rules(), 2);
        x.again(1);
        due("21 bytes", x.end(22), NONE);
        due("three lines", x.rules(), 3);
        x.again(0);
        due("as it was, not cut", x.end(9), 9);
        due("one line again", x.rules(), 1);
        x.cell(false);
        x.camp(0, 0);
        x.book(0, 0, 0, 1, 1);
        due("weeks 55", x.rule(0, 0, 0, 1), 55);
        for (int i = 0; i < 25; i++) {
            x.feed(BLANKS, BLANKS, BLANKS, BLANKS, BLANKS);
        }
        x.image(2);
        x.end(0);
        x.again(2);
        due("a full tape", x.feed(BLANKS, BLANKS, BLANKS, BLANKS, BLANKS), NONE);
        due("500 bytes", x.end(500), 500);
    }

    /** The same for the FAULT and its place, and for none. */
    private static void againOfTheFault() {
        HerdBooks x = new HerdBooks();
        x.image(0);
        Check.rules(x, "bar");
        x.image(1);
        Check.rules(x, "bar;weeks 100;");
        x.image(2);
        x.again(0);
        due("none", x.fault(0), 0);
        due("no place", x.fault(1), NONE);
        x.again(1);
        due("fault 1", x.fault(0), 1);
        due("place 3", x.fault(1), 3);
        x.again(2);
        due("fault 2", x.fault(0), 2);
        due("place 10", x.fault(1), 10);
    }

    /** Rows that are full, and as an earlier image has them they have room again. */
    private static void againOfFullRows() {
        HerdBooks x = new HerdBooks();
        x.cell(false);
        x.camp(0, 0);
        x.image(0);
        for (int i = 0; i < 60; i++) {
            x.grass(0, 0, 1);
            x.news(0, 0, 0, true);
            x.cell(false);
            x.camp(0, 0);
            x.reader(0);
        }
        x.image(1);
        fullOrNot(x, "full", 10, 6, 60, 12);
        x.again(0);
        fullOrNot(x, "as at first", 1, 1, 0, 0);
        CHECK.yes("grass", x.grass(0, 0, 1));
        due("cell", x.cell(false), 1);
        due("camp", x.camp(1, 0), 1);
        due("news", x.news(1, 1, 0, true), 0);
        due("reader", x.reader(1), 0);
        x.again(1);
        fullOrNot(x, "full again", 10, 6, 60, 12);
        CHECK.no("no grass", x.grass(0, 0, 1));
        due("no cell", x.cell(false), NONE);
        due("no camp", x.camp(0, 0), NONE);
        due("no news", x.news(0, 0, 0, true), NONE);
        due("no reader", x.reader(0), NONE);
    }

    /** The same for BOOKS and ACTS. */
    private static void againOfAFullShelf() {
        HerdBooks x = new HerdBooks();
        x.cell(false);
        x.camp(0, 0);
        x.camp(0, 1);
        x.book(0, 0, 0, 9, 1);
        x.image(0);
        for (int i = 0; i < 23; i++) {
            x.book(7, 0, 0, 9, 1);
        }
        for (int i = 0; i < 75; i++) {
            x.lend(0, 0);
            x.back(0);
        }
        x.image(1);
        due("no more books", x.book(0, 0, 0, 1, 1), NONE);
        due("no more acts", x.lend(0, 0), NONE);
        x.again(0);
        due("no acts", x.count(4), 0);
        due("one act", x.lend(0, 1), 0);
        due("another", x.tear(0, 2, 0), 1);
        due("a second book", x.book(5, 0, 0, 3, 1), 1);
        x.again(1);
        due("150 acts", x.count(4), 150);
        due("24 books", x.count(2), 24);
        due("who has it", x.who(0, 0), NONE);
        due("the first act", x.act(0, 2), 0);
        due("the second act", x.act(1, 1), 2);
        due("no page torn", x.owes(1, 0, 2), 0);
        due("no more books still", x.book(0, 0, 0, 1, 1), NONE);
        due("no more acts still", x.lend(0, 0), NONE);
    }

    private static void fullOrNot(HerdBooks x, String call, int cells, int camps, int news, int readers) {
        due(call + ", cells", x.count(0), cells);
        due(call + ", camps", x.count(1), camps);
        due(call + ", news", x.count(3), news);
        due(call + ", readers", x.count(5), readers);
    }

    /** An image stays as it is, whatever is told behind it. */
    private static void imagesApart() {
        HerdBooks x = new HerdBooks();
        tellOne(x);
        x.image(0);
        x.again(0);
        tellTwo(x);
        x.lend(3, 1);
        x.dry(6, true);
        x.wish(0, 1, 77);
        x.read(0, 3);
        x.way(0, 2, 1);
        CHECK.yes("again", x.again(0));
        Answers.of(x).same(CHECK, "as it was", Answers.of(one()));
    }

    /** "Image k .. as it is now": told anew it is the later one. */
    private static void imageToldAnew() {
        HerdBooks x = new HerdBooks();
        x.image(2);
        tellOne(x);
        CHECK.yes("image 2 again", x.image(2));
        x.week(50);
        CHECK.yes("again", x.again(2));
        Answers.of(x).same(CHECK, "the later one", Answers.of(one()));
    }

    /** Images are no part of what is told: again() leaves the others. */
    private static void imageOfAnImage() {
        HerdBooks x = new HerdBooks();
        x.week(1);
        x.image(0);
        x.week(2);
        x.image(1);
        x.week(3);
        x.image(2);
        x.again(0);
        due("the week of 0", x.count(6), 1);
        CHECK.yes("image 1 is there still", x.again(1));
        due("the week of 1", x.count(6), 2);
        CHECK.yes("image 2 is there still", x.again(2));
        due("the week of 2", x.count(6), 3);
        x.again(0);
        x.image(2);
        x.again(1);
        x.again(2);
        due("the week of 0 in image 2", x.count(6), 1);
        CHECK.no("the week goes on from there", x.week(0));
        CHECK.yes("to any", x.week(1));
    }

    /** "An object is used for at most 512 calls": the 512th is still answered as due. */
    private static void theLastCall() {
        HerdBooks x = new HerdBooks();
        x.cell(true);
        x.camp(0, 0);
        x.book(0, 0, 0, 400, 1);
        x.lend(0, 0);
        x.image(0);
        for (int i = 5; i < 509; i += 2) {
            x.feed(BLANKS, BLANKS, BLANKS, BLANKS, BLANKS);
            due("blanks", x.rules(), 0);
        }
        due("call 510 is an act", x.tear(0, 400, 0), 1);
        CHECK.yes("call 511", x.again(0));
        due("call 512", x.count(4), 1);
    }

    private static HerdBooks one() {
        HerdBooks x = new HerdBooks();
        tellOne(x);
        return x;
    }

    private static HerdBooks two() {
        HerdBooks x = new HerdBooks();
        tellTwo(x);
        return x;
    }

    private static void tellOne(HerdBooks x) {
        x.cell(true);
        x.cell(false);
        x.way(0, 1, 3);
        x.grass(0, 1, 5);
        x.camp(1, 0);
        Check.rules(x, "if held > 1: bar; weeks 3; if torn = 0: cost 6;");
        x.book(0, 0, 2, 40, 100);
        x.book(1, 1, 1, 50, 200);
        x.book(2, 0, 3, 60, 300);
        x.book(3, 0, 0, 70, 400);
        x.lend(0, 0);
        x.week(2);
        x.grass(1, 3, 9);
        x.camp(0, 1);
        x.news(0, 1, 1, true);
        x.tear(0, 4, 1);
        x.week(7);
        x.news(1, 1, 2, true);
        x.dry(3, true);
        x.lend(1, 1);
        x.wish(0, 2, 8);
        x.wish(1, 1, 5);
        x.reader(0);
        x.reader(1);
        x.read(0, 1);
        x.read(1, 2);
        Check.type(x, 0, "bar; ");
    }

    private static void tellTwo(HerdBooks x) {
        x.cell(false);
        x.cell(true);
        x.cell(true);
        x.way(0, 1, 1);
        x.way(1, 2, 2);
        x.grass(1, 2, 7);
        x.grass(0, 0, 2);
        x.grass(2, 1, 0);
        x.week(1);
        x.camp(0, 1);
        x.camp(2, 0);
        x.camp(1, 0);
        Check.rules(x, "cost 4; if level > 2: weeks 8; if late > 0 and well: bar; weeks 2;");
        x.book(3, 1, 4, 11, 150);
        x.book(2, 0, 5, 22, 250);
        x.book(1, 1, 6, 33, 350);
        x.lend(1, 2);
        x.lend(0, 1);
        x.week(4);
        x.news(1, 0, 1, true);
        x.news(0, 1, 3, false);
        x.news(2, 0, 4, true);
        x.pass(0, 0, 3);
        x.tear(1, 5, 2);
        x.dry(2, true);
        x.week(8);
        x.view(4);
        x.back(1);
        x.wish(0, 1, 3);
        x.wish(1, 2, 9);
        x.reader(2);
        x.reader(0);
        x.reader(1);
        x.read(0, 0);
        x.read(1, 1);
        x.read(2, 1);
        Check.rules(x, "weeks 0;");
        Check.type(x, 0, "cost 7; ");
    }
}
