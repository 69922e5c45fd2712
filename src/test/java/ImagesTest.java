/** Promises 37 to 39: counts, images, and all as an image has it. */
public final class ImagesTest {
    private static final Check CHECK = new Check("ImagesTest");
    private static final int NONE = HerdBooks.NONE;

    public static void main(String[] args) {
        counts();
        wrongImages();
        againAll();
        againTapeAndFault();
        againIsNoLink();
        againForgets();
        CHECK.close();
    }

    private static HerdBooks library() {
        HerdBooks x = new HerdBooks();
        x.cell(false);
        x.cell(true);
        x.way(0, 1, 2);
        x.camp(0, 0);
        x.camp(1, 1);
        x.book(0, 0, 1, 50, 100);
        x.book(1, 0, 2, 60, 200);
        x.book(2, 1, 3, 70, 300);
        x.reader(0);
        return x;
    }

    private static void counts() {
        HerdBooks x = library();
        Check.rules(x, "weeks 5;cost 2;");
        x.week(2);
        x.news(0, 1, 1, true);
        x.lend(0, 0);
        x.week(4);
        x.news(0, 0, 3, true);
        x.news(1, 0, 3, true);
        x.lend(1, 0);
        x.tear(0, 1, 3);
        x.back(0);
        int[] now = {2, 2, 3, 3, 4, 1, 4, NONE, 2, 1, 3, 4};
        for (int what = 0; what < now.length; what++) {
            CHECK.due("count " + what, x.count(what), now[what]);
        }
        x.view(3);
        int[] then = {2, 2, 3, 3, 4, 1, 4, 3, 2, 1, 1, 1};
        for (int what = 0; what < then.length; what++) {
            CHECK.due("count " + what + " by the view", x.count(what), then[what]);
        }
        x.view(1);
        CHECK.due("books by an earlier view", x.count(9), 0);
        CHECK.due("count 12", x.count(12), -2);
        CHECK.due("count -1", x.count(-1), -2);
    }

    private static void wrongImages() {
        HerdBooks x = library();
        CHECK.no("image -1", x.image(-1));
        CHECK.no("image 3", x.image(3));
        CHECK.no("again without", x.again(0));
        CHECK.yes("image 2", x.image(2));
        CHECK.no("another one", x.again(1));
        CHECK.yes("again 2", x.again(2));
        CHECK.no("again 3", x.again(3));
        CHECK.no("again -1", x.again(-1));
    }

    private static void tellMore(HerdBooks x) {
        x.cell(true);
        x.way(0, 1, 1);
        x.way(1, 2, 1);
        x.camp(2, 2);
        x.grass(1, 0, 9);
        x.dry(2, true);
        x.week(9);
        x.view(8);
        x.news(0, 1, 1, true);
        x.book(7, 3, 9, 9, 9);
        x.lend(1, 1);
        x.tear(0, 2, 4);
        x.wish(0, 1, 9);
        x.reader(1);
        x.read(0, 1);
        Check.rules(x, "bar;");
    }

    private static int[] answers(HerdBooks x) {
        return new int[] {
            x.count(0), x.count(1), x.count(2), x.count(3), x.count(4), x.count(5), x.count(6), x.count(7),
            x.count(8), x.count(9), x.parts(0, 1, 1), x.parts(1, 1, 30), x.round(5, 9, 0), x.round(5, 9, 1),
            x.stop(5, 9, 0), x.who(0, 5), x.who(1, 9), x.due(0, 4), x.owes(0, 9, 2), x.rule(0, 1, 4, 0),
            x.rule(0, 1, 4, 1), x.load(0, 2000, 0), x.load(0, 2000, 1), x.learns(0, 2), x.learns(0, 3), x.giver(1),
            x.house(0, 50, 1), x.likeliest(0, 1)
        };
    }

    private static void same(String call, int[] got, int[] want) {
        for (int i = 0; i < want.length; i++) {
            CHECK.due(call + ", answer " + i, got[i], want[i]);
        }
    }

    private static void againAll() {
        HerdBooks x = library();
        Check.rules(x, "if held > 1: bar; weeks 3;");
        x.week(4);
        x.lend(0, 0);
        x.wish(0, 1, 4);
        int[] before = answers(x);
        CHECK.yes("image", x.image(0));
        tellMore(x);
        int[] after = answers(x);
        CHECK.yes("image of more", x.image(1));
        CHECK.yes("again 0", x.again(0));
        same("as image 0 has it", answers(x), before);
        CHECK.yes("again 1", x.again(1));
        same("as image 1 has it", answers(x), after);
        CHECK.yes("again 0 once more", x.again(0));
        same("as image 0 has it still", answers(x), before);
        CHECK.no("the week goes back, too", x.week(3));
        CHECK.yes("and on from there", x.week(5));
        CHECK.due("a cell anew", x.cell(false), 2);
    }

    private static void againTapeAndFault() {
        HerdBooks x = new HerdBooks();
        Check.rules(x, "bar");
        Check.type(x, 0, "weeks 5;");
        x.image(1);
        CHECK.due("rules", x.rules(), 1);
        CHECK.due("no fault", x.fault(0), 0);
        x.again(1);
        CHECK.due("the fault", x.fault(0), 1);
        CHECK.due("its place", x.fault(1), 3);
        CHECK.due("no lines", x.count(8), 0);
        CHECK.due("the tape", x.end(8), 8);
        CHECK.due("more than it", x.end(9), NONE);
        CHECK.due("its rules", x.rules(), 1);
    }

    private static void againIsNoLink() {
        HerdBooks x = library();
        x.image(0);
        x.again(0);
        x.book(5, 0, 0, 1, 1);
        x.lend(0, 0);
        x.again(0);
        CHECK.due("books", x.count(2), 3);
        CHECK.due("acts", x.count(4), 0);
        x.week(7);
        x.image(0);
        x.image(2);
        x.week(8);
        x.image(0);
        x.again(2);
        CHECK.due("image 2", x.count(6), 7);
        x.again(0);
        CHECK.due("image 0, told anew", x.count(6), 8);
    }

    /** What was worked out from what is no longer told must not be answered. */
    private static void againForgets() {
        HerdBooks x = library();
        x.image(0);
        x.week(3);
        x.news(0, 1, 1, true);
        CHECK.due("parts by news", x.parts(0, 1, 1), 1000000);
        x.view(2);
        CHECK.due("parts by the view", x.parts(0, 1, 1), 500000);
        x.way(0, 1, 1);
        CHECK.due("a short way", x.round(0, 3, 1), 2);
        x.again(0);
        CHECK.due("parts without news", x.parts(0, 1, 1), 500000);
        CHECK.due("a long way", x.round(0, 3, 1), 0);
        x.cell(false);
        x.week(2);
        x.news(0, 0, 1, true);
        x.view(1);
        CHECK.due("by the view", x.parts(0, 0, 1), 500000);
        x.view(2);
        CHECK.due("by a later view", x.parts(0, 0, 1), 1000000);
        CHECK.due("no quarrel", x.quarrel(0, 0), NONE);
    }
}
