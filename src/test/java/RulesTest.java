/** Promises 23 to 27: the tape, RULES, FAULTS, what RULES say. */
public final class RulesTest {
    private static final Check CHECK = new Check("RulesTest");
    private static final int NONE = HerdBooks.NONE;
    private static final int NO_SUCH = -2;

    public static void main(String[] args) {
        tape();
        tapeBytes();
        tapeIsCut();
        texts();
        brokenTexts();
        badWeeks();
        tooMany();
        faultsInOrder();
        rulesStay();
        linesThatHold();
        factsOfCampAndWeek();
        factsOfBook();
        factsInView();
        wrongAsked();
        CHECK.close();
    }

    private static void text(String text, int lines, int fault, int place) {
        HerdBooks x = new HerdBooks();
        String shown = text.replace('\n', '~');
        CHECK.due("rules of " + shown, Check.rules(x, text), lines);
        CHECK.due("fault of " + shown, x.fault(0), fault);
        CHECK.due("place of " + shown, x.fault(1), place);
        CHECK.due("the tape is empty behind " + shown, x.end(1), NONE);
        CHECK.due("lines of " + shown, x.count(8), fault == 0 ? lines : 0);
    }

    private static void tape() {
        HerdBooks x = new HerdBooks();
        CHECK.due("nothing is on it", x.end(0), 0);
        CHECK.due("below 0", x.end(-1), NONE);
        for (int i = 1; i <= 25; i++) {
            CHECK.due("feed " + i, x.feed(0x20202020, 0x20202020, 0x20202020, 0x20202020, 0x20202020), 20 * i);
        }
        CHECK.due("full", x.feed(0x20202020, 0, 0, 0, 0), NONE);
        CHECK.due("more than it has", x.end(501), NONE);
        CHECK.due("all", x.end(500), 500);
        CHECK.due("481", x.end(481), 481);
        CHECK.due("too many by one", x.feed(0, 0, 0, 0, 0), NONE);
        CHECK.due("nothing came", x.end(482), NONE);
        CHECK.due("480", x.end(480), 480);
        CHECK.due("just so many", x.feed(0x20202020, 0x20202020, 0x20202020, 0x20202020, 0x20202020), 500);
        CHECK.due("blanks alone", x.rules(), 0);
        CHECK.due("taken", x.end(1), NONE);
    }

    private static void tapeBytes() {
        HerdBooks x = new HerdBooks();
        // "bar;" and blanks: 10 and 32.
        CHECK.due("feed", x.feed(0x6261723B, 0x0A200A20, 0x0A0A0A0A, 0x20202020, 0x6261723B), 20);
        CHECK.due("rules", x.rules(), 2);
        x.feed(0x6261723B, 0x6261723B, 0x6261723B, 0x6261723B, 0xFF000000);
        x.end(17);
        CHECK.due("byte 255", x.rules(), NONE);
        CHECK.due("its place", x.fault(1), 16);
        x.feed(0x626172, 0x3B202020, 0, 0, 0);
        CHECK.due("byte 0", x.rules(), NONE);
        CHECK.due("its place", x.fault(1), 0);
        CHECK.due("fault of another what", x.fault(2), NONE);
        CHECK.due("fault of what -1", x.fault(-1), NONE);
        Check.type(x, 0, "ba");
        Check.type(x, 2, "r;");
        CHECK.due("a word in two feeds", x.rules(), 1);
    }

    /** What stood behind the cut counts for nothing. */
    private static void tapeIsCut() {
        HerdBooks x = new HerdBooks();
        Check.type(x, 0, "weeks 55;");
        x.end(7);
        CHECK.due("no end of the line", x.rules(), NONE);
        CHECK.due("its place", x.fault(1), 7);
        Check.type(x, 0, "barbar;");
        x.end(3);
        CHECK.due("no end of the line", x.rules(), NONE);
        CHECK.due("its place", x.fault(1), 3);
        Check.type(x, 0, "weeks 1234567;");
        x.end(8);
        Check.type(x, 8, ";");
        CHECK.due("weeks 12", x.rules(), 1);
    }

    private static void texts() {
        text("", 0, 0, NONE);
        text(" \n ", 0, 0, NONE);
        text("bar;", 1, 0, NONE);
        text("bar;bar;\nbar ;", 3, 0, NONE);
        text("weeks 1;weeks 99;cost 0;cost 9999;", 4, 0, NONE);
        text("weeks4;", 1, 0, NONE);
        text("weeks 0099;", 1, 0, NONE);
        text("if tongue:bar;", 1, 0, NONE);
        text("if not dry and well and not held<3 and late>0:weeks 3;", 1, 0, NONE);
        text("if kind=1 and level<2 and left>3 and torn=4: bar; if week > 9999: cost 1;", 2, 0, NONE);
        text("bar;bar;bar;bar;bar;bar;bar;bar;bar;bar;bar;bar;bar;bar;bar;bar;", 16, 0, NONE);
        text("ifdry:bar;", NONE, 1, 0);
    }

    private static void brokenTexts() {
        text("bar", NONE, 1, 3);
        text("bar  ", NONE, 1, 5);
        text("weeks;", NONE, 1, 5);
        text("weeks", NONE, 1, 5);
        text("cost 12345;", NONE, 1, 5);
        text("cost 00001;", NONE, 1, 5);
        text("weeks 5", NONE, 1, 7);
        text("weeks 5 6;", NONE, 1, 8);
        text("week 5;", NONE, 1, 0);
        text("if tongue=1:bar;", NONE, 1, 9);
        text("if held:bar;", NONE, 1, 7);
        text("if held<:bar;", NONE, 1, 8);
        text("if held<dry:bar;", NONE, 1, 8);
        text("if held 3:bar;", NONE, 1, 8);
        text("if held:3:bar;", NONE, 1, 7);
        text("if weeks<3:bar;", NONE, 1, 3);
        text("if not not dry:bar;", NONE, 1, 7);
        text("if :bar;", NONE, 1, 3);
        text("if dry bar;", NONE, 1, 7);
        text("if dry and :bar;", NONE, 1, 11);
        text("if dry;bar;", NONE, 1, 6);
        text("gibe;", NONE, 1, 0);
        text("barx;", NONE, 1, 0);
        text("far;", NONE, 1, 0);
        text("bay;", NONE, 1, 0);
        text("if cry:bar;", NONE, 1, 3);
        text("if dry ant dry:bar;", NONE, 1, 7);
        text("Bar;", NONE, 1, 0);
        text("bAr;", NONE, 1, 0);
        text("bar;;", NONE, 1, 4);
        text("bar;\tbar;", NONE, 1, 4);
        text("bar; 123", NONE, 1, 5);
        text("bar; 12345", NONE, 1, 5);
        text("bar:", NONE, 1, 3);
        text("bar 1;", NONE, 1, 4);
        text("if", NONE, 1, 2);
        text("if dry", NONE, 1, 6);
        text("if dry and", NONE, 1, 10);
        text("if dry:", NONE, 1, 7);
        text("bar; if held < 3 ! :", NONE, 1, 17);
        text("and", NONE, 1, 0);
        text("if if dry:bar;", NONE, 1, 3);
        text("\u00e9bar;", NONE, 1, 0);
    }

    private static void badWeeks() {
        text("weeks 0;", NONE, 2, 6);
        text("weeks 100;", NONE, 2, 6);
        text("weeks 0000;", NONE, 2, 6);
        text("bar; if dry : weeks  9999 ;", NONE, 2, 21);
        text("cost 0;cost 100;weeks 7;weeks 0;weeks 101;", NONE, 2, 30);
    }

    private static void tooMany() {
        String sixteen = "bar;bar;bar;bar;bar;bar;bar;bar;bar;bar;bar;bar;bar;bar;bar;bar;";
        text(sixteen + "bar;", NONE, 3, 64);
        text(sixteen + "  if dry:bar;bar;", NONE, 3, 66);
        text("if dry and dry and dry and dry:bar;", 1, 0, NONE);
        text("if dry and dry and dry and dry and dry:bar;", NONE, 3, 35);
        text("if dry and dry and dry and dry and not dry:bar;", NONE, 3, 35);
        text("if dry and dry and dry and dry and held=1 and dry:bar;", NONE, 3, 35);
        text("bar;if dry:bar;if dry and dry and dry and dry and dry:bar;", NONE, 3, 50);
    }

    private static void faultsInOrder() {
        String sixteen = "bar;bar;bar;bar;bar;bar;bar;bar;bar;bar;bar;bar;bar;bar;bar;bar;";
        text("weeks 0;bar", NONE, 1, 11);
        text(sixteen + "bar;bar", NONE, 1, 71);
        text(sixteen + "weeks 0;", NONE, 3, 64);
        text("weeks 0;" + sixteen, NONE, 2, 6);
        text("if dry and dry and dry and dry and dry:weeks 0;", NONE, 3, 35);
        text("weeks 0;if dry and dry and dry and dry and dry:bar;", NONE, 2, 6);
        text("if dry and dry and dry and dry and dry and :bar;", NONE, 1, 43);
    }

    private static void rulesStay() {
        HerdBooks x = library();
        CHECK.due("two lines", Check.rules(x, "weeks 9;cost 3;"), 2);
        CHECK.due("a fault", Check.rules(x, "bar;weeks 0;"), NONE);
        CHECK.due("the fault", x.fault(0), 2);
        CHECK.due("lines stay", x.count(8), 2);
        CHECK.due("weeks stay", x.rule(0, 0, 0, 1), 9);
        CHECK.due("nothing bars", x.rule(0, 0, 0, 0), NONE);
        CHECK.due("nothing on the tape", x.rules(), 0);
        CHECK.due("no fault", x.fault(0), 0);
        CHECK.due("no place", x.fault(1), NONE);
        CHECK.due("no lines", x.count(8), 0);
        CHECK.due("weeks without", x.rule(0, 0, 0, 1), 4);
        CHECK.due("cost without", x.rule(0, 0, 0, 2), 0);
    }

    /** CELLS 0 and 1 (with a WELL) and a WAY, CAMPS of TONGUES 0 and 1 in them, two BOOKS of TONGUE 0. */
    private static HerdBooks library() {
        HerdBooks x = new HerdBooks();
        x.cell(false);
        x.cell(true);
        x.way(0, 1, 1);
        x.camp(0, 0);
        x.camp(1, 1);
        x.book(3, 0, 5, 100, 10);
        x.book(4, 0, 6, 50, 10);
        return x;
    }

    private static void linesThatHold() {
        HerdBooks x = library();
        Check.rules(x, "if kind=4:weeks 7; if kind=4:cost 11; weeks 8; cost 12; if level>5:bar; if level>4:bar; weeks 9;");
        CHECK.due("the second line bar", x.rule(0, 0, 0, 0), 5);
        CHECK.due("the first line bar", x.rule(0, 1, 0, 0), 4);
        CHECK.due("weeks of 0", x.rule(0, 0, 0, 1), 8);
        CHECK.due("weeks of 1", x.rule(0, 1, 0, 1), 7);
        CHECK.due("cost of 0", x.rule(0, 0, 0, 2), 12);
        CHECK.due("cost of 1", x.rule(0, 1, 0, 2), 11);
        Check.rules(x, "if kind=3 and not level=5:bar; if not kind=3 and level=6:bar;");
        CHECK.due("all tests must hold", x.rule(0, 0, 0, 0), NONE);
        CHECK.due("and do", x.rule(0, 1, 0, 0), 1);
    }

    private static boolean holds(HerdBooks x, int camp, int week, String test) {
        Check.rules(x, "if " + test + ":bar;");
        return x.rule(camp, 0, week, 0) == 0;
    }

    private static void factsOfCampAndWeek() {
        HerdBooks x = library();
        CHECK.yes("tongue", holds(x, 0, 0, "tongue"));
        CHECK.no("other tongue", holds(x, 1, 0, "tongue"));
        CHECK.yes("not tongue", holds(x, 1, 0, "not tongue"));
        x.dry(3, true);
        CHECK.yes("dry", holds(x, 0, 3, "dry"));
        CHECK.no("not dry", holds(x, 0, 3, "not dry"));
        CHECK.no("dry in 4", holds(x, 0, 4, "dry"));
        CHECK.no("no well where it is", holds(x, 0, 0, "well"));
        CHECK.yes("a well where it is", holds(x, 1, 0, "well"));
        CHECK.yes("week", holds(x, 0, 7, "week=7 and week>6 and week<8"));
        CHECK.no("week not above", holds(x, 0, 7, "week>7"));
        CHECK.no("week not below", holds(x, 0, 7, "week<7"));
        Check.rules(x, "");
        x.lend(0, 0);
        x.lend(1, 0);
        x.week(6);
        x.tear(0, 30, 6);
        x.pass(0, 1, 6);
        x.tear(1, 1, 2);
        CHECK.yes("held in 5", holds(x, 0, 5, "held=2"));
        CHECK.yes("held in 6", holds(x, 0, 6, "held=1"));
        CHECK.yes("not late in 4", holds(x, 0, 4, "late=0"));
        // WEEK 3 is DRY: DUE is 5.
        CHECK.yes("not late in 5", holds(x, 0, 5, "late=0"));
        CHECK.yes("late in 6", holds(x, 0, 6, "late=1"));
        CHECK.yes("late with the other", holds(x, 1, 6, "late=1"));
        CHECK.yes("torn in 5", holds(x, 0, 5, "torn=1"));
        CHECK.yes("torn in 6", holds(x, 0, 6, "torn=31"));
        CHECK.yes("torn by the other", holds(x, 1, 6, "torn=0"));
    }

    private static void factsOfBook() {
        HerdBooks x = library();
        CHECK.yes("kind", holds(x, 0, 0, "kind=3"));
        CHECK.yes("level", holds(x, 0, 0, "level=5"));
        CHECK.yes("left", holds(x, 0, 0, "left=100"));
        Check.rules(x, "");
        x.lend(0, 0);
        x.week(6);
        x.tear(0, 30, 6);
        x.tear(0, 5, 2);
        CHECK.yes("left in 1", holds(x, 0, 1, "left=100"));
        CHECK.yes("left in 5", holds(x, 0, 5, "left=95"));
        CHECK.yes("left in 6", holds(x, 0, 6, "left=65"));
    }

    private static void factsInView() {
        HerdBooks x = library();
        x.lend(0, 0);
        x.week(8);
        x.news(0, 1, 2, true);
        x.tear(0, 5, 1);
        x.back(0);
        CHECK.yes("well by news", holds(x, 0, 2, "well and torn=5 and left=95"));
        CHECK.yes("held none in 8", holds(x, 0, 8, "held=0 and late=0"));
        x.view(7);
        CHECK.yes("no well by the view", holds(x, 0, 2, "not well and torn=0 and left=100"));
        CHECK.yes("held one by the view", holds(x, 0, 8, "held=1 and late=1"));
        Check.rules(x, "if held>0:bar; if well: weeks 1;");
        CHECK.due("barred by the view", x.rule(0, 1, 8, 0), 0);
        CHECK.due("not now", x.lend(1, 0), 3);
        // By all NEWS the CAMP is as likely in 0 as in 1 in WEEK 8, and 0 has no WELL.
        CHECK.due("length by all news", x.act(3, 5), 4);
    }

    private static void wrongAsked() {
        HerdBooks x = library();
        x.week(4);
        x.camp(0, 0);
        int[][] wrong = {{3, 0, 4, 0}, {-1, 0, 4, 0}, {0, 2, 4, 0}, {0, -1, 4, 0}, {0, 0, 100, 0}, {0, 0, -1, 0},
            {0, 0, 4, 3}, {0, 0, 4, -1}, {2, 0, 3, 0}};
        for (int[] w : wrong) {
            CHECK.due("rule of none such", x.rule(w[0], w[1], w[2], w[3]), NO_SUCH);
        }
        CHECK.due("rule in its first week", x.rule(2, 0, 4, 0), NONE);
        CHECK.due("rule in the last week", x.rule(2, 0, 99, 1), 4);
    }
}
