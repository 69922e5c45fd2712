/** Promises 32 to 35: READERS, what they READ and learn, the GIVER. */
public final class ReadersTest {
    private static final Check CHECK = new Check("ReadersTest");
    private static final int NONE = HerdBooks.NONE;
    private static final int NO_SUCH = -2;
    private static final int HIDDEN = -3;

    public static void main(String[] args) {
        readersTold();
        booksRead();
        levels();
        nextBooks();
        nextFarOff();
        nextInView();
        givers();
        oneKindHidden();
        leastKindHidden();
        CHECK.close();
    }

    private static HerdBooks camps() {
        HerdBooks x = new HerdBooks();
        x.cell(true);
        x.camp(0, 0);
        x.camp(0, 1);
        return x;
    }

    private static void readersTold() {
        HerdBooks x = new HerdBooks();
        CHECK.due("no camp", x.reader(0), NONE);
        x = camps();
        CHECK.due("camp 2", x.reader(2), NONE);
        CHECK.due("camp -1", x.reader(-1), NONE);
        for (int i = 0; i < 12; i++) {
            CHECK.due("reader " + i, x.reader(i % 2), i);
        }
        CHECK.due("13th reader", x.reader(0), NONE);
        CHECK.due("readers", x.count(5), 12);
        CHECK.due("camp of 11", x.learns(11, 0), 1);
    }

    private static void booksRead() {
        HerdBooks x = camps();
        x.book(0, 0, 1, 1, 1);
        x.book(0, 0, 1, 1, 1);
        CHECK.no("no reader", x.read(0, 0));
        x.reader(1);
        CHECK.no("reader -1", x.read(-1, 0));
        CHECK.no("no book", x.read(0, 2));
        CHECK.no("book -1", x.read(0, -1));
        CHECK.yes("read", x.read(0, 1));
        CHECK.no("read already", x.read(0, 1));
        CHECK.due("books", x.learns(0, 2), 2);
        CHECK.yes("read 0", x.read(0, 0));
        CHECK.due("both", x.learns(0, 2), 3);
        CHECK.due("its camp", x.learns(0, 0), 1);
        CHECK.due("no reader learns", x.learns(1, 0), NO_SUCH);
        CHECK.due("reader -1 learns", x.learns(-1, 0), NO_SUCH);
        CHECK.due("what 4", x.learns(0, 4), NO_SUCH);
        CHECK.due("what -1", x.learns(0, -1), NO_SUCH);
    }

    private static void levels() {
        HerdBooks x = camps();
        x.reader(0);
        CHECK.due("none read", x.learns(0, 1), 0);
        for (int i = 0; i < 12; i++) {
            x.book(0, 0, 9, 1, 1);
        }
        for (int i = 0; i < 12; i++) {
            x.read(0, i);
            CHECK.due("level by " + (i + 1), x.learns(0, 1), Math.min(i + 1, 9));
        }
        HerdBooks y = camps();
        y.reader(0);
        int[] levels = {0, 0, 1, 1, 1, 2, 3, 3};
        int[] want = {0, 0, 1, 1, 1, 1, 2, 2};
        for (int i = 0; i < levels.length; i++) {
            y.book(0, 0, levels[i], 1, 1);
            y.read(0, i);
            CHECK.due("level with " + levels[i], y.learns(0, 1), want[i]);
        }
        y.book(0, 0, 3, 1, 1);
        y.read(0, 8);
        CHECK.due("three of level 3", y.learns(0, 1), 3);
    }

    private static void nextBooks() {
        HerdBooks x = camps();
        x.reader(0);
        CHECK.due("no books", x.learns(0, 3), NONE);
        x.book(0, 1, 1, 1, 1);
        CHECK.due("none of its tongue", x.learns(0, 3), NONE);
        x.book(0, 0, 9, 1, 1);
        CHECK.due("the only one", x.learns(0, 3), 1);
        x.book(0, 0, 2, 1, 1);
        CHECK.due("nearer to 1", x.learns(0, 3), 2);
        x.book(0, 0, 0, 1, 1);
        CHECK.due("as near, the least", x.learns(0, 3), 2);
        x.book(0, 0, 1, 1, 1);
        CHECK.due("nearest", x.learns(0, 3), 4);
        x.lend(4, 1);
        CHECK.due("of those in the shed", x.learns(0, 3), 2);
        x.back(4);
        CHECK.due("back in it", x.learns(0, 3), 4);
        x.read(0, 4);
        // LEVEL 1 now: nearest to 2.
        CHECK.due("not read", x.learns(0, 3), 2);
        x.read(0, 2);
        // LEVEL 1 still: 0 is 2 from it, 9 is 7.
        CHECK.due("the other", x.learns(0, 3), 3);
        x.read(0, 3);
        x.read(0, 1);
        CHECK.due("all read", x.learns(0, 3), NONE);
        x.reader(1);
        CHECK.due("of the other tongue", x.learns(1, 3), 0);
    }

    private static void nextFarOff() {
        HerdBooks x = camps();
        x.reader(0);
        for (int i = 0; i < 9; i++) {
            x.book(0, 0, 9, 1, 1);
            x.read(0, i);
        }
        x.book(0, 0, 0, 1, 1);
        // LEVEL 9: a BOOK of LEVEL 0 is 10 from its own and 1, and the only one.
        CHECK.due("far off, but the only one", x.learns(0, 3), 9);
        x.book(0, 0, 9, 1, 1);
        CHECK.due("1 from it", x.learns(0, 3), 10);
    }

    private static void nextInView() {
        HerdBooks x = camps();
        x.reader(0);
        x.book(0, 0, 1, 1, 1);
        x.week(4);
        x.lend(0, 0);
        CHECK.due("lent", x.learns(0, 3), NONE);
        x.view(3);
        CHECK.due("not known then", x.learns(0, 3), 0);
    }

    /** Reads a BOOK of a KIND by so many READERS; the BOOK of KIND k is k. */
    private static void read(HerdBooks x, int kind, int readers) {
        for (int i = 0; i < readers; i++) {
            x.read(i, kind);
        }
    }

    private static HerdBooks kinds() {
        HerdBooks x = camps();
        for (int kind = 0; kind < 8; kind++) {
            x.book(kind, 0, 0, 1, 1);
        }
        for (int i = 0; i < 12; i++) {
            x.reader(0);
        }
        return x;
    }

    private static void givers() {
        HerdBooks x = kinds();
        CHECK.due("kind -1", x.giver(-1), NONE);
        CHECK.due("kind 8", x.giver(8), NONE);
        for (int kind = 0; kind < 8; kind++) {
            CHECK.due("nothing read", x.giver(kind), 0);
        }
        read(x, 2, 1);
        read(x, 3, 2);
        read(x, 4, 3);
        read(x, 5, 12);
        int[] want = {0, 0, HIDDEN, HIDDEN, 3, 12, 0, 0};
        for (int kind = 0; kind < 8; kind++) {
            CHECK.due("giver of " + kind, x.giver(kind), want[kind]);
        }
        // A second BOOK of the KIND by the same READERS is no more READERS.
        x.book(4, 0, 0, 1, 1);
        x.read(0, 8);
        CHECK.due("readers, not books", x.giver(4), 3);
        x.read(11, 8);
        CHECK.due("one more reader", x.giver(4), 4);
    }

    private static void oneKindHidden() {
        HerdBooks x = kinds();
        read(x, 6, 2);
        CHECK.due("hidden alone", x.giver(6), HIDDEN);
        CHECK.due("none to go with it", x.giver(0), 0);
        read(x, 1, 5);
        read(x, 3, 4);
        read(x, 5, 4);
        int[] want = {0, 5, 0, HIDDEN, 0, 4, HIDDEN, 0};
        for (int kind = 0; kind < 8; kind++) {
            CHECK.due("giver of " + kind, x.giver(kind), want[kind]);
        }
        read(x, 7, 1);
        CHECK.due("two are hidden, no third", x.giver(3), 4);
        read(x, 7, 3);
        CHECK.due("3 is the least", x.giver(7), HIDDEN);
        CHECK.due("not 4", x.giver(3), 4);
        read(x, 6, 3);
        CHECK.due("none is hidden", x.giver(7), 3);
        CHECK.due("none of both", x.giver(6), 3);
    }

    private static void leastKindHidden() {
        HerdBooks x = kinds();
        read(x, 0, 1);
        read(x, 7, 12);
        CHECK.due("kind 0 is hidden", x.giver(0), HIDDEN);
        CHECK.due("12 goes with it", x.giver(7), HIDDEN);
        HerdBooks y = kinds();
        read(y, 0, 4);
        read(y, 1, 4);
        read(y, 7, 2);
        CHECK.due("of several the least kind", y.giver(0), HIDDEN);
        CHECK.due("not the other", y.giver(1), 4);
        CHECK.due("kind 7 is hidden", y.giver(7), HIDDEN);
    }
}
