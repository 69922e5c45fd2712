/** The boundary cases of promises 32 to 35, sentence by sentence as Terms 5 and the promises have them. */
public final class EdgeReadersTest {
    private static final Check CHECK = new Check("EdgeReadersTest");
    private static final int NONE = HerdBooks.NONE;
    private static final int NO_SUCH = -2;
    private static final int HIDDEN = -3;
    private static final int MIN = Integer.MIN_VALUE;
    private static final int MAX = Integer.MAX_VALUE;

    public static void main(String[] args) {
        twelveReaders();
        readerOfNoneSuch();
        readOfNoneSuch();
        readOnce();
        learnsOfNoneSuch();
        levelOfNothing();
        levelOfJustSoMany();
        levelOfTooLowBooks();
        levelOfTwentyFour();
        nextOfNone();
        nextOfItsTongue();
        nextInTheShed();
        nextNotRead();
        nextNearest();
        nextAboveNine();
        nextByTheView();
        giverOfNoneSuch();
        giverOfEachNumber();
        giverOfReadersNotBooks();
        justOneHidden();
        oneHiddenAndNoOther();
        leastOfTheOthers();
        twoHidden();
        noneHidden();
        CHECK.close();
    }

    private static void due(String call, long got, long want) {
        CHECK.due(call, got, want);
    }

    private static HerdBooks camps() {
        HerdBooks x = new HerdBooks();
        x.cell(true);
        x.camp(0, 0);
        x.camp(0, 1);
        return x;
    }

    /** "READERS, at most 12, from 0 on, are of a CAMP"; "NONE: there are 12". */
    private static void twelveReaders() {
        HerdBooks x = camps();
        x.book(0, 0, 1, 1, 1);
        for (int i = 0; i < 12; i++) {
            due("no such reader yet", x.learns(i, 0), NO_SUCH);
            CHECK.no("none to read", x.read(i, 0));
            due("reader", x.reader(i % 2), i);
            due("its camp", x.learns(i, 0), i % 2);
            due("it read nothing", x.learns(i, 2), 0);
        }
        due("the 13th", x.reader(0), NONE);
        due("readers", x.count(5), 12);
        due("no 13th", x.learns(12, 0), NO_SUCH);
        CHECK.no("no 13th to read", x.read(12, 0));
        CHECK.yes("the 12th reads", x.read(11, 0));
        due("what it read", x.learns(11, 2), 1);
    }

    /** reader(): "there is no such CAMP". */
    private static void readerOfNoneSuch() {
        HerdBooks x = new HerdBooks();
        due("no camp yet", x.reader(0), NONE);
        x = camps();
        for (int camp : new int[] {-1, 2, MIN, MAX}) {
            due("camp " + camp, x.reader(camp), NONE);
        }
        due("none was told", x.count(5), 0);
        due("of the last camp", x.reader(1), 0);
        due("of the first camp", x.reader(0), 1);
        due("the last camp", x.learns(0, 0), 1);
        due("the first camp", x.learns(1, 0), 0);
    }

    /** read(): "false: there is none such (of either), or it has READ it." */
    private static void readOfNoneSuch() {
        HerdBooks x = camps();
        CHECK.no("nothing yet", x.read(0, 0));
        x.reader(0);
        CHECK.no("no book yet", x.read(0, 0));
        for (int i = 0; i < 24; i++) {
            x.book(0, 0, 0, 1, 1);
        }
        for (int n : new int[] {-1, 1, MIN, MAX}) {
            CHECK.no("reader " + n, x.read(n, 0));
        }
        for (int n : new int[] {-1, 24, 31, 32, MIN, MAX}) {
            CHECK.no("book " + n, x.read(0, n));
        }
        due("nothing was read", x.learns(0, 2), 0);
        CHECK.yes("the first", x.read(0, 0));
        CHECK.yes("the last", x.read(0, 23));
        due("both", x.learns(0, 2), 1 | 1 << 23);
    }

    /** The same: once, each READER for itself, wherever the BOOK is. */
    private static void readOnce() {
        HerdBooks x = camps();
        x.book(0, 0, 1, 1, 1);
        x.reader(0);
        x.reader(0);
        CHECK.yes("read", x.read(0, 0));
        CHECK.no("it has read it", x.read(0, 0));
        due("books", x.learns(0, 2), 1);
        due("level", x.learns(0, 1), 1);
        CHECK.yes("another reads it", x.read(1, 0));
        CHECK.no("it has read it, too", x.read(1, 0));
    }

    /** learns(): "-2 if there is none such, or for another what." */
    private static void learnsOfNoneSuch() {
        HerdBooks x = camps();
        due("no reader yet", x.learns(0, 0), NO_SUCH);
        x.reader(1);
        for (int what = 0; what < 4; what++) {
            for (int reader : new int[] {-1, 1, MIN, MAX}) {
                due("reader " + reader, x.learns(reader, what), NO_SUCH);
            }
        }
        for (int what : new int[] {-1, 4, MIN, MAX}) {
            due("what " + what, x.learns(0, what), NO_SUCH);
        }
        int[] want = {1, 0, 0, NONE};
        for (int what = 0; what < 4; what++) {
            due("what " + what, x.learns(0, what), want[what]);
        }
    }

    /** "the greatest L, 0 .. 9": 0 with nothing READ, and with BOOKS of LEVEL 0. */
    private static void levelOfNothing() {
        HerdBooks x = camps();
        x.reader(0);
        due("nothing read", x.learns(0, 1), 0);
        for (int i = 0; i < 24; i++) {
            x.book(0, 0, 0, 1, 1);
            x.read(0, i);
        }
        due("24 of level 0", x.learns(0, 1), 0);
    }

    /** "that it READ L BOOKS at least of a LEVEL of L or more": L of them, not one fewer. */
    private static void levelOfJustSoMany() {
        for (int level = 1; level <= 9; level++) {
            HerdBooks x = camps();
            x.reader(0);
            for (int i = 0; i < level; i++) {
                due("level by " + i + " of " + level, x.learns(0, 1), i);
                x.book(0, 0, level, 1, 1);
                x.read(0, i);
            }
            due("level by " + level + " of " + level, x.learns(0, 1), level);
            x.book(0, 0, level, 1, 1);
            x.read(0, level);
            due("level by one more of " + level, x.learns(0, 1), level);
        }
    }

    /** "of a LEVEL of L or more": those of a lower one don't count. */
    private static void levelOfTooLowBooks() {
        HerdBooks x = camps();
        x.reader(0);
        int[] levels = {1, 1, 1, 1, 9, 2, 3, 4, 4, 5};
        // Of 3 or more: 9, 3 and the first 4; of 4 or more: 9, 4, 4 and 5.
        int[] want = {1, 1, 1, 1, 1, 2, 2, 3, 3, 4};
        for (int i = 0; i < levels.length; i++) {
            x.book(0, 0, levels[i], 1, 1);
            x.read(0, i);
            due("level with a book of " + levels[i], x.learns(0, 1), want[i]);
        }
        x.book(0, 0, 4, 1, 1);
        x.read(0, 10);
        due("five of 4 or more, two of 5", x.learns(0, 1), 4);
        for (int i = 11; i < 14; i++) {
            x.book(0, 0, 5, 1, 1);
            due("not read", x.learns(0, 1), 4);
            x.read(0, i);
        }
        due("five of 5 or more", x.learns(0, 1), 5);
    }

    /** "0 .. 9": 24 BOOKS of LEVEL 9 are LEVEL 9. */
    private static void levelOfTwentyFour() {
        HerdBooks x = camps();
        x.reader(0);
        for (int i = 0; i < 24; i++) {
            x.book(0, 1, 9, 1, 1);
            x.read(0, i);
            due("level by " + (i + 1), x.learns(0, 1), Math.min(9, i + 1));
        }
    }

    /** "3: NEXT (NONE: there is none ..)". */
    private static void nextOfNone() {
        HerdBooks x = camps();
        x.reader(0);
        due("no books", x.learns(0, 3), NONE);
        x.book(0, 0, 9, 1, 1);
        due("one", x.learns(0, 3), 0);
        x.read(0, 0);
        due("none not read", x.learns(0, 3), NONE);
        x.book(0, 0, 9, 1, 1);
        due("one again", x.learns(0, 3), 1);
        x.lend(1, 1);
        due("none in the shed", x.learns(0, 3), NONE);
    }

    /** "of BOOKS of its CAMP's TONGUE". */
    private static void nextOfItsTongue() {
        HerdBooks x = new HerdBooks();
        x.cell(false);
        for (int tongue = 0; tongue < 4; tongue++) {
            x.camp(0, tongue);
            x.reader(tongue);
        }
        for (int tongue = 0; tongue < 4; tongue++) {
            due("none of its tongue", x.learns(3 - tongue, 3), NONE);
            x.book(0, 3 - tongue, 1, 1, 1);
            due("the one of its tongue", x.learns(3 - tongue, 3), tongue);
        }
    }

    /** "that the SHED has", "in the WEEK of now". */
    private static void nextInTheShed() {
        HerdBooks x = camps();
        x.reader(0);
        x.book(0, 0, 1, 1, 1);
        x.week(3);
        due("in the shed", x.learns(0, 3), 0);
        x.lend(0, 0);
        due("lent", x.learns(0, 3), NONE);
        x.week(4);
        due("still lent", x.learns(0, 3), NONE);
        x.back(0);
        due("back", x.learns(0, 3), 0);
        x.week(99);
        due("in the last week", x.learns(0, 3), 0);
    }

    /** "and it has not READ", it alone. */
    private static void nextNotRead() {
        HerdBooks x = camps();
        x.reader(0);
        x.reader(0);
        for (int i = 0; i < 24; i++) {
            x.book(0, 0, 0, 1, 1);
        }
        for (int i = 0; i < 24; i++) {
            due("next", x.learns(0, 3), i);
            x.read(0, i);
        }
        due("all read", x.learns(0, 3), NONE);
        due("none by the other", x.learns(1, 3), 0);
    }

    /** "that whose LEVEL is nearest to its own and 1; of several the least". */
    private static void nextNearest() {
        HerdBooks x = camps();
        x.reader(0);
        x.book(0, 0, 4, 1, 1);
        due("4", x.learns(0, 3), 0);
        x.book(0, 0, 3, 1, 1);
        due("3 is nearer to 1", x.learns(0, 3), 1);
        x.book(0, 0, 3, 1, 1);
        due("the least of both", x.learns(0, 3), 1);
        x.book(0, 0, 2, 1, 1);
        x.book(0, 0, 0, 1, 1);
        due("2 and 0 alike, the least book", x.learns(0, 3), 3);
        x.book(0, 0, 1, 1, 1);
        due("1 itself", x.learns(0, 3), 5);
        HerdBooks y = camps();
        y.reader(0);
        y.book(0, 0, 0, 1, 1);
        y.book(0, 0, 2, 1, 1);
        due("0 and 2 alike, the least book", y.learns(0, 3), 0);
        y.book(0, 0, 1, 1, 1);
        y.book(0, 0, 3, 1, 1);
        y.read(0, 2);
        // LEVEL 1 now, so 2.
        due("nearest to 2", y.learns(0, 3), 1);
        y.read(0, 1);
        // LEVEL 1 still: 3 is 1 from 2, 0 is 2.
        due("3", y.learns(0, 3), 3);
    }

    /** The same at LEVEL 9: nearest to 10. */
    private static void nextAboveNine() {
        HerdBooks x = camps();
        x.reader(0);
        for (int i = 0; i < 9; i++) {
            x.book(0, 0, 9, 1, 1);
            x.read(0, i);
        }
        due("level", x.learns(0, 1), 9);
        x.book(0, 0, 0, 1, 1);
        due("0 is the only one", x.learns(0, 3), 9);
        x.book(0, 0, 8, 1, 1);
        due("8 is nearer", x.learns(0, 3), 10);
        x.book(0, 0, 9, 1, 1);
        due("9 is nearest", x.learns(0, 3), 11);
    }

    /** NEXT by THE VIEW, to the WEEK. */
    private static void nextByTheView() {
        HerdBooks x = camps();
        x.reader(0);
        x.book(0, 0, 1, 1, 1);
        x.week(3);
        x.lend(0, 0);
        x.week(5);
        x.back(0);
        int[] want = {0, 0, 0, NONE, NONE, 0};
        for (int view = 0; view <= 5; view++) {
            x.view(view);
            due("by " + view, x.learns(0, 3), want[view]);
        }
        x.view(NONE);
        due("now", x.learns(0, 3), 0);
    }

    private static HerdBooks kinds() {
        HerdBooks x = camps();
        for (int kind = 0; kind < 8; kind++) {
            x.book(kind, 0, 0, 1, 1);
        }
        for (int i = 0; i < 12; i++) {
            x.reader(0);
        }
        return x;
    }

    /** Lets READERS 0 on READ a BOOK of a KIND, until so many have; the BOOK of KIND k is k. */
    private static void readBy(HerdBooks x, int kind, int readers) {
        for (int i = 0; i < readers; i++) {
            x.read(i, kind);
        }
    }

    private static void givers(HerdBooks x, String call, int... want) {
        for (int kind = 0; kind < 8; kind++) {
            due(call + ", giver of " + kind, x.giver(kind), want[kind]);
        }
    }

    /** giver(): "NONE: there is none such." */
    private static void giverOfNoneSuch() {
        HerdBooks x = kinds();
        readBy(x, 0, 5);
        readBy(x, 7, 6);
        for (int kind : new int[] {-1, 8, MIN, MAX}) {
            due("kind " + kind, x.giver(kind), NONE);
        }
        givers(x, "the first and the last", 5, 0, 0, 0, 0, 0, 0, 6);
    }

    /** "of each KIND how many READERS READ a BOOK of it; 1 and 2 are hidden": 0 and 3 are not. */
    private static void giverOfEachNumber() {
        HerdBooks x = kinds();
        readBy(x, 6, 1);
        readBy(x, 7, 2);
        // Two are hidden already, so that no other goes with them.
        for (int readers = 0; readers <= 12; readers++) {
            readBy(x, 0, readers);
            due("giver of " + readers, x.giver(0), readers == 1 || readers == 2 ? HIDDEN : readers);
        }
        givers(x, "at the end", 12, 0, 0, 0, 0, 0, HIDDEN, HIDDEN);
    }

    /** "how many READERS": not how many BOOKS. */
    private static void giverOfReadersNotBooks() {
        HerdBooks x = kinds();
        for (int i = 8; i < 24; i++) {
            x.book(3, 0, 0, 1, 1);
            x.read(0, i);
        }
        due("one reader of 16", x.giver(3), HIDDEN);
        x.read(1, 3);
        due("two readers", x.giver(3), HIDDEN);
        x.read(11, 23);
        due("three readers", x.giver(3), 3);
        x.read(11, 3);
        due("three still", x.giver(3), 3);
    }

    /** "if just one KIND is hidden so, the least of the others that is above 0 .. is hidden, too". */
    private static void justOneHidden() {
        HerdBooks x = kinds();
        readBy(x, 1, 3);
        readBy(x, 2, 4);
        readBy(x, 5, 2);
        givers(x, "two readers of 5", 0, HIDDEN, 4, 0, 0, HIDDEN, 0, 0);
        HerdBooks y = kinds();
        readBy(y, 1, 12);
        readBy(y, 5, 1);
        givers(y, "one reader of 5", 0, HIDDEN, 0, 0, 0, HIDDEN, 0, 0);
    }

    /** "the others that is above 0": where there is none such, just one stays hidden. */
    private static void oneHiddenAndNoOther() {
        HerdBooks x = kinds();
        readBy(x, 0, 1);
        givers(x, "one reader", HIDDEN, 0, 0, 0, 0, 0, 0, 0);
        readBy(x, 0, 2);
        givers(x, "two readers", HIDDEN, 0, 0, 0, 0, 0, 0, 0);
        readBy(x, 0, 3);
        givers(x, "three readers", 3, 0, 0, 0, 0, 0, 0, 0);
    }

    /** "the least of the others .. (of several the least KIND)". */
    private static void leastOfTheOthers() {
        HerdBooks x = kinds();
        readBy(x, 0, 1);
        readBy(x, 2, 5);
        readBy(x, 4, 4);
        readBy(x, 6, 4);
        givers(x, "5, 4, 4", HIDDEN, 0, 5, 0, HIDDEN, 0, 4, 0);
        readBy(x, 7, 3);
        givers(x, "3 of the last", HIDDEN, 0, 5, 0, 4, 0, 4, HIDDEN);
        HerdBooks y = kinds();
        readBy(y, 0, 3);
        readBy(y, 1, 3);
        readBy(y, 7, 2);
        givers(y, "the first of two alike", HIDDEN, 3, 0, 0, 0, 0, 0, HIDDEN);
    }

    /** "just one": with two or more hidden no other goes with them. */
    private static void twoHidden() {
        HerdBooks x = kinds();
        readBy(x, 0, 1);
        readBy(x, 1, 2);
        readBy(x, 2, 3);
        givers(x, "two hidden", HIDDEN, HIDDEN, 3, 0, 0, 0, 0, 0);
        readBy(x, 3, 2);
        givers(x, "three hidden", HIDDEN, HIDDEN, 3, HIDDEN, 0, 0, 0, 0);
        readBy(x, 0, 3);
        readBy(x, 1, 3);
        givers(x, "one hidden again", HIDDEN, 3, 3, HIDDEN, 0, 0, 0, 0);
    }

    /** Where none is hidden, none goes with it. */
    private static void noneHidden() {
        HerdBooks x = kinds();
        for (int kind = 0; kind < 8; kind++) {
            readBy(x, kind, kind == 3 ? 0 : 3 + kind);
        }
        givers(x, "all above 2 or 0", 3, 4, 5, 0, 7, 8, 9, 10);
    }
}
