/** The boundary cases of promises 28 to 31, sentence by sentence as Terms 5 and the promises have them. */
public final class EdgeRoundsTest {
    private static final Check CHECK = new Check("EdgeRoundsTest");
    private static final int NONE = HerdBooks.NONE;
    private static final int MIN = Integer.MIN_VALUE;
    private static final int MAX = Integer.MAX_VALUE;
    private static final int MILLION = 1000000;

    public static void main(String[] args) {
        roundOfNoneSuch();
        roundOfOneCell();
        roundOfOneDay();
        roundOfSixtyDays();
        roundOfSixtyOneDays();
        cellsWithWellsAlone();
        fewestDaysThatWaysMake();
        cellThatCannotBeReached();
        shedWithAWell();
        meetsMost();
        thenInTheFewestDays();
        thenTheLeastSet();
        meetsInItsWeek();
        stopsInTheLeastRow();
        stopOfNoneSuch();
        wishOfNoneSuch();
        wishTellsAnew();
        loadOfNoneSuch();
        loadOfNothing();
        loadToTheGram();
        loadOfAllKinds();
        loadOneOfEachKind();
        loadOfTheFewestGrams();
        loadOfTheLeastSet();
        loadOfItsTongue();
        loadOfWhatTheShedHas();
        loadOfWhatItMay();
        loadOfWhatItNeverHad();
        loadByTheView();
        CHECK.close();
    }

    private static void due(String call, long got, long want) {
        CHECK.due(call, got, want);
    }

    private static void round(HerdBooks x, int week, int days, int meets, int length, int... stops) {
        String call = "round(" + week + ", " + days + ")";
        int set = 0;
        for (int i = 0; i < stops.length; i++) {
            set |= 1 << stops[i];
            due(call + " stop " + i, x.stop(week, days, i), stops[i]);
        }
        due(call + " no more stops", x.stop(week, days, stops.length), NONE);
        due(call + " meets", x.round(week, days, 0), meets);
        due(call + " days", x.round(week, days, 1), length);
        due(call + " set", x.round(week, days, 2), set);
    }

    /** CELLS without WAYS; bit k of wells: CELL k has a WELL. */
    private static HerdBooks cells(int count, int wells) {
        HerdBooks x = new HerdBooks();
        for (int i = 0; i < count; i++) {
            x.cell((wells >> i & 1) == 1);
        }
        return x;
    }

    /** "NONE: there are no such WEEK, days, no CELLS, or for another what." */
    private static void roundOfNoneSuch() {
        HerdBooks x = new HerdBooks();
        for (int what = 0; what < 3; what++) {
            due("no cells", x.round(0, 60, what), NONE);
        }
        due("no cells to stop in", x.stop(0, 60, 0), NONE);
        x = cells(2, 3);
        x.way(0, 1, 1);
        x.camp(1, 0);
        for (int what = 0; what < 3; what++) {
            for (int week : new int[] {-1, 100, MIN, MAX}) {
                due("week " + week, x.round(week, 2, what), NONE);
            }
            for (int days : new int[] {0, 61, -1, MIN, MAX}) {
                due("days " + days, x.round(0, days, what), NONE);
            }
        }
        for (int what : new int[] {-1, 3, MIN, MAX}) {
            due("what " + what, x.round(0, 2, what), NONE);
        }
        round(x, 0, 60, MILLION, 2, 1);
        round(x, 99, 60, MILLION, 2, 1);
    }

    /** One CELL is enough for a ROUND: to none and back. */
    private static void roundOfOneCell() {
        HerdBooks x = cells(1, 0);
        round(x, 0, 1, 0, 0);
        round(x, 99, 60, 0, 0);
        x.camp(0, 0);
        round(x, 0, 60, 0, 0);
        HerdBooks y = cells(1, 1);
        round(y, 0, 60, 0, 0);
        for (int i = 1; i <= 6; i++) {
            y.camp(0, 0);
            round(y, 0, 1, i * MILLION, 0);
        }
        round(y, 99, 60, 6 * MILLION, 0);
    }

    /** "of so many days, 1 .. 60": in one day no CELL is gone to and come back from. */
    private static void roundOfOneDay() {
        HerdBooks x = cells(2, 2);
        x.way(0, 1, 1);
        x.camp(1, 0);
        round(x, 0, 1, 0, 0);
        round(x, 0, 2, MILLION, 2, 1);
    }

    /** "that can be gone through in so many days": in 60, not in 59. */
    private static void roundOfSixtyDays() {
        HerdBooks x = cells(5, 1 << 4);
        x.way(0, 1, 9);
        x.way(1, 2, 9);
        x.way(2, 3, 9);
        x.way(3, 4, 3);
        x.camp(4, 0);
        round(x, 0, 59, 0, 0);
        round(x, 0, 60, MILLION, 60, 4);
        x.way(3, 4, 4);
        round(x, 0, 60, 0, 0);
        due("62 days are no days", x.round(0, 62, 0), NONE);
    }

    /** The same round a ring, which may be 60 days long, not 61. */
    private static void roundOfSixtyOneDays() {
        HerdBooks x = cells(7, 1 << 3 | 1 << 4);
        for (int i = 0; i < 6; i++) {
            x.way(i, i + 1, 9);
        }
        x.way(6, 0, 6);
        x.camp(3, 0);
        x.camp(4, 0);
        // 27 days to CELL 3, 9 to CELL 4, 24 home over 5 and 6.
        round(x, 0, 60, 2 * MILLION, 60, 3, 4);
        round(x, 0, 59, MILLION, 48, 4);
        x.way(6, 0, 7);
        round(x, 0, 60, MILLION, 50, 4);
        round(x, 0, 49, 0, 0);
    }

    /** "to some CELLS with WELLS": never to one without. */
    private static void cellsWithWellsAlone() {
        HerdBooks x = cells(3, 0);
        x.way(0, 1, 1);
        x.way(0, 2, 1);
        x.camp(1, 0);
        x.camp(2, 0);
        round(x, 0, 60, 0, 0);
        HerdBooks y = cells(3, 4);
        y.way(0, 1, 1);
        y.way(0, 2, 1);
        y.camp(1, 0);
        y.camp(2, 0);
        round(y, 0, 60, MILLION, 2, 2);
        // All ten CELLS, nine of them with WELLS: the last one can be a STOP.
        HerdBooks z = cells(10, 1022);
        for (int i = 1; i < 10; i++) {
            z.way(0, i, 1);
        }
        z.camp(9, 0);
        round(z, 0, 60, MILLION, 2, 9);
        z.camp(1, 0);
        round(z, 0, 2, MILLION, 2, 1);
        round(z, 0, 4, 2 * MILLION, 4, 1, 9);
    }

    /** "by the fewest days that WAYS make (what it passes on the way counts for nothing)". */
    private static void fewestDaysThatWaysMake() {
        HerdBooks x = cells(4, 8);
        x.way(0, 3, 9);
        x.way(0, 1, 3);
        x.way(1, 2, 3);
        x.way(2, 3, 3);
        x.camp(1, 0);
        x.camp(3, 0);
        round(x, 0, 60, MILLION, 18, 3);
        x.way(2, 3, 2);
        round(x, 0, 60, MILLION, 16, 3);
        round(x, 0, 15, 0, 0);
        // Passed by, a CELL with a WELL in which a CAMP is becomes a STOP, for no more days.
        HerdBooks y = cells(3, 6);
        y.way(0, 1, 1);
        y.way(1, 2, 1);
        y.camp(1, 0);
        y.camp(2, 0);
        round(y, 0, 4, 2 * MILLION, 4, 1, 2);
        round(y, 0, 3, MILLION, 2, 1);
    }

    /** No WAYS lead there: it can't be gone to, in 60 days neither. */
    private static void cellThatCannotBeReached() {
        HerdBooks x = cells(4, 14);
        x.way(2, 3, 1);
        x.way(0, 1, 1);
        x.camp(2, 0);
        x.camp(3, 0);
        round(x, 0, 60, 0, 0);
        x.camp(1, 0);
        round(x, 0, 60, MILLION, 2, 1);
        x.way(1, 2, 9);
        round(x, 0, 60, 3 * MILLION, 22, 1, 2, 3);
    }

    /** "(in CELL 0, too, if it has a WELL)"; "the set (without CELL 0)". */
    private static void shedWithAWell() {
        HerdBooks x = cells(2, 3);
        x.way(0, 1, 1);
        x.camp(0, 0);
        round(x, 0, 60, MILLION, 0);
        x.camp(1, 0);
        round(x, 0, 1, MILLION, 0);
        round(x, 0, 2, 2 * MILLION, 2, 1);
        HerdBooks y = cells(2, 2);
        y.way(0, 1, 1);
        y.camp(0, 0);
        round(y, 0, 60, 0, 0);
        y.camp(1, 0);
        round(y, 0, 60, MILLION, 2, 1);
    }

    /** "that which MEETS most", be it by one PART and for many more days. */
    private static void meetsMost() {
        HerdBooks x = cells(3, 6);
        x.way(0, 1, 1);
        x.way(0, 2, 9);
        x.camp(0, 0);
        // A third of a million in each of 3 CELLS, and the one that is left in CELL 0.
        round(x, 1, 18, 333333, 2, 1);
        round(x, 1, 20, 666666, 20, 1, 2);
        x.grass(0, 1, 0);
        x.grass(1, 1, 49);
        x.grass(2, 1, 50);
        // 49 and 50 of 99: 494949 and 505050, rests 49 and 50, and one is left.
        round(x, 1, 17, 494949, 2, 1);
        round(x, 1, 18, 505051, 18, 2);
        round(x, 1, 19, 505051, 18, 2);
        round(x, 1, 20, MILLION, 20, 1, 2);
    }

    /** "then in the fewest days". */
    private static void thenInTheFewestDays() {
        HerdBooks x = cells(3, 6);
        x.way(0, 1, 3);
        x.way(0, 2, 2);
        x.camp(1, 0);
        x.camp(2, 0);
        round(x, 0, 3, 0, 0);
        round(x, 0, 5, MILLION, 4, 2);
        round(x, 0, 6, MILLION, 4, 2);
        x.way(0, 1, 1);
        round(x, 0, 5, MILLION, 2, 1);
    }

    /** "then the least set (bits)". */
    private static void thenTheLeastSet() {
        HerdBooks x = cells(5, 30);
        for (int i = 1; i < 5; i++) {
            x.way(0, i, 2);
            x.camp(i, 0);
        }
        round(x, 0, 4, MILLION, 4, 1);
        round(x, 0, 8, 2 * MILLION, 8, 1, 2);
        round(x, 0, 12, 3 * MILLION, 12, 1, 2, 3);
        x.way(1, 4, 1);
        x.way(2, 3, 1);
        // Bits 1 and 4 are 18, bits 2 and 3 are 12.
        round(x, 0, 5, 2 * MILLION, 5, 2, 3);
        // A CELL in which nothing is met and that costs no day stays out.
        HerdBooks y = cells(4, 14);
        y.way(0, 1, 1);
        y.way(1, 2, 1);
        y.way(2, 3, 1);
        y.camp(3, 0);
        round(y, 0, 60, MILLION, 6, 3);
    }

    /** "MEETS: PARTS of all CAMPS in these CELLS", in that WEEK. */
    private static void meetsInItsWeek() {
        HerdBooks x = cells(2, 2);
        x.way(0, 1, 1);
        x.week(5);
        x.camp(1, 0);
        round(x, 4, 60, 0, 0);
        round(x, 5, 60, MILLION, 2, 1);
        round(x, 6, 60, 500000, 2, 1);
        round(x, 99, 60, 500000, 2, 1);
        x.week(6);
        x.news(0, 0, 6, true);
        round(x, 6, 60, 0, 0);
        round(x, 7, 60, 500000, 2, 1);
        x.view(5);
        round(x, 6, 60, 500000, 2, 1);
        x.view(6);
        round(x, 6, 60, 0, 0);
    }

    /** "STOPS: of the orders in the fewest days the least row." */
    private static void stopsInTheLeastRow() {
        HerdBooks x = cells(4, 14);
        x.way(0, 3, 1);
        x.way(3, 1, 1);
        x.way(1, 2, 1);
        x.way(2, 0, 1);
        for (int i = 1; i < 4; i++) {
            x.camp(i, 0);
        }
        // 2, 1, 3 or 3, 1, 2 round the ring.
        round(x, 0, 4, 3 * MILLION, 4, 2, 1, 3);
        x.way(2, 0, 2);
        // 5 days round the ring; 6 out by 3 and 1 to 2 and back.
        round(x, 0, 60, 3 * MILLION, 5, 2, 1, 3);
        x.way(2, 0, 9);
        // In a row now, to and fro: any order of the three that goes no day twice in vain; the least begins with 1.
        round(x, 0, 6, 3 * MILLION, 6, 1, 2, 3);
    }

    /** stop(): "The i-th STOP of a ROUND, from 0 on. NONE: there is none such; as round()." */
    private static void stopOfNoneSuch() {
        HerdBooks x = cells(10, 1022);
        for (int i = 0; i < 9; i++) {
            x.way(i, i + 1, 1);
        }
        x.way(9, 0, 1);
        x.camp(5, 0);
        // In WEEK 5 some PARTS lie in every CELL.
        round(x, 5, 10, MILLION - x.parts(0, 0, 5), 10, 1, 2, 3, 4, 5, 6, 7, 8, 9);
        for (int i : new int[] {-1, 9, 10, MIN, MAX}) {
            due("stop " + i, x.stop(5, 10, i), NONE);
        }
        for (int week : new int[] {-1, 100, MIN, MAX}) {
            due("week " + week, x.stop(week, 10, 0), NONE);
        }
        for (int days : new int[] {0, 61, -1, MIN, MAX}) {
            due("days " + days, x.stop(5, days, 0), NONE);
        }
        due("no stop in one day", x.stop(5, 1, 0), NONE);
        due("one in two days", x.stop(5, 2, 0), 1);
        due("no second", x.stop(5, 2, 1), NONE);
    }

    /** "A WISH of a CAMP for a KIND: true; false: there is none such (of either), or another number." */
    private static void wishOfNoneSuch() {
        HerdBooks x = cells(1, 0);
        CHECK.no("no camp yet", x.wish(0, 0, 0));
        x.camp(0, 0);
        for (int n : new int[] {-1, 1, MIN, MAX}) {
            CHECK.no("camp " + n, x.wish(n, 0, 5));
        }
        for (int n : new int[] {-1, 8, MIN, MAX}) {
            CHECK.no("kind " + n, x.wish(0, n, 5));
        }
        for (int n : new int[] {-1, 100, MIN, MAX}) {
            CHECK.no("wish " + n, x.wish(0, 0, n));
        }
        for (int kind = 0; kind < 8; kind++) {
            x.book(kind, 0, 0, 1, 1);
        }
        due("no wish was told", x.load(0, 20000, 0), 0);
        CHECK.yes("kind 0", x.wish(0, 0, 99));
        CHECK.yes("kind 7", x.wish(0, 7, 99));
        due("of these two", x.load(0, 20000, 2), 129);
        due("worth", x.load(0, 20000, 0), 198);
    }

    /** "WISHES (of a KIND, 0 .. 99; 0 at first)", told anew. */
    private static void wishTellsAnew() {
        HerdBooks x = cells(1, 0);
        x.camp(0, 0);
        x.camp(0, 0);
        x.book(3, 0, 0, 1, 10);
        due("0 at first", x.load(0, 10, 0), 0);
        due("nothing", x.load(0, 10, 2), 0);
        CHECK.yes("1", x.wish(0, 3, 1));
        due("worth 1", x.load(0, 10, 0), 1);
        due("of another camp 0", x.load(1, 10, 0), 0);
        CHECK.yes("99", x.wish(0, 3, 99));
        CHECK.yes("99 as it is", x.wish(0, 3, 99));
        CHECK.no("100", x.wish(0, 3, 100));
        CHECK.no("-1", x.wish(0, 3, -1));
        due("worth 99", x.load(0, 10, 0), 99);
        CHECK.yes("0 again", x.wish(0, 3, 0));
        due("worth 0", x.load(0, 10, 0), 0);
        due("nothing again", x.load(0, 10, 2), 0);
    }

    private static void load(HerdBooks x, int camp, int grams, int worth, int weight, int... books) {
        String call = "load(" + camp + ", " + grams + ")";
        int set = 0;
        for (int book : books) {
            set |= 1 << book;
        }
        due(call + " worth", x.load(camp, grams, 0), worth);
        due(call + " grams", x.load(camp, grams, 1), weight);
        due(call + " set", x.load(camp, grams, 2), set);
    }

    /** load(): "NONE: there is no such CAMP, other grams, or for another what"; "grams, 1 .. 20000". */
    private static void loadOfNoneSuch() {
        HerdBooks x = cells(1, 0);
        due("no camp yet", x.load(0, 1, 0), NONE);
        x.camp(0, 0);
        for (int what = 0; what < 3; what++) {
            for (int camp : new int[] {-1, 1, MIN, MAX}) {
                due("camp " + camp, x.load(camp, 1, what), NONE);
            }
            for (int grams : new int[] {0, 20001, -1, MIN, MAX}) {
                due("grams " + grams, x.load(0, grams, what), NONE);
            }
        }
        for (int what : new int[] {-1, 3, MIN, MAX}) {
            due("what " + what, x.load(0, 1, what), NONE);
        }
        load(x, 0, 1, 0, 0);
        load(x, 0, 20000, 0, 0);
    }

    /** No BOOKS, none that fits, none worth anything: nothing is loaded. */
    private static void loadOfNothing() {
        HerdBooks x = cells(1, 0);
        x.camp(0, 0);
        x.wish(0, 0, 9);
        load(x, 0, 20000, 0, 0);
        x.book(1, 0, 0, 1, 1);
        load(x, 0, 20000, 0, 0);
        x.book(0, 0, 0, 1, 2);
        load(x, 0, 1, 0, 0);
        load(x, 0, 2, 9, 2, 1);
        load(x, 0, 1, 0, 0);
    }

    /** "of so many grams": just as many as it weighs, not one fewer. */
    private static void loadToTheGram() {
        HerdBooks x = cells(1, 0);
        x.camp(0, 0);
        x.book(0, 0, 0, 1, 1);
        x.book(1, 0, 0, 1, 2000);
        x.wish(0, 0, 1);
        x.wish(0, 1, 2);
        load(x, 0, 1, 1, 1, 0);
        load(x, 0, 1999, 1, 1, 0);
        load(x, 0, 2000, 2, 2000, 1);
        load(x, 0, 2001, 3, 2001, 0, 1);
        load(x, 0, 20000, 3, 2001, 0, 1);
    }

    /** All eight KINDS, of the most grams and the greatest WISHES; the last BOOK is 23. */
    private static void loadOfAllKinds() {
        HerdBooks x = cells(1, 0);
        x.camp(0, 0);
        for (int i = 0; i < 16; i++) {
            x.book(i % 8, 1, 0, 1, 1);
        }
        for (int kind = 0; kind < 8; kind++) {
            x.book(kind, 0, 0, 1, 2000);
            x.wish(0, kind, 99);
        }
        load(x, 0, 20000, 792, 16000, 16, 17, 18, 19, 20, 21, 22, 23);
        load(x, 0, 16000, 792, 16000, 16, 17, 18, 19, 20, 21, 22, 23);
        load(x, 0, 15999, 693, 14000, 16, 17, 18, 19, 20, 21, 22);
        load(x, 0, 2000, 99, 2000, 16);
        // Behind a LOAD of all, one of nothing.
        load(x, 0, 1999, 0, 0);
        load(x, 0, 1, 0, 0);
    }

    /** "at most one of each KIND". */
    private static void loadOneOfEachKind() {
        HerdBooks x = cells(1, 0);
        x.camp(0, 0);
        x.book(0, 0, 0, 1, 30);
        x.book(0, 0, 0, 1, 20);
        x.book(0, 0, 0, 1, 20);
        x.book(0, 0, 0, 1, 25);
        x.wish(0, 0, 5);
        load(x, 0, 20000, 5, 20, 1);
        load(x, 0, 19, 0, 0);
        x.book(0, 0, 0, 1, 19);
        load(x, 0, 19, 5, 19, 4);
        load(x, 0, 20000, 5, 19, 4);
    }

    /** "then of the fewest grams". */
    private static void loadOfTheFewestGrams() {
        HerdBooks x = cells(1, 0);
        x.camp(0, 0);
        x.book(0, 0, 0, 1, 20);
        x.book(1, 0, 0, 1, 10);
        x.book(2, 0, 0, 1, 10);
        x.wish(0, 0, 8);
        x.wish(0, 1, 4);
        x.wish(0, 2, 4);
        load(x, 0, 39, 12, 30, 0, 1);
        load(x, 0, 40, 16, 40, 0, 1, 2);
        load(x, 0, 20, 8, 20, 0);
        x.book(0, 0, 0, 1, 21);
        load(x, 0, 21, 8, 20, 0);
        x.wish(0, 1, 9);
        load(x, 0, 20, 13, 20, 1, 2);
        x.wish(0, 2, 0);
        load(x, 0, 20, 9, 10, 1);
    }

    /** "then the least set": bits 1 and 2 are less than bits 0 and 3. */
    private static void loadOfTheLeastSet() {
        HerdBooks x = cells(1, 0);
        x.camp(0, 0);
        for (int i = 0; i < 4; i++) {
            x.book(i, 0, 0, 1, 10 * (i + 1));
            x.wish(0, i, 5 + i);
        }
        load(x, 0, 50, 13, 50, 1, 2);
        HerdBooks y = cells(1, 0);
        y.camp(0, 0);
        for (int i = 0; i < 4; i++) {
            y.book(7 - i, 0, 0, 1, i == 3 ? 39 : 10 * (i + 1));
            y.wish(0, 7 - i, 5 + i);
        }
        load(y, 0, 50, 13, 49, 0, 3);
    }

    /** "of its TONGUE". */
    private static void loadOfItsTongue() {
        HerdBooks x = cells(1, 0);
        for (int tongue = 0; tongue < 4; tongue++) {
            x.camp(0, tongue);
            x.book(0, 3 - tongue, 0, 1, 10 + tongue);
            x.wish(tongue, 0, 1 + tongue);
        }
        for (int camp = 0; camp < 4; camp++) {
            load(x, camp, 100, 1 + camp, 13 - camp, 3 - camp);
        }
    }

    /** "in the WEEK of now: BOOKS that the SHED has". */
    private static void loadOfWhatTheShedHas() {
        HerdBooks x = cells(1, 0);
        x.camp(0, 0);
        x.camp(0, 1);
        x.book(0, 0, 0, 1, 10);
        x.wish(0, 0, 7);
        x.week(2);
        x.lend(0, 1);
        load(x, 0, 100, 0, 0);
        x.week(3);
        load(x, 0, 100, 0, 0);
        x.back(0);
        load(x, 0, 100, 7, 10, 0);
    }

    /** "that it MAY borrow", in the WEEK of now. */
    private static void loadOfWhatItMay() {
        HerdBooks x = cells(1, 0);
        x.camp(0, 0);
        x.book(0, 0, 4, 1, 10);
        x.book(1, 0, 5, 1, 10);
        x.wish(0, 0, 7);
        x.wish(0, 1, 8);
        Check.rules(x, "if level > 4: bar; if week = 3: bar;");
        x.week(2);
        load(x, 0, 100, 7, 10, 0);
        x.week(3);
        load(x, 0, 100, 0, 0);
        x.week(4);
        load(x, 0, 100, 7, 10, 0);
        Check.rules(x, "");
        load(x, 0, 100, 15, 20, 0, 1);
    }

    /** "that it never had by an ACT of any WEEK": LENT or PASSED to it, for ever. */
    private static void loadOfWhatItNeverHad() {
        HerdBooks x = cells(1, 0);
        for (int i = 0; i < 3; i++) {
            x.camp(0, 0);
            x.wish(i, 0, 7);
        }
        x.book(0, 0, 0, 9, 10);
        x.lend(0, 0);
        x.tear(0, 1, 0);
        x.back(0);
        load(x, 0, 100, 0, 0);
        load(x, 1, 100, 7, 10, 0);
        x.lend(0, 2);
        x.pass(0, 1, 0);
        x.back(0);
        load(x, 1, 100, 0, 0);
        load(x, 2, 100, 0, 0);
        x.week(99);
        load(x, 0, 100, 0, 0);
        // Another BOOK of the KIND, heavier: that one it never had.
        x.book(0, 0, 0, 9, 11);
        load(x, 0, 100, 7, 11, 1);
    }

    /** LOAD by THE VIEW, to the WEEK: what the SHED has, what it MAY, what it had. */
    private static void loadByTheView() {
        HerdBooks x = cells(1, 0);
        x.camp(0, 0);
        x.camp(0, 1);
        x.book(0, 0, 0, 9, 10);
        x.wish(0, 0, 7);
        x.week(3);
        x.lend(0, 0);
        x.week(4);
        x.back(0);
        load(x, 0, 100, 0, 0);
        x.view(2);
        load(x, 0, 100, 7, 10, 0);
        x.view(3);
        load(x, 0, 100, 0, 0);
        x.view(4);
        load(x, 0, 100, 0, 0);
        // LENT and BACK in one WEEK: by that WEEK the SHED has it, and the CAMP had it.
        HerdBooks z = cells(1, 0);
        z.camp(0, 0);
        z.book(0, 0, 0, 9, 10);
        z.wish(0, 0, 7);
        z.week(3);
        z.lend(0, 0);
        z.back(0);
        z.view(3);
        load(z, 0, 100, 0, 0);
        z.view(2);
        load(z, 0, 100, 7, 10, 0);
        HerdBooks y = cells(1, 0);
        y.camp(0, 0);
        y.camp(0, 1);
        y.book(0, 0, 0, 9, 10);
        y.wish(0, 0, 7);
        y.lend(0, 1);
        y.week(3);
        y.tear(0, 2, 1);
        y.back(0);
        Check.rules(y, "if left < 9: bar;");
        load(y, 0, 100, 0, 0);
        Check.rules(y, "if left < 7: bar;");
        load(y, 0, 100, 7, 10, 0);
        y.view(2);
        load(y, 0, 100, 0, 0);
        y.view(3);
        load(y, 0, 100, 7, 10, 0);
        Check.rules(y, "if left = 7: bar;");
        load(y, 0, 100, 0, 0);
    }
}
