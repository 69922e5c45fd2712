/** The boundary cases of promises 23 to 27, sentence by sentence as Terms 4 and the promises have them. */
public final class EdgeRulesTest {
    private static final Check CHECK = new Check("EdgeRulesTest");
    private static final int NONE = HerdBooks.NONE;
    private static final int NO_SUCH = -2;
    private static final int MIN = Integer.MIN_VALUE;
    private static final int MAX = Integer.MAX_VALUE;
    private static final int BLANKS = 0x20202020;
    private static final String SIXTEEN = "bar;bar;bar;bar;bar;bar;bar;bar;bar;bar;bar;bar;bar;bar;bar;bar;";

    public static void main(String[] args) {
        tapeOfFiveHundred();
        nothingComes();
        highestByteFirst();
        endOfTheTape();
        tapeGoesOnBehindTheEnd();
        fullTapes();
        anyByteAlone();
        anyByteBehindAWord();
        anyByteBehindANumber();
        anyByteForASign();
        wordsAsLongAsTheyGo();
        wordsNeedNoBlanks();
        numbersOfOneToFourDigits();
        longRowsOfDigits();
        textsCutShort();
        deedsAlone();
        testsOfBothKinds();
        badWeeks();
        seventeenLines();
        fiveTests();
        firstOfFaults();
        noTextComesFirst();
        tapeIsTaken();
        faultOfTheLatest();
        ruleOfNoneSuch();
        rulesWithoutLines();
        linesByTheirNumbers();
        allTestsMustHold();
        numbersAgainstFacts();
        wellByLikeliest();
        wellAheadOfItsFirstWeek();
        factsUpToTheWeek();
        factsByTheView();
        CHECK.close();
    }

    private static void due(String call, long got, long want) {
        CHECK.due(call, got, want);
    }

    private static void text(String text, int lines, int fault, int place) {
        HerdBooks x = new HerdBooks();
        String shown = text.length() > 60 ? text.substring(0, 60) + ".." : text;
        due("rules of " + shown, Check.rules(x, text), lines);
        due("fault of " + shown, x.fault(0), fault);
        due("place of " + shown, x.fault(1), place);
        due("lines by " + shown, x.count(8), fault == 0 ? lines : 0);
    }

    private static void good(String text, int lines) {
        text(text, lines, 0, NONE);
    }

    private static void bad(String text, int fault, int place) {
        text(text, NONE, fault, place);
    }

    /** "THE TAPE has at most 500 bytes"; feed(): "how many it has. NONE .. if there would be more than 500." */
    private static void tapeOfFiveHundred() {
        HerdBooks x = new HerdBooks();
        for (int i = 1; i <= 25; i++) {
            due("feed " + i, x.feed(BLANKS, BLANKS, BLANKS, BLANKS, BLANKS), 20 * i);
        }
        due("the 26th", x.feed(BLANKS, BLANKS, BLANKS, BLANKS, BLANKS), NONE);
        due("500 bytes", x.end(500), 500);
        for (int n = 499; n > 480; n -= 6) {
            x.end(n);
            due("behind " + n, x.feed(BLANKS, BLANKS, BLANKS, BLANKS, BLANKS), NONE);
            due("still " + n, x.end(n + 1), NONE);
        }
        due("481", x.end(481), 481);
        due("one too many", x.feed(BLANKS, BLANKS, BLANKS, BLANKS, BLANKS), NONE);
        due("480", x.end(480), 480);
        due("just so many", x.feed(BLANKS, BLANKS, BLANKS, BLANKS, BLANKS), 500);
        due("no more", x.feed(BLANKS, BLANKS, BLANKS, BLANKS, BLANKS), NONE);
    }

    /** "NONE, and nothing comes": what stands there is as it was. */
    private static void nothingComes() {
        HerdBooks x = new HerdBooks();
        for (int i = 0; i < 24; i++) {
            x.feed(BLANKS, BLANKS, BLANKS, BLANKS, BLANKS);
        }
        Check.type(x, 480, "bar;");
        due("refused", x.feed(0x7A7A7A7A, 0, -1, MIN, MAX), NONE);
        due("484 bytes", x.end(485), NONE);
        due("as it was", x.end(484), 484);
        due("one line", x.rules(), 1);
        due("no fault", x.fault(0), 0);
    }

    /** "twenty bytes come behind it, of each number the highest first", whatever its sign. */
    private static void highestByteFirst() {
        HerdBooks x = new HerdBooks();
        // "bar;" five times, then bytes 128, 255 and 0 behind blanks.
        due("five lines", x.feed(0x6261723B, 0x6261723B, 0x6261723B, 0x6261723B, 0x6261723B), 20);
        due("rules", x.rules(), 5);
        int[] numbers = {0x80202020, 0x20802020, 0x20208020, 0x20202080, -1, 0};
        int[] places = {0, 1, 2, 3, 0, 0};
        for (int i = 0; i < numbers.length; i++) {
            x.feed(numbers[i], BLANKS, BLANKS, BLANKS, BLANKS);
            due("rules of " + numbers[i], x.rules(), NONE);
            due("place in the first", x.fault(1), places[i]);
            x.feed(BLANKS, BLANKS, BLANKS, BLANKS, numbers[i]);
            due("rules of " + numbers[i], x.rules(), NONE);
            due("place in the last", x.fault(1), 16 + places[i]);
        }
    }

    /** "The tape has its first n bytes alone: n. NONE if it has not so many, or n is below 0." */
    private static void endOfTheTape() {
        HerdBooks x = new HerdBooks();
        due("0 of none", x.end(0), 0);
        due("1 of none", x.end(1), NONE);
        x.feed(0x6261723B, 0x6261723B, BLANKS, BLANKS, BLANKS);
        for (int n : new int[] {-1, 21, 500, 501, MIN, MAX}) {
            due("end " + n, x.end(n), NONE);
        }
        due("all of it still", x.end(20), 20);
        due("8", x.end(8), 8);
        due("9 no longer", x.end(9), NONE);
        due("7", x.end(7), 7);
        due("a line that breaks off", x.rules(), NONE);
        due("at its end", x.fault(1), 7);
        x.feed(0x7A7A7A7A, BLANKS, BLANKS, BLANKS, BLANKS);
        due("0 of 20", x.end(0), 0);
        due("nothing is on it", x.rules(), 0);
    }

    /** The same: what comes then comes behind the n-th byte. */
    private static void tapeGoesOnBehindTheEnd() {
        HerdBooks x = new HerdBooks();
        x.feed(0x7765656B, 0x73203939, 0x39393939, 0x39393939, 0x39393939);
        x.end(7);
        due("behind 7", x.feed(0x3B202020, BLANKS, BLANKS, BLANKS, BLANKS), 27);
        due("weeks 9;", x.rules(), 1);
        x.cell(false);
        x.camp(0, 0);
        x.book(0, 0, 0, 1, 1);
        due("weeks", x.rule(0, 0, 0, 1), 9);
    }

    /** Texts of 500 bytes, with the FAULT of the end at 500. */
    private static void fullTapes() {
        String blanks = " ".repeat(496);
        good(blanks + "bar;", 1);
        good("bar;" + blanks, 1);
        good(blanks + " \n \n", 0);
        bad(blanks + "bar ", 1, 500);
        bad(blanks + " bar", 1, 500);
        bad(blanks + "   ;", 1, 499);
        bad(blanks + "barx", 1, 496);
        bad("bar;".repeat(125), 3, 64);
        good("if dry and dry and dry and dry:bar;".repeat(14) + " ".repeat(10), 14);
        bad("x".repeat(500), 1, 0);
        bad("9".repeat(500), 1, 0);
        bad("if dry" + " and dry".repeat(61) + " a:bar", 1, 495);
        bad("if dry" + " and dry".repeat(60) + ":bar;" + "bar;bar;;", 1, 499);
        bad("if dry" + " and dry".repeat(60) + ":bar;" + "bar;bar; ", 3, 35);
    }

    /** "blanks (10, 32)", and of all other bytes none is a text. */
    private static void anyByteAlone() {
        for (int b = 0; b < 256; b++) {
            if (b == 10 || b == 32) {
                good("" + (char) b, 0);
            } else {
                bad("" + (char) b, 1, 0);
            }
        }
    }

    private static boolean isLetter(int b) {
        return b >= 97 && b <= 122;
    }

    private static boolean isDigit(int b) {
        return b >= 48 && b <= 57;
    }

    /** "WORDS, rows of letters a .. z", with any byte behind one. */
    private static void anyByteBehindAWord() {
        for (int b = 0; b < 256; b++) {
            String text = "bar" + (char) b + ";";
            if (b == 10 || b == 32) {
                good(text, 1);
            } else if (b == ';') {
                bad(text, 1, 4);
            } else {
                bad(text, 1, isLetter(b) ? 0 : 3);
            }
        }
    }

    /** "NUMBERS, 1 to 4 digits", with any byte behind one. */
    private static void anyByteBehindANumber() {
        for (int b = 0; b < 256; b++) {
            String text = "weeks 4" + (char) b + ";";
            if (b == 10 || b == 32 || isDigit(b)) {
                good(text, 1);
            } else {
                bad(text, 1, b == ';' ? 8 : 7);
            }
        }
    }

    /** "signs : ; < > = one byte each", with any byte for one. */
    private static void anyByteForASign() {
        for (int b = 0; b < 256; b++) {
            String text = "if held" + (char) b + "3:bar;";
            if (b == '<' || b == '>' || b == '=') {
                good(text, 1);
            } else if (b == 10 || b == 32) {
                bad(text, 1, 8);
            } else {
                bad(text, 1, isLetter(b) ? 3 : 7);
            }
        }
        bad("if held<=3:bar;", 1, 8);
        bad("if held==3:bar;", 1, 8);
        bad("bar;;", 1, 4);
        bad("if dry::bar;", 1, 7);
    }

    /** "TOKENS, as long as they go": a letter more or less is another WORD. */
    private static void wordsAsLongAsTheyGo() {
        for (String word : new String[] {"tongue", "dry", "well"}) {
            good("if " + word + ":bar;", 1);
            bad("if " + word + "a:bar;", 1, 3);
            bad("if " + word.substring(0, word.length() - 1) + ":bar;", 1, 3);
            bad("if z" + word.substring(1) + ":bar;", 1, 3);
        }
        for (String word : new String[] {"held", "late", "kind", "level", "left", "torn", "week"}) {
            good("if " + word + "<1:bar;", 1);
            bad("if " + word + "s<1:bar;", 1, 3);
            bad("if " + word.substring(0, word.length() - 1) + "<1:bar;", 1, 3);
            bad("if z" + word.substring(1) + "<1:bar;", 1, 3);
            bad("if " + word.substring(0, word.length() - 1) + "z<1:bar;", 1, 3);
        }
        for (String word : new String[] {"weeks", "cost"}) {
            good(word + " 1;", 1);
            bad(word + "z 1;", 1, 0);
            bad(word.substring(0, word.length() - 1) + " 1;", 1, 0);
        }
        good("if not dry and not well:bar;", 1);
        bad("if nots dry:bar;", 1, 3);
        bad("if no dry:bar;", 1, 3);
        bad("if dry ands well:bar;", 1, 7);
        bad("if dry an well:bar;", 1, 7);
        bad("iff dry:bar;", 1, 0);
        bad("i dry:bar;", 1, 0);
        bad("bars;", 1, 0);
        bad("ba;", 1, 0);
    }

    /** "blanks (10, 32) between": where two TOKENS can be told apart without, none is needed. */
    private static void wordsNeedNoBlanks() {
        good("if held<3and late>2and not dry:weeks4;cost0;bar;", 3);
        good("\n if\nheld\n<\n3\nand\nnot\ndry\n:\nweeks\n4\n;\n", 1);
        bad("ifdry:bar;", 1, 0);
        bad("if notdry:bar;", 1, 3);
        bad("if dryand dry:bar;", 1, 3);
        bad("if dry anddry:bar;", 1, 7);
        bad("we eks 4;", 1, 0);
        bad("weeks 4 4;", 1, 8);
    }

    /** "NUMBERS, 1 to 4 digits". */
    private static void numbersOfOneToFourDigits() {
        for (String number : new String[] {"0", "9", "10", "99", "100", "999", "1000", "9999", "0000", "0001"}) {
            good("cost " + number + ";", 1);
            good("if left=" + number + ":bar;", 1);
        }
        for (String number : new String[] {"10000", "00000", "00001", "99999", "2147483648", "4294967297"}) {
            bad("cost " + number + ";", 1, 5);
            bad("weeks " + number + ";", 1, 6);
            bad("if left=" + number + ":bar;", 1, 8);
        }
    }

    /** "(a longer row of digits is no token)", wherever it stands. */
    private static void longRowsOfDigits() {
        bad("12345", 1, 0);
        bad(" 12345;", 1, 1);
        bad("bar 12345;", 1, 4);
        bad("bar;12345", 1, 4);
        bad("if 12345:bar;", 1, 3);
        bad("if held 12345:bar;", 1, 8);
        bad("cost 1234 5;", 1, 10);
        bad("weeks 0;cost 12345;", 1, 13);
        // Be their numbers those of signs: 58 to 62 are : ; < = >
        bad("bar 00059", 1, 4);
        bad("bar00059", 1, 3);
        bad("if dry 00058 bar;", 1, 7);
        bad("if held 00060 3:bar;", 1, 8);
        bad("if held 00061 3:bar;", 1, 8);
        bad("if held 00062 3:bar;", 1, 8);
    }

    private static void cuts(String text, int... places) {
        for (int n = 1; n < text.length(); n++) {
            bad(text.substring(0, n), 1, places[n]);
        }
        good("", 0);
        good(text, 1);
    }

    /** "places (a token's first byte; the end's)": a text that breaks off behind each of its bytes. */
    private static void textsCutShort() {
        cuts("if not dry:bar;", 0, 0, 2, 3, 3, 3, 6, 7, 7, 7, 10, 11, 11, 11, 14);
        cuts("if held<12 and week>3:cost 45;", 0, 0, 2, 3, 3, 3, 3, 7, 8, 9, 10, 11, 11, 11, 14, 15, 15, 15, 15, 19, 20,
            21, 22, 22, 22, 22, 26, 27, 28, 29);
        cuts("weeks 7 ;", 0, 0, 0, 0, 0, 5, 6, 7, 8);
    }

    /** "LINE: ['if' ..] ('bar' | ('weeks' | 'cost') NUMBER) ';'". */
    private static void deedsAlone() {
        good("bar;", 1);
        good("weeks 7;", 1);
        good("cost 7;", 1);
        bad("bar 7;", 1, 4);
        bad("weeks;", 1, 5);
        bad("cost;", 1, 4);
        bad("weeks bar;", 1, 6);
        bad("weeks<7;", 1, 5);
        bad("bar bar;", 1, 4);
        bad(";", 1, 0);
        bad(":bar;", 1, 0);
        bad("if dry:;", 1, 7);
        bad("if dry:if dry:bar;", 1, 7);
        bad("and dry:bar;", 1, 0);
        bad("not dry:bar;", 1, 0);
        bad("dry:bar;", 1, 0);
        bad("7;", 1, 0);
    }

    /** "TEST: ['not'] ((..) | (..) ('<' | '>' | '=') NUMBER)". */
    private static void testsOfBothKinds() {
        bad("if:bar;", 1, 2);
        bad("if not:bar;", 1, 6);
        bad("if not not dry:bar;", 1, 7);
        bad("if dry<1:bar;", 1, 6);
        bad("if well 1:bar;", 1, 8);
        bad("if tongue dry:bar;", 1, 10);
        bad("if held:bar;", 1, 7);
        bad("if not held:bar;", 1, 11);
        bad("if held and dry:bar;", 1, 8);
        bad("if held< :bar;", 1, 9);
        bad("if held<kind:bar;", 1, 8);
        bad("if 3<held:bar;", 1, 3);
        bad("if held 3:bar;", 1, 8);
        bad("if held;3:bar;", 1, 7);
        bad("if dry and:bar;", 1, 10);
        bad("if dry and and dry:bar;", 1, 11);
        bad("if and dry:bar;", 1, 3);
        bad("if dry,well:bar;", 1, 6);
        bad("if dry bar;", 1, 7);
        bad("if dry if dry:bar;", 1, 7);
        bad("if bar:bar;", 1, 3);
    }

    /** "2 a NUMBER behind weeks that is 0 or above 99", of weeks alone. */
    private static void badWeeks() {
        good("weeks 1;", 1);
        good("weeks 99;", 1);
        good("weeks 0001;weeks 0099;weeks 01;", 3);
        for (String number : new String[] {"0", "00", "000", "0000", "100", "0100", "101", "999", "9999"}) {
            bad("weeks " + number + ";", 2, 6);
            bad("bar;if dry:weeks   " + number + " ;", 2, 19);
            good("cost " + number + ";", 1);
            good("if week=" + number + ":bar;", 1);
        }
        bad("weeks 99;weeks 100;weeks 0;", 2, 15);
    }

    /** "3 one too many, at its first token: a 17th LINE". */
    private static void seventeenLines() {
        good(SIXTEEN, 16);
        good(SIXTEEN + " \n ", 16);
        bad(SIXTEEN + "bar;", 3, 64);
        bad(SIXTEEN + "\n\ncost 0;", 3, 66);
        bad(SIXTEEN + " if not dry:weeks 5;", 3, 65);
        bad(SIXTEEN + "bar;bar;bar;", 3, 64);
        good("weeks 9;if dry:bar;cost 1;" + SIXTEEN.substring(12), 16);
        bad("weeks 9;if dry:bar;cost 1;" + SIXTEEN.substring(8), 3, 78);
    }

    /** "3 one too many, at its first token: .. a 5th TEST of a LINE". */
    private static void fiveTests() {
        good("if dry and dry and dry and dry:bar;", 1);
        good("if not held<1 and not held>1 and not held=1 and not dry:bar;if dry and dry and dry and dry:bar;", 2);
        bad("if dry and dry and dry and dry and dry:bar;", 3, 35);
        bad("if dry and dry and dry and dry and\n not dry:bar;", 3, 36);
        bad("if dry and dry and dry and dry and held < 3:bar;", 3, 35);
        bad("if dry and dry and dry and dry and dry and dry and dry:bar;", 3, 35);
        bad("if dry and dry and dry and dry:bar;if dry and dry and dry and dry and dry:bar;", 3, 70);
        // Not 5 TESTS of one LINE, but 5 in all.
        good("if dry and dry:bar;if dry and dry and dry:bar;", 2);
        // The 16th LINE may be, its 5th TEST may not.
        bad(SIXTEEN.substring(4) + "if dry and dry and dry and dry and dry:bar;", 3, 95);
        good(SIXTEEN.substring(4) + "if dry and dry and dry and dry:bar;", 16);
    }

    /** "If there is none, the first of: 2 .. 3 ..": by their places. */
    private static void firstOfFaults() {
        bad("weeks 0;" + SIXTEEN, 2, 6);
        bad(SIXTEEN + "weeks 0;", 3, 64);
        bad(SIXTEEN.substring(4) + "weeks 100;bar;", 2, 66);
        bad("if dry and dry and dry and dry and dry:weeks 0;", 3, 35);
        bad("weeks 0;if dry and dry and dry and dry and dry:bar;", 2, 6);
        bad("if dry and dry and dry and dry and dry:bar;" + SIXTEEN, 3, 35);
        bad(SIXTEEN + "if dry and dry and dry and dry and dry:bar;", 3, 64);
    }

    /** "1 the first byte or token with which no text goes on": ahead of 2 and 3, wherever it stands. */
    private static void noTextComesFirst() {
        bad("weeks 0;weeks 100;?", 1, 18);
        bad("weeks 0", 1, 7);
        bad("weeks 0 0;", 1, 8);
        bad(SIXTEEN + "bar", 1, 67);
        bad(SIXTEEN + "x", 1, 64);
        bad(SIXTEEN + "bar;x", 1, 68);
        bad("if dry and dry and dry and dry and x:bar;", 1, 35);
        bad("if dry and dry and dry and dry and", 1, 34);
        bad("if dry and dry and dry and dry and dry", 1, 38);
        bad("if dry and dry and dry and dry and dry:bar", 1, 42);
        bad("x y", 1, 0);
        bad("bar;x;y;", 1, 4);
    }

    /** "The tape is taken (and is empty then), as RULES from now on": with a FAULT it is taken, too. */
    private static void tapeIsTaken() {
        HerdBooks x = new HerdBooks();
        due("two lines", Check.rules(x, "bar;bar;"), 2);
        due("the tape is empty", x.end(1), NONE);
        due("lines", x.count(8), 2);
        due("a fault", Check.rules(x, "bar;ba"), NONE);
        due("the tape is empty", x.end(1), NONE);
        due("lines as they were", x.count(8), 2);
        due("the next comes from 0 on", x.feed(BLANKS, BLANKS, BLANKS, BLANKS, 0x6261723B), 20);
        due("one line", x.rules(), 1);
        due("lines from now on", x.count(8), 1);
        due("an empty tape: no lines", x.rules(), 0);
        due("lines no more", x.count(8), 0);
        for (int i = 0; i < 25; i++) {
            x.feed(BLANKS, BLANKS, BLANKS, BLANKS, BLANKS);
        }
        due("a full tape", x.feed(0, 0, 0, 0, 0), NONE);
        due("is taken", x.rules(), 0);
        due("and has room again", x.feed(BLANKS, BLANKS, BLANKS, BLANKS, BLANKS), 20);
    }

    /** "Of the latest rules(), what 0: the FAULT, 0 without, 1: its place, NONE without. NONE for another what." */
    private static void faultOfTheLatest() {
        HerdBooks x = new HerdBooks();
        due("none yet", x.fault(0), 0);
        due("no place yet", x.fault(1), NONE);
        Check.rules(x, "bar");
        due("fault 1", x.fault(0), 1);
        due("place 3", x.fault(1), 3);
        Check.rules(x, "weeks 0;");
        due("fault 2", x.fault(0), 2);
        due("place 6", x.fault(1), 6);
        Check.rules(x, SIXTEEN + "bar;");
        due("fault 3", x.fault(0), 3);
        due("place 64", x.fault(1), 64);
        Check.rules(x, "?");
        due("fault 1 again", x.fault(0), 1);
        due("place 0", x.fault(1), 0);
        x.feed(BLANKS, BLANKS, BLANKS, BLANKS, BLANKS);
        due("the tape has no say in it", x.fault(0), 1);
        for (int what : new int[] {-1, 2, 3, MIN, MAX}) {
            due("what " + what, x.fault(what), NONE);
        }
        x.rules();
        due("none", x.fault(0), 0);
        due("no place", x.fault(1), NONE);
        due("another what", x.fault(2), NONE);
    }

    /** CELLS 0 and 1 (with a WELL) and a WAY, CAMPS of TONGUES 0 and 1 in them, two BOOKS of TONGUE 0. */
    private static HerdBooks library() {
        HerdBooks x = new HerdBooks();
        x.cell(false);
        x.cell(true);
        x.way(0, 1, 1);
        x.camp(0, 0);
        x.camp(1, 1);
        x.book(3, 0, 5, 100, 10);
        x.book(4, 0, 6, 50, 10);
        return x;
    }

    /** rule(): "-2: there is none such (of any; the WEEK ahead of the CAMP's first one, too)." */
    private static void ruleOfNoneSuch() {
        HerdBooks x = library();
        x.week(6);
        x.camp(0, 0);
        for (int what = 0; what < 3; what++) {
            for (int n : new int[] {-1, 3, MIN, MAX}) {
                due("camp " + n, x.rule(n, 0, 6, what), NO_SUCH);
            }
            for (int n : new int[] {-1, 2, MIN, MAX}) {
                due("book " + n, x.rule(0, n, 6, what), NO_SUCH);
            }
            for (int n : new int[] {-1, 100, MIN, MAX}) {
                due("week " + n, x.rule(0, 0, n, what), NO_SUCH);
            }
            due("ahead of its first week", x.rule(2, 0, 5, what), NO_SUCH);
        }
        for (int n : new int[] {-1, 3, MIN, MAX}) {
            due("what " + n, x.rule(0, 0, 6, n), NO_SUCH);
        }
        due("in its first week", x.rule(2, 0, 6, 1), 4);
        due("in the last week", x.rule(2, 1, 99, 1), 4);
        due("in week 0", x.rule(0, 1, 0, 1), 4);
    }

    /** "it MAY borrow it if no LINE bar holds"; "(4 without)"; "(0 without)". */
    private static void rulesWithoutLines() {
        HerdBooks x = library();
        due("may", x.rule(0, 0, 0, 0), NONE);
        due("weeks", x.rule(0, 0, 0, 1), 4);
        due("cost", x.rule(0, 0, 0, 2), 0);
        Check.rules(x, "if kind = 0: bar; if kind = 0: weeks 9; if kind = 0: cost 9;");
        due("may, none holds", x.rule(0, 0, 0, 0), NONE);
        due("weeks, none holds", x.rule(0, 0, 0, 1), 4);
        due("cost, none holds", x.rule(0, 0, 0, 2), 0);
        Check.rules(x, "bar;");
        due("barred", x.rule(0, 0, 0, 0), 0);
        due("weeks by no line", x.rule(0, 0, 0, 1), 4);
        due("cost by no line", x.rule(0, 0, 0, 2), 0);
        due("not to be lent", x.lend(0, 0), NONE);
        Check.rules(x, "weeks 99; cost 9999;");
        due("may", x.rule(0, 0, 0, 0), NONE);
        due("weeks", x.rule(0, 0, 0, 1), 99);
        due("cost", x.rule(0, 0, 0, 2), 9999);
        Check.rules(x, "weeks 1; cost 0; cost 5; weeks 5;");
        due("the first", x.rule(0, 0, 0, 1), 1);
        due("the first, be it 0", x.rule(0, 0, 0, 2), 0);
    }

    /** "the first LINE bar that holds": its number among all LINES, from 0 to 15. */
    private static void linesByTheirNumbers() {
        HerdBooks x = library();
        Check.rules(x, "if kind=3:bar;weeks 2;cost 3;if kind=4:bar;bar;");
        due("line 0", x.rule(0, 0, 0, 0), 0);
        due("line 3", x.rule(0, 1, 0, 0), 3);
        Check.rules(x, "cost 1;".repeat(15) + "bar;");
        due("line 15", x.rule(0, 0, 0, 0), 15);
        Check.rules(x, "bar;".repeat(15) + "weeks 33;");
        due("weeks by line 15", x.rule(0, 0, 0, 1), 33);
        due("line 0 again", x.rule(0, 0, 0, 0), 0);
        Check.rules(x, "bar;".repeat(15) + "cost 44;");
        due("cost by line 15", x.rule(0, 0, 0, 2), 44);
    }

    private static boolean holds(HerdBooks x, int camp, int book, int week, String tests) {
        Check.rules(x, "if " + tests + ":bar;");
        return x.rule(camp, book, week, 0) == 0;
    }

    /** "a LINE .. holds (all its TESTS do)": be it the first or the 4th that does not. */
    private static void allTestsMustHold() {
        HerdBooks x = library();
        CHECK.yes("four hold", holds(x, 0, 0, 0, "tongue and kind=3 and level=5 and left=100"));
        CHECK.no("not the first", holds(x, 0, 0, 0, "not tongue and kind=3 and level=5 and left=100"));
        CHECK.no("not the second", holds(x, 0, 0, 0, "tongue and kind=4 and level=5 and left=100"));
        CHECK.no("not the third", holds(x, 0, 0, 0, "tongue and kind=3 and level<5 and left=100"));
        CHECK.no("not the 4th", holds(x, 0, 0, 0, "tongue and kind=3 and level=5 and left>100"));
        CHECK.yes("four nots", holds(x, 0, 0, 0, "not dry and not well and not kind=4 and not left<100"));
        CHECK.no("one not fails", holds(x, 0, 0, 0, "not dry and not well and not kind=4 and not left>99"));
    }

    /** A fact that is value, held against value and its neighbours by each sign, with 'not' and without. */
    private static void fact(HerdBooks x, int[] of, String word, int value) {
        String call = word + " is " + value;
        for (int n = Math.max(0, value - 1); n <= value + 1; n++) {
            CHECK.due(call + " < " + n, holds(x, of[0], of[1], of[2], word + "<" + n) ? 1 : 0, value < n ? 1 : 0);
            CHECK.due(call + " > " + n, holds(x, of[0], of[1], of[2], word + ">" + n) ? 1 : 0, value > n ? 1 : 0);
            CHECK.due(call + " = " + n, holds(x, of[0], of[1], of[2], word + "=" + n) ? 1 : 0, value == n ? 1 : 0);
            CHECK.due(call + " not = " + n, holds(x, of[0], of[1], of[2], "not " + word + "=" + n) ? 1 : 0,
                value == n ? 0 : 1);
        }
        CHECK.yes(call + " < 9999", holds(x, of[0], of[1], of[2], word + "<9999"));
        CHECK.no(call + " > 9999", holds(x, of[0], of[1], of[2], word + ">9999"));
    }

    /** "('<' | '>' | '=') NUMBER", of the least and the greatest facts. */
    private static void numbersAgainstFacts() {
        HerdBooks x = library();
        int[] first = {0, 0, 0};
        fact(x, first, "held", 0);
        fact(x, first, "late", 0);
        fact(x, first, "torn", 0);
        fact(x, first, "week", 0);
        fact(x, new int[] {0, 0, 99}, "week", 99);
        x = library();
        x.book(0, 0, 0, 1, 1);
        x.book(7, 0, 9, 400, 1);
        fact(x, new int[] {0, 2, 0}, "kind", 0);
        fact(x, new int[] {0, 2, 0}, "level", 0);
        fact(x, new int[] {0, 2, 0}, "left", 1);
        x = library();
        x.book(0, 0, 0, 1, 1);
        x.book(7, 0, 9, 400, 1);
        fact(x, new int[] {0, 3, 0}, "kind", 7);
        fact(x, new int[] {0, 3, 0}, "level", 9);
        fact(x, new int[] {0, 3, 0}, "left", 400);
        x = library();
        x.lend(0, 0);
        x.lend(1, 0);
        x.week(5);
        x.tear(0, 100, 5);
        x.tear(1, 20, 5);
        int[] later = {0, 0, 5};
        fact(x, later, "held", 2);
        fact(x, later, "late", 2);
        fact(x, later, "torn", 120);
        fact(x, later, "left", 0);
    }

    /** "well: its LIKELIEST CELL has one": of several the least. */
    private static void wellByLikeliest() {
        HerdBooks x = library();
        CHECK.no("in 0", holds(x, 0, 0, 0, "well"));
        CHECK.yes("in 1", holds(x, 1, 0, 0, "well"));
        // Half of each in WEEK 1: CELL 0 is the least, and has no WELL.
        CHECK.no("as likely in 0", holds(x, 1, 0, 1, "well"));
        x.grass(1, 1, 2);
        CHECK.yes("likelier in 1", holds(x, 1, 0, 1, "well"));
        CHECK.yes("the other one, too", holds(x, 0, 0, 1, "well"));
        CHECK.yes("in week 99", holds(x, 0, 0, 99, "well"));
    }

    /** "(not ahead of its first WEEK)": a WEEK of which only COST can ask. */
    private static void wellAheadOfItsFirstWeek() {
        HerdBooks x = library();
        x.lend(0, 0);
        x.week(4);
        due("a camp at a well", x.camp(1, 0), 2);
        x.pass(0, 2, 2);
        Check.rules(x, "if well: cost 7; if not well: cost 8;");
        x.tear(0, 1, 3);
        due("ahead of it", x.act(2, 6), 8);
        x.tear(0, 1, 4);
        due("in it", x.act(3, 6), 7);
        due("asked by rule()", x.rule(2, 0, 3, 2), NO_SUCH);
        due("asked for its first week", x.rule(2, 0, 4, 2), 7);
    }

    /** "left: pages it has left by ACTS up to that WEEK; torn: pages TORN of any BOOK by the CAMP up to that WEEK". */
    private static void factsUpToTheWeek() {
        HerdBooks x = library();
        x.lend(0, 0);
        x.lend(1, 0);
        x.week(8);
        x.tear(0, 30, 6);
        x.tear(1, 4, 7);
        x.pass(1, 1, 7);
        x.tear(1, 1, 8);
        x.back(0);
        CHECK.yes("in 5", holds(x, 0, 0, 5, "held=2 and late=2 and torn=0 and left=100"));
        CHECK.yes("in 4", holds(x, 0, 0, 4, "held=2 and late=0 and torn=0 and left=100"));
        CHECK.yes("in 6", holds(x, 0, 0, 6, "held=2 and late=2 and torn=30 and left=70"));
        CHECK.yes("in 7", holds(x, 0, 0, 7, "held=1 and late=1 and torn=34 and left=70"));
        CHECK.yes("in 8", holds(x, 0, 0, 8, "held=0 and late=0 and torn=34 and left=70"));
        CHECK.yes("the other book in 6", holds(x, 0, 1, 6, "left=50"));
        CHECK.yes("the other book in 7", holds(x, 0, 1, 7, "left=46"));
        CHECK.yes("the other book in 8", holds(x, 0, 1, 8, "left=45"));
        CHECK.yes("the other camp in 6", holds(x, 1, 0, 6, "held=0 and late=0 and torn=0"));
        CHECK.yes("the other camp in 7", holds(x, 1, 0, 7, "held=1 and late=1 and torn=0"));
        CHECK.yes("the other camp in 8", holds(x, 1, 0, 8, "held=1 and late=1 and torn=1"));
    }

    /** "asked by GRASS, NEWS and ACTS told by the end of that WEEK": rule() too, to the WEEK. */
    private static void factsByTheView() {
        HerdBooks x = library();
        x.lend(0, 0);
        x.week(6);
        x.tear(0, 9, 5);
        x.news(0, 1, 5, true);
        x.week(7);
        x.back(0);
        x.grass(1, 1, 0);
        x.view(6);
        CHECK.yes("by 6", holds(x, 0, 0, 5, "torn=9 and left=91 and well and held=1"));
        CHECK.yes("held and late by 6", holds(x, 0, 0, 7, "held=1 and late=1"));
        x.view(5);
        CHECK.yes("by 5", holds(x, 0, 0, 5, "torn=0 and left=100 and not well and held=1"));
        x.view(7);
        CHECK.yes("by 7", holds(x, 0, 0, 7, "torn=9 and left=91 and held=0 and late=0"));
        // Without GRASS in CELL 1 no PART was there: SEEN there is A QUARREL.
        CHECK.yes("no well by 7", holds(x, 0, 0, 5, "not well"));
    }
}
