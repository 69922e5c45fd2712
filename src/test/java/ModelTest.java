import java.util.Random;

/** Runs of chance, the same each time, on HerdBooks and on Model: every answer must be the same. */
public final class ModelTest {
    private static final int RUNS = 400;
    private static final int CALLS = 512;
    private static final String[] WORDS = {"if", "and", "not", "tongue", "dry", "well", "held", "late", "kind", "level",
        "left", "torn", "week", "bar", "weeks", "cost", "<", ">", "=", ":", ";", "0", "1", "3", "99", "100", "12345",
        "wee", "!", "\n", "  "};

    private final Random chance;
    private final HerdBooks real = new HerdBooks();
    private final Model model = new Model();
    private final Check check;
    private int calls = 0;
    private String told = "";
    private final int maxBooks;
    private final int maxCells;
    private final boolean calm;

    private ModelTest(int run, Check check) {
        chance = new Random(run);
        this.check = check;
        maxBooks = run % 20 == 0 ? 24 : 4 + run % 9;
        maxCells = run % 20 == 0 ? 10 : 2 + run % 6;
        calm = run % 3 != 0;
    }

    public static void main(String[] args) {
        Check check = new Check("ModelTest");
        for (int run = 0; run < RUNS; run++) {
            new ModelTest(run, check).run(run);
        }
        check.close();
    }

    private void run(int run) {
        for (int i = 0; i < 3; i++) {
            tellLand();
            tellLand();
            same("book", real.book(i, i % 2, i, 20, 100 + i), model.book(i, i % 2, i, 20, 100 + i));
        }
        while (calls < CALLS) {
            int kind = chance.nextInt(calm && calls < 200 ? 60 : 100);
            if (kind < 12) {
                tellLand();
            } else if (kind < 25) {
                tellNews();
            } else if (kind < 55) {
                tellActs();
            } else if (kind < 60) {
                tellRules();
            } else if (kind < 64) {
                tellReaders();
            } else if (kind < 66) {
                tellImages();
            } else {
                ask();
            }
        }
    }

    private void same(String call, int got, int want) {
        calls++;
        // A text's calls may lead beyond the 512th, and what is answered there is free.
        if (calls <= CALLS) {
            check.due("run with " + call + " as call " + calls, got, want);
        }
    }

    private void same(String call, boolean got, boolean want) {
        same(call, got ? 1 : 0, want ? 1 : 0);
    }

    /** Mostly 0 .. n - 1; now and then a little or far beside it. */
    private int upTo(int n) {
        int dice = chance.nextInt(40);
        if (dice == 0) {
            return -1 - chance.nextInt(2);
        }
        if (dice == 1) {
            return n + chance.nextInt(2);
        }
        if (dice == 2 && chance.nextInt(5) == 0) {
            return chance.nextInt();
        }
        return n < 1 ? 0 : chance.nextInt(n);
    }

    private int now() {
        return model.count(6);
    }

    private int pastWeek() {
        return chance.nextInt(4) == 0 ? upTo(now() + 1) : now() - chance.nextInt(4);
    }

    private int someWeek() {
        return chance.nextInt(6) == 0 ? upTo(100) : upTo(Math.min(100, now() + 9));
    }

    private int someCell() {
        return upTo(model.count(0));
    }

    private int someCamp() {
        return upTo(model.count(1));
    }

    private int someBook() {
        return upTo(model.count(2));
    }

    private void tellLand() {
        int a = someCell();
        int b = someCell();
        int n = upTo(10);
        int w = someWeek();
        boolean is = chance.nextBoolean();
        switch (chance.nextInt(6)) {
            case 0:
                if (model.count(0) < maxCells || chance.nextInt(30) == 0 && maxCells == 10) {
                    same("cell", real.cell(is), model.cell(is));
                }
                break;
            case 1: same("way", real.way(a, b, n), model.way(a, b, n)); break;
            case 2:
                if (chance.nextInt(3) == 0) {
                    same("camp", real.camp(a, n % 3), model.camp(a, n % 3));
                }
                break;
            case 3:
                int grass = chance.nextInt(3) == 0 ? 0 : upTo(100);
                same("grass", real.grass(a, w, grass), model.grass(a, w, grass));
                break;
            case 4: same("dry", real.dry(w, is), model.dry(w, is)); break;
            default:
                int next = now() + chance.nextInt(calm ? 3 : 6) - 1;
                same("week", real.week(next), model.week(next));
                break;
        }
    }

    private void tellNews() {
        int camp = someCamp();
        int cell = someCell();
        int w = pastWeek();
        boolean seen = chance.nextInt(3) == 0;
        if (chance.nextInt(3) == 0) {
            same("news", real.news(camp, cell, w, seen), model.news(camp, cell, w, seen));
        } else if (chance.nextInt(4) == 0) {
            int view = chance.nextInt(2) == 0 ? -1 : upTo(now() + 1);
            same("view", real.view(view), model.view(view));
        } else {
            int k = upTo(4);
            same("quarrel", real.quarrel(camp, k), model.quarrel(camp, k));
            same("parts", real.parts(camp, cell, w), model.parts(camp, cell, w));
        }
    }

    private void tellActs() {
        int book = someBook();
        int camp = someCamp();
        int w = pastWeek();
        int pages = upTo(9);
        int act = chance.nextInt(11);
        if (act < 3) {
            same("lend", real.lend(book, camp), model.lend(book, camp));
        } else if (act < 6) {
            same("pass", real.pass(book, camp, w), model.pass(book, camp, w));
        } else if (act < 7) {
            same("back", real.back(book), model.back(book));
        } else if (act < 10) {
            same("tear", real.tear(book, pages, w), model.tear(book, pages, w));
        } else if (model.count(2) < maxBooks) {
            int kind = upTo(8);
            int tongue = upTo(2);
            int level = upTo(10);
            int sheets = 1 + upTo(30);
            int grams = 50 * (1 + upTo(12));
            same("book", real.book(kind, tongue, level, sheets, grams), model.book(kind, tongue, level, sheets, grams));
        }
        int last = model.count(4) - 1;
        int what = upTo(7);
        same("act", real.act(last, what), model.act(last, what));
    }

    private String someTest() {
        String not = chance.nextInt(3) == 0 ? "not " : "";
        int fact = 3 + chance.nextInt(10);
        if (fact < 6) {
            return not + WORDS[fact];
        }
        return not + WORDS[fact] + WORDS[16 + chance.nextInt(3)] + chance.nextInt(7);
    }

    private String someLine() {
        StringBuilder line = new StringBuilder();
        if (chance.nextInt(4) != 0) {
            line.append("if ").append(someTest());
            int more = chance.nextInt(12) == 0 ? 4 : chance.nextInt(3);
            for (int i = 0; i < more; i++) {
                line.append(" and ").append(someTest());
            }
            line.append(":");
            line.append(chance.nextInt(3) == 0 ? "bar" : "cost " + chance.nextInt(9));
        } else {
            line.append("weeks ").append(chance.nextInt(40) == 0 ? 100 * chance.nextInt(2) : 1 + chance.nextInt(9));
        }
        return line.append(chance.nextBoolean() ? ";" : " ;\n").toString();
    }

    private String someText() {
        StringBuilder text = new StringBuilder();
        int lines = chance.nextInt(8) == 0 ? 14 + chance.nextInt(5) : chance.nextInt(7);
        for (int i = 0; i < lines; i++) {
            text.append(lines > 9 && chance.nextBoolean() ? "bar;" : someLine());
        }
        if (chance.nextInt(4) == 0) {
            int at = chance.nextInt(text.length() + 1);
            text.insert(at, WORDS[chance.nextInt(WORDS.length)]);
        }
        if (chance.nextInt(8) == 0 && text.length() > 0) {
            text.deleteCharAt(chance.nextInt(text.length()));
        }
        if (chance.nextInt(12) == 0) {
            text.setLength(chance.nextInt(text.length() + 1));
        }
        return text.toString();
    }

    private void tellRules() {
        if (chance.nextInt(12) == 0) {
            int n = upTo(30);
            same("feed", real.feed(n, n, n, n, n), model.feed(n, n, n, n, n));
            same("end", real.end(n), model.end(n));
            return;
        }
        int had = chance.nextInt(6) == 0 ? -1 : 0;
        if (had == 0) {
            same("end", real.end(0), model.end(0));
            told = someText();
            for (int i = 0; i < told.length(); i += 20) {
                int[] five = new int[5];
                for (int k = 0; k < 20; k++) {
                    five[k / 4] = five[k / 4] << 8 | (i + k < told.length() ? told.charAt(i + k) : ' ');
                }
                same("feed", real.feed(five[0], five[1], five[2], five[3], five[4]), model.feed(five));
            }
            same("end", real.end(told.length()), model.end(told.length()));
        }
        same("rules of " + told.replace('\n', '~'), real.rules(), model.rules());
        same("fault 0 of " + told.replace('\n', '~'), real.fault(0), model.fault(0));
        same("fault 1 of " + told.replace('\n', '~'), real.fault(1), model.fault(1));
    }

    private void tellReaders() {
        int camp = someCamp();
        int reader = upTo(model.count(5));
        int book = someBook();
        int kind = upTo(8);
        int wish = upTo(100);
        switch (chance.nextInt(4)) {
            case 0: same("reader", real.reader(camp), model.reader(camp)); break;
            case 1: same("wish", real.wish(camp, kind, wish), model.wish(camp, kind, wish)); break;
            default: same("read", real.read(reader, book), model.read(reader, book)); break;
        }
    }

    private void tellImages() {
        int k = upTo(3);
        if (chance.nextInt(3) == 0) {
            same("again", real.again(k), model.again(k));
        } else {
            same("image", real.image(k), model.image(k));
        }
    }

    private void ask() {
        int camp = someCamp();
        int book = someBook();
        int w = someWeek();
        int what = upTo(4);
        int three = upTo(3);
        switch (chance.nextInt(11)) {
            case 0: same("likeliest", real.likeliest(camp, w), model.likeliest(camp, w)); break;
            case 1: same("who", real.who(book, w), model.who(book, w)); break;
            case 2: same("had", real.had(book, what), model.had(book, what)); break;
            case 3: same("due", real.due(book, w), model.due(book, w)); break;
            case 4: same("owes", real.owes(camp, w, what), model.owes(camp, w, what)); break;
            case 5: same("rule", real.rule(camp, book, w, three), model.rule(camp, book, w, three)); break;
            case 6: askRound(w, what, three); break;
            case 7: askLoad(camp, three); break;
            case 8:
                int reader = upTo(model.count(5));
                same("learns", real.learns(reader, what), model.learns(reader, what));
                break;
            case 9:
                int kind = upTo(8);
                same("giver", real.giver(kind), model.giver(kind));
                int thing = upTo(12);
                same("count", real.count(thing), model.count(thing));
                break;
            default:
                int to = w + chance.nextInt(4) - 1;
                same("house", real.house(w, to, what), model.house(w, to, what));
                break;
        }
    }

    private void askRound(int w, int i, int what) {
        int days = chance.nextInt(5) == 0 ? upTo(61) : 1 + upTo(20);
        if (maxCells == 10) {
            days = Math.min(days, 25);
        }
        same("round", real.round(w, days, what), model.round(w, days, what));
        same("stop", real.stop(w, days, i), model.stop(w, days, i));
    }

    private void askLoad(int camp, int what) {
        if (model.count(2) < 16) {
            int grams = chance.nextInt(4) == 0 ? upTo(20001) : 1 + upTo(2000);
            same("load", real.load(camp, grams, what), model.load(camp, grams, what));
        }
    }
}
