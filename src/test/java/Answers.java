import java.util.ArrayList;
import java.util.List;

/**
 * What an object answers to some 240 calls that ask, and to some that tell on behind these. Two objects of which all
 * is told alike answer alike; an object is of no use behind it.
 */
final class Answers {
    private final List<String> calls = new ArrayList<>();
    private final List<Integer> answers = new ArrayList<>();
    private final HerdBooks x;

    private Answers(HerdBooks x) {
        this.x = x;
    }

    static Answers of(HerdBooks x) {
        Answers a = new Answers(x);
        a.askCounts();
        a.askLand();
        a.askActs();
        a.askLoans();
        a.askRules();
        a.askRounds();
        a.askReaders();
        a.askByEarlierViews();
        a.tellOn();
        return a;
    }

    /** Compares these with those that are due. */
    void same(Check check, String behind, Answers want) {
        for (int i = 0; i < want.calls.size(); i++) {
            check.due(behind + ": " + want.calls.get(i), answers.get(i), want.answers.get(i));
        }
    }

    /** How many of the answers are others than these. */
    int others(Answers other) {
        int found = 0;
        for (int i = 0; i < answers.size(); i++) {
            found += answers.get(i).equals(other.answers.get(i)) ? 0 : 1;
        }
        return found;
    }

    private void put(String call, int answer) {
        calls.add(call);
        answers.add(answer);
    }

    private void put(String call, boolean answer) {
        put(call, answer ? 1 : 0);
    }

    private void askCounts() {
        for (int what = 0; what < 12; what++) {
            put("count(" + what + ")", x.count(what));
        }
        put("fault(0)", x.fault(0));
        put("fault(1)", x.fault(1));
    }

    private void askLand() {
        for (int camp = 0; camp < 3; camp++) {
            for (int week : new int[] {1, 4, 9}) {
                for (int cell = 0; cell < 3; cell++) {
                    put("parts(" + camp + ", " + cell + ", " + week + ")", x.parts(camp, cell, week));
                }
            }
            put("likeliest(" + camp + ", 5)", x.likeliest(camp, 5));
            put("quarrel(" + camp + ", 0)", x.quarrel(camp, 0));
            put("quarrel(" + camp + ", 1)", x.quarrel(camp, 1));
        }
        put("house(0, 99, 0)", x.house(0, 99, 0));
        put("house(0, 99, 1)", x.house(0, 99, 1));
    }

    private void askActs() {
        int acts = x.count(4);
        for (int k = 0; k < 8; k++) {
            // Of a long row the last ones.
            int act = acts > 8 ? acts - 7 + k : k;
            for (int what = 0; what < 7; what++) {
                put("act(" + act + ", " + what + ")", x.act(act, what));
            }
        }
    }

    private void askLoans() {
        for (int book = 0; book < 4; book++) {
            for (int week : new int[] {0, 4, 7}) {
                put("who(" + book + ", " + week + ")", x.who(book, week));
                put("due(" + book + ", " + week + ")", x.due(book, week));
            }
            put("had(" + book + ", 0)", x.had(book, 0));
            put("had(" + book + ", 1)", x.had(book, 1));
        }
        for (int camp = 0; camp < 3; camp++) {
            for (int what = 0; what < 4; what++) {
                put("owes(" + camp + ", 8, " + what + ")", x.owes(camp, 8, what));
            }
        }
    }

    private void askRules() {
        for (int camp = 0; camp < 2; camp++) {
            for (int book = 0; book < 3; book++) {
                for (int what = 0; what < 3; what++) {
                    put("rule(" + camp + ", " + book + ", 6, " + what + ")", x.rule(camp, book, 6, what));
                }
            }
        }
        put("rule(0, 0, 3, 2)", x.rule(0, 0, 3, 2));
    }

    private void askRounds() {
        for (int what = 0; what < 3; what++) {
            put("round(6, 60, " + what + ")", x.round(6, 60, what));
            put("round(6, 9, " + what + ")", x.round(6, 9, what));
            put("stop(6, 60, " + what + ")", x.stop(6, 60, what));
            put("load(0, 20000, " + what + ")", x.load(0, 20000, what));
            put("load(1, 700, " + what + ")", x.load(1, 700, what));
        }
    }

    private void askReaders() {
        for (int reader = 0; reader < 3; reader++) {
            for (int what = 0; what < 4; what++) {
                put("learns(" + reader + ", " + what + ")", x.learns(reader, what));
            }
        }
        for (int kind = 0; kind < 8; kind++) {
            put("giver(" + kind + ")", x.giver(kind));
        }
    }

    /** When things were told. */
    private void askByEarlierViews() {
        for (int view = 0; view < 6; view++) {
            put("view(" + view + ")", x.view(view));
            put("count(10) by " + view, x.count(10));
            put("count(11) by " + view, x.count(11));
            put("parts by " + view, x.parts(0, 1, 9));
        }
        put("view(NONE)", x.view(HerdBooks.NONE));
    }

    /** How much is on the tape and what stands there, which rows have room, and from which numbers on. */
    private void tellOn() {
        put("feed", x.feed(0x20202020, 0x20202020, 0x20202020, 0x20202020, 0x20202020));
        put("rules", x.rules());
        put("its fault", x.fault(0));
        put("its place", x.fault(1));
        put("its lines", x.count(8));
        put("its weeks", x.rule(0, 0, 6, 1));
        put("its cost", x.rule(0, 0, 6, 2));
        put("dry(5)", x.dry(5, true));
        put("cell", x.cell(true));
        put("way", x.way(0, 1, 1));
        put("grass", x.grass(0, 8, 3));
        put("camp", x.camp(0, 0));
        put("news", x.news(0, 0, x.count(6), false));
        put("book", x.book(1, 1, 1, 1, 1));
        put("back", x.back(0));
        put("lend", x.lend(0, 0));
        put("reader", x.reader(0));
        put("read", x.read(0, 3));
        put("wish", x.wish(0, 0, 1));
        put("week", x.week(8));
        put("view", x.view(8));
        Check.rules(x, "if left < 12: cost 1; if left < 37: cost 2; if left < 41: cost 3; if left < 61: cost 4;");
        for (int book = 0; book < 4; book++) {
            put("left of " + book, x.rule(0, book, 8, 2));
        }
    }
}
