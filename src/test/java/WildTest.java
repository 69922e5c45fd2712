import java.util.Random;

/** Calls with any arguments in any state: none throws, and the same calls give the same answers. */
public final class WildTest {
    private static final int RUNS = 600;
    private static final int CALLS = 512;
    private static final int METHODS = 38;
    private static final int[] EDGES = {Integer.MIN_VALUE, Integer.MAX_VALUE, -3, -2, -1, 0, 1, 2, 3, 5, 6, 7, 8, 9, 10,
        11, 12, 23, 24, 25, 59, 60, 61, 98, 99, 100, 149, 150, 400, 401, 500, 2000, 20000, 20001};
    private static final int[] WORDS = {0x62617220, 0x3B202020, 0x69662064, 0x7279203A, 0x7765656B, 0x73203520,
        0x636F7374, 0x20616E64, 0x206E6F74, 0x2068656C, 0x643C3320, 0x31323334, 0x35202020, 0x6261723B, 0xFF00FF00};

    private final Random chance;

    private WildTest(int run) {
        chance = new Random(run);
    }

    public static void main(String[] args) {
        Check check = new Check("WildTest");
        for (int run = 0; run < RUNS; run++) {
            check.due("run " + run, new WildTest(run).run(), new WildTest(run).run());
        }
        check.close();
    }

    private long run() {
        HerdBooks x = new HerdBooks();
        long sum = 0;
        for (int i = 0; i < CALLS; i++) {
            sum = sum * 31 + call(x, i < 40 ? chance.nextInt(14) : chance.nextInt(METHODS));
        }
        return sum;
    }

    private int any() {
        int dice = chance.nextInt(10);
        return dice < 7 ? chance.nextInt(6) : dice < 9 ? EDGES[chance.nextInt(EDGES.length)] : chance.nextInt();
    }

    private int word() {
        return WORDS[chance.nextInt(WORDS.length)];
    }

    private static int one(boolean b) {
        return b ? 1 : 0;
    }

    private int call(HerdBooks x, int method) {
        int a = any();
        int b = any();
        int c = any();
        int d = any();
        boolean is = chance.nextBoolean();
        switch (method) {
            case 0: return x.cell(is);
            case 1: return one(x.way(a, b, c));
            case 2: return x.camp(a, b);
            case 3: return x.book(a, b, c, d, any());
            case 4: return one(x.grass(a, b, c));
            case 5: return one(x.dry(a, is));
            case 6: return one(x.week(chance.nextInt(4) == 0 ? a : x.count(6) + 1));
            case 7: return x.news(a, b, c, is);
            case 8: return x.lend(a, b);
            case 9: return x.pass(a, b, c);
            case 10: return x.reader(a);
            case 11: return one(x.read(a, b));
            case 12: return x.feed(word(), word(), word(), word(), word());
            case 13: return x.rules();
            case 14: return one(x.view(a));
            case 15: return x.parts(a, b, c);
            case 16: return x.likeliest(a, b);
            case 17: return x.quarrel(a, b);
            case 18: return x.back(a);
            case 19: return x.tear(a, b, c);
            case 20: return x.act(a, b);
            case 21: return x.who(a, b);
            case 22: return x.had(a, b);
            case 23: return x.due(a, b);
            case 24: return x.owes(a, b, c);
            case 25: return x.end(a);
            case 26: return x.fault(a);
            case 27: return x.rule(a, b, c, d);
            case 28: return x.round(a, b, c);
            case 29: return x.stop(a, b, c);
            case 30: return one(x.wish(a, b, c));
            case 31: return x.load(a, b, c);
            case 32: return x.learns(a, b);
            case 33: return x.giver(a);
            case 34: return x.house(a, b, c);
            case 35: return x.count(a);
            case 36: return one(x.image(a));
            default: return one(x.again(a));
        }
    }
}
