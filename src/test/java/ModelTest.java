import java.nio.charset.StandardCharsets;

/** Long runs of calls drawn by a fixed seed: the class and the model must answer alike. */
public final class ModelTest {
    private static final int RUNS = 150;
    private static final int CALLS = 512;

    private long lot;
    private ThreeEmpties x;
    private Model m;
    private final StringBuilder calls = new StringBuilder();

    public static void main(String[] args) {
        int runs = args.length > 0 ? Integer.parseInt(args[0]) : RUNS;
        int first = args.length > 1 ? Integer.parseInt(args[1]) : 1;
        for (int run = first; run < first + runs; run++) {
            if (!new ModelTest().run(run)) {
                System.exit(1);
            }
        }
        System.out.println("class and model answer alike in " + runs + " runs");
    }

    private int draw(int n) {
        lot = lot * 6364136223846793005L + 1442695040888963407L;
        return (int) Long.remainderUnsigned(lot >>> 24, n);
    }

    /** A number mostly within low .. high, now and then just outside or far away. */
    private int near(int low, int high) {
        switch (draw(30)) {
            case 0: return low - 1;
            case 1: return high + 1;
            case 2: return draw(2) == 0 ? Integer.MIN_VALUE : Integer.MAX_VALUE;
            case 3: return high;
            case 4: return low;
            default: return low + draw(high - low + 1);
        }
    }

    private boolean same(String call, long got, long want) {
        calls.append(call).append(" -> ").append(got).append('\n');
        if (got == want) {
            return true;
        }
        System.out.println(calls);
        System.out.println("the model answers " + want);
        return false;
    }

    private boolean run(int seed) {
        lot = seed * 7919L;
        calls.setLength(0);
        x = new ThreeEmpties();
        m = new Model();
        int made = 0;
        while (made < CALLS) {
            int before = made;
            if (draw(40) == 0) {
                String text = new Writer().text();
                byte[] bytes = text.getBytes(StandardCharsets.ISO_8859_1);
                for (int i = 0; i < bytes.length && made < CALLS; i += 5) {
                    made++;
                    int n = Math.min(5, bytes.length - i);
                    int[] b = new int[5];
                    for (int k = 0; k < n; k++) {
                        b[k] = bytes[i + k] & 255;
                    }
                    if (!same("feed(" + n + ", " + b[0] + ", " + b[1] + ", " + b[2] + ", " + b[3] + ", " + b[4] + ")",
                        x.feed(n, b[0], b[1], b[2], b[3], b[4]), m.feed(n, b))) {
                        return false;
                    }
                }
                if (made + 2 < CALLS && !(same("text() of " + text, x.text(), m.text()) && forceLast())) {
                    return false;
                }
                made += 2;
            }
            if (!call(draw(34)) || !state()) {
                System.out.println("in run " + seed);
                return false;
            }
            made = Math.max(made + 1, before + 1);
        }
        return true;
    }

    private boolean forceLast() {
        int t = x.count(8) - 1;
        return same("force(" + t + ")", x.force(t), m.force(t));
    }

    /** count() changes nothing, so it may be asked beyond the calls that are counted. */
    private boolean state() {
        for (int what = 0; what <= 10; what++) {
            if (x.count(what) != m.count(what)) {
                return same("count(" + what + ")", x.count(what), m.count(what));
            }
        }
        return true;
    }

    private boolean call(int which) {
        int a;
        int b;
        int c;
        int d;
        int e;
        switch (which) {
            case 0:
            case 1:
                a = near(0, 6);
                int most = a == 4 || a == 6 ? 99 : 999;
                b = draw(5) == 0 ? near(0, most) : draw(4) == 0 ? most - draw(3) : near(0, a == 0 ? 12 : a == 4 ? 3 : 9);
                return same("set(" + a + ", " + b + ")", x.set(a, b), m.set(a, b));
            case 2:
                a = near(0, 10);
                return same("count(" + a + ")", x.count(a), m.count(a));
            case 3:
                a = near(0, 5);
                return same("force(" + a + ")", x.force(a), m.force(a));
            case 4:
                a = near(0, 2);
                return same("asks(" + a + ")", x.asks(a), m.asks(a));
            case 5:
                a = near(0, 5);
                b = draw(20) == 0 ? near(9, 41) : 10 * near(1, 3) + near(1, draw(3) == 0 ? 9 : 3);
                c = near(0, 9);
                return same("rate(" + a + ", " + b + ", " + c + ")", x.rate(a, b, c), m.rate(a, b, c));
            case 6:
                a = near(0, 4);
                b = near(0, 5);
                c = near(0, 9);
                return same("change(" + a + ", " + b + ", " + c + ")", x.change(a, b, c), m.change(a, b, c));
            case 7:
                a = near(0, 4);
                b = near(0, 6);
                return same("told(" + a + ", " + b + ")", x.told(a, b), m.told(a, b));
            case 8:
                a = near(0, 5);
                return same("can(" + a + ")", x.can(a), m.can(a));
            case 9:
            case 10:
                a = near(0, 5);
                return same("move(" + a + ")", x.move(a), m.move(a));
            case 11:
                a = near(0, 6);
                return same("all(" + a + ")", x.all(a), m.all(a));
            case 12:
                a = near(0, draw(4) == 0 ? 200 : 5);
                return same("go(" + a + ")", x.go(a), m.go(a));
            case 13:
                a = near(0, draw(3) == 0 ? 199 : 20);
                return same("next(" + a + ")", x.next(a), m.next(a));
            case 14:
                a = near(0, draw(20) == 0 ? 6 : 4);
                b = near(0, 1);
                return same("best(" + a + ", " + b + ")", x.best(a, b), m.best(a, b));
            case 15:
                a = near(0, draw(3) == 0 ? 999 : 60);
                b = near(0, 1);
                return draw(3) != 0 || same("least(" + a + ", " + b + ")", x.least(a, b), m.least(a, b));
            case 16:
                a = near(0, draw(3) == 0 ? 999 : 60);
                b = near(0, draw(3) == 0 ? 999 : 2);
                return draw(3) != 0 || same("bought(" + a + ", " + b + ")", x.bought(a, b), m.bought(a, b));
            case 17:
                a = near(0, draw(2) == 0 ? 60 : 6);
                b = near(0, draw(2) == 0 ? 60 : 6);
                return same("friends(" + a + ", " + b + ")", x.friends(a, b), m.friends(a, b));
            case 18:
                a = near(0, 4);
                return same("worth(" + a + ")", x.worth(a), m.worth(a));
            case 19:
                a = near(0, 1);
                return draw(3) != 0 || same("never(" + a + ")", x.never(a), m.never(a));
            case 20:
                a = near(0, 1);
                return same("when(" + a + ")", x.when(a), m.when(a));
            case 21:
                a = near(0, 3);
                return same("judge(" + a + ")", x.judge(a), m.judge(a));
            case 22:
                a = near(0, 3);
                b = near(0, 6);
                return same("behind(" + a + ", " + b + ")", x.behind(a, b), m.behind(a, b));
            case 23:
                a = near(0, 3);
                b = near(0, 40);
                return same("film(" + a + ", " + b + ")", x.film(a, b), m.film(a, b));
            case 24:
                a = draw(2) == 0 ? near(0, 999) : x.all(0);
                return same("laws(" + a + ")", x.laws(a), m.laws(a));
            case 25:
                a = near(0, 99999);
                b = near(0, 200);
                return same("drawn(" + a + ", " + b + ")", x.drawn(a, b), m.drawn(a, b));
            case 26:
                a = near(0, 99999);
                b = near(1, 30);
                c = near(0, 200);
                d = near(0, 1);
                return draw(3) != 0 || same("mean(" + a + ", " + b + ", " + c + ", " + d + ")",
                    x.mean(a, b, c, d), m.mean(a, b, c, d));
            case 27:
                return draw(3) != 0 || same("image()", x.image(), m.image());
            case 28:
                return draw(3) != 0 || same("back()", x.back(), m.back());
            case 29:
                a = near(0, 3);
                b = near(-1, 2);
                c = near(0, draw(2) == 0 ? 40 : 6);
                return same("sheet(" + a + ", " + b + ", " + c + ")", x.sheet(a, b, c), m.sheet(a, b, c));
            case 30:
                a = near(0, 3);
                b = near(0, draw(2) == 0 ? 39 : 6);
                c = draw(4) == 0 ? near(-70000, 70000) : draw(3) == 0 ? 10 * near(1, 3) + near(1, 3) : near(0, 5);
                return same("cell(" + a + ", " + b + ", " + c + ")", x.cell(a, b, c), m.cell(a, b, c));
            case 31:
                a = near(0, 3);
                b = near(0, draw(2) == 0 ? 40 : 6);
                c = near(0, 3);
                d = near(0, draw(2) == 0 ? 40 : 6);
                e = near(0, draw(2) == 0 ? 40 : 6);
                return same("copy(" + a + ", " + b + ", " + c + ", " + d + ", " + e + ")",
                    x.copy(a, b, c, d, e), m.copy(a, b, c, d, e));
            case 32:
                a = near(0, 3);
                b = near(0, 2);
                c = near(0, 6);
                d = near(0, 5);
                return same("ratesBy(" + a + ", " + b + ", " + c + ", " + d + ")",
                    x.ratesBy(a, b, c, d), m.ratesBy(a, b, c, d));
            default:
                a = near(0, 8);
                b = near(0, 6);
                return same("taken(" + a + ", " + b + ")", x.taken(a, b), m.taken(a, b));
        }
    }

    /** Writes texts: most of them without fault, some with a byte gone, or another put in. */
    private final class Writer {
        private static final String[] NAMES = {"day", "drunk", "full", "empty", "cork", "label"};

        String text() {
            String text = "drinks" + gap() + e(0) + ";worth" + gap() + e(0) + gap() + ";breaks" + gap() + e(0) + ";";
            while (text.length() > 160) {
                text = "drinks " + draw(4) + ";worth" + gap() + e(2) + ";breaks " + e(3) + ";";
            }
            if (draw(3) == 0) {
                int at = draw(text.length());
                String put = new String[] {"", " ", "(", "-", "not ", "+", "=", "x", "7", "12345", "\n", ";", "\u00e9"}[draw(13)];
                text = text.substring(0, at) + put + text.substring(at + draw(2));
            }
            return text.length() > 160 ? text.substring(0, 160) : text;
        }

        private String gap() {
            return draw(5) == 0 ? "\n" : " ";
        }

        private String e(int depth) {
            switch (draw(depth > 4 ? 2 : 12)) {
                case 0: return "" + draw(draw(3) == 0 ? 10000 : 5);
                case 1: return NAMES[draw(6)];
                case 2: return e(depth + 1) + "+" + e(depth + 1);
                case 3: return e(depth + 1) + "-" + e(depth + 1);
                case 4: return e(depth + 1) + "*" + e(depth + 1);
                case 5: return e(depth + 1) + gap() + "or" + gap() + e(depth + 1);
                case 6: return e(depth + 1) + gap() + "and" + gap() + e(depth + 1);
                case 7: return "(" + e(depth + 1) + ")";
                case 8: return "-" + e(depth + 2);
                case 9: return "not" + gap() + e(depth + 2);
                case 10: return e(depth + 2) + "<" + e(depth + 2);
                default: return e(depth + 2) + "=" + e(depth + 2);
            }
        }
    }
}
