/** What several tests share: counting wrong answers, feeding texts, telling sheets. */
final class Check {
    static final int FAR_BELOW = Integer.MIN_VALUE;
    static final int FAR_ABOVE = Integer.MAX_VALUE;

    private static int wrong = 0;
    private static int answers = 0;
    private static String sentence = "";

    private Check() { }

    /** Names what the answers that follow are about. */
    static void about(String name) {
        sentence = name;
    }

    static void due(String call, long got, long want) {
        answers++;
        if (got != want) {
            fail(call + " answered " + got + ", due is " + want);
        }
    }

    static void fail(String what) {
        wrong++;
        if (wrong <= 40) {
            System.out.println(sentence + ": " + what);
        }
    }

    static void end() {
        System.out.println(wrong == 0 ? answers + " answers are as due" : wrong + " answers are wrong");
        if (wrong != 0) {
            System.exit(1);
        }
    }

    /** The neighbours of a range outside it, and the ints that lie farthest. */
    static int[] outside(int low, int high) {
        return new int[] {low - 1, high + 1, FAR_BELOW, FAR_ABOVE};
    }

    static void write(ThreeEmpties x, String text) {
        for (int i = 0; i < text.length(); i += 5) {
            int n = Math.min(5, text.length() - i);
            int[] b = new int[5];
            for (int k = 0; k < n; k++) {
                b[k] = text.charAt(i + k);
            }
            int had = x.count(10);
            int has = x.feed(n, b[0], b[1], b[2], b[3], b[4]);
            if (has != had + n) {
                fail("feed of \"" + text + "\" answered " + has);
            }
        }
    }

    /** What text() answers to a text, on a new object. */
    static int read(String text) {
        ThreeEmpties x = new ThreeEmpties();
        write(x, text);
        return x.text();
    }

    static void law(ThreeEmpties x, String text) {
        write(x, text);
        int t = x.text();
        if (t < 0) {
            fail("\"" + text + "\" has a fault: " + t);
        }
        x.force(t);
    }

    static ThreeEmpties under(String text) {
        ThreeEmpties x = new ThreeEmpties();
        law(x, text);
        return x;
    }

    /** A sheet becomes the numbers told. */
    static void tell(ThreeEmpties x, int s, int sort, int... numbers) {
        due("sheet", x.sheet(s, sort, numbers.length), 1);
        for (int i = 0; i < numbers.length; i++) {
            if (numbers[i] != 0) {
                due("cell", x.cell(s, i, numbers[i]), 1);
            }
        }
    }

    /** A RATE in one number: KIND, sort, TOLD, MORE, a digit each; -5, if there is none. */
    static int rateOf(ThreeEmpties x, int r) {
        int kind = x.told(r, 0);
        return kind < 0 ? kind : kind * 1000 + x.told(r, 1) * 100 + x.told(r, 2) * 10 + x.told(r, 3);
    }

    /** Puts what one HAS, OWES, has DRUNK, THE DAY, in the order of set(). */
    static void stand(ThreeEmpties x, int... v) {
        for (int what = 0; what < v.length; what++) {
            x.set(what, v[what]);
        }
    }

    static void stands(ThreeEmpties x, String call, int... want) {
        for (int what = 0; what < want.length; what++) {
            due("count(" + what + ") behind " + call, x.count(what), want[what]);
        }
    }
}
