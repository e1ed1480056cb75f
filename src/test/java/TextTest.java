import java.util.Map;

/** Texts by the thousand, drawn by a fixed seed: faults and values as the document's grammar has them. */
public final class TextTest {
    private static final String[] PIECES = {"(", ")", "(", ")", "not ", "not ", "-", "-", "+", "*", "<", "=", ";",
        " or ", " and ", "1", "2", "0", "9999", "12345", "day", "drunk", "full", "empty", "cork", "label",
        " ", "\n", "x", "drinks", "worth ", "breaks", "?", "\t"};
    private static final String[] OPERANDS = {"1", "2", "0", "37", "9999", "day", "drunk", "full", "empty", "cork", "label"};
    private static final String[] SIGNS = {"+", "-", "*", "<", "=", " or ", " and ", "+", "-", "*", " or ", " and "};

    private static long lot = 11;

    public static void main(String[] args) {
        int read = 0;
        for (int k = 0; k < 6000; k++) {
            String text = k % 3 == 0 ? soup() : k % 3 == 1 ? sensible() : spoiled(sensible());
            if (text.length() > 160) {
                text = text.substring(0, 160);
            }
            read += compare(text) ? 1 : 0;
        }
        System.out.println("texts are read alike, " + read + " of 6000 without fault");
        if (read < 1000) {
            System.out.println("too few texts without fault");
            System.exit(1);
        }
    }

    private static int draw(int n) {
        lot = lot * 6364136223846793005L + 1442695040888963407L;
        return (int) Long.remainderUnsigned(lot >>> 24, n);
    }

    private static boolean compare(String text) {
        ThreeEmpties x = new ThreeEmpties();
        byte[] bytes = new byte[text.length()];
        for (int i = 0; i < bytes.length; i++) {
            bytes[i] = (byte) text.charAt(i);
            x.feed(1, text.charAt(i), 0, 0, 0, 0);
        }
        Grammar g = new Grammar(bytes);
        int fault = g.fault();
        due(text, "text()", x.text(), fault < 0 ? 1 : -100 - fault);
        if (fault >= 0) {
            return false;
        }
        x.force(1);
        int[] most = {3, 99, 100};
        for (int round = 0; round < 3; round++) {
            int[] v = new int[7];
            for (int what = 0; what < 7; what++) {
                v[what] = round == 0 ? 0 : draw(round == 1 ? 3 : 99);
                x.set(what, v[what]);
            }
            Map<String, Integer> named = Map.of("full", v[0], "empty", v[1], "cork", v[2], "label", v[3],
                "drunk", v[5], "day", v[6]);
            for (int part = 0; part < 3; part++) {
                int want = Math.max(0, Math.min(most[part], g.says(part, named)));
                due(text, "asks(" + part + ")", x.asks(part), want);
            }
        }
        return true;
    }

    private static void due(String text, String call, int got, int want) {
        if (got != want) {
            System.out.println("\"" + text + "\": " + call + " answered " + got + ", due is " + want);
            System.exit(1);
        }
    }

    private static String soup() {
        StringBuilder s = new StringBuilder("drinks ");
        for (int k = draw(25); k >= 0; k--) {
            s.append(PIECES[draw(PIECES.length)]);
        }
        return s.toString();
    }

    private static String sensible() {
        return "drinks " + e(draw(7)) + ";worth " + e(draw(12)) + " ; breaks " + e(draw(5)) + ";";
    }

    /** Operands and signs in turn, here and there with what may stand ahead of an operand. */
    private static String e(int signs) {
        StringBuilder s = new StringBuilder();
        int open = 0;
        for (int k = 0; k <= signs; k++) {
            while (draw(4) == 0) {
                String ahead = new String[] {"-", "(", "(not ", "not "}[draw(s.length() == 0 ? 4 : 3)];
                s.append(ahead);
                open += ahead.startsWith("(") ? 1 : 0;
            }
            s.append(OPERANDS[draw(OPERANDS.length)]);
            while (open > 0 && draw(3) == 0) {
                s.append(')');
                open--;
            }
            if (k < signs) {
                s.append(SIGNS[draw(SIGNS.length)]);
            }
        }
        return s + ")".repeat(open);
    }

    private static String spoiled(String text) {
        int at = draw(text.length());
        return text.substring(0, at) + PIECES[draw(PIECES.length)] + text.substring(at + draw(2));
    }
}
