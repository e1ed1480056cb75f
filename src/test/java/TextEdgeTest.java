/**
 * Promise 5 and the grammar of texts, edge by edge: each byte, each WORD, each NUMBER's length, each
 * TOKEN in each place, how many may be open, a tape that ends too early, and what an E comes to.
 */
public final class TextEdgeTest {
    private static final String[] KEYS = {"drinks", "worth", "breaks", "or", "and", "not"};
    private static final String[] NAMES = {"day", "drunk", "full", "empty", "cork", "label"};
    private static final String REST = ";worth 2;breaks 3;";

    public static void main(String[] args) {
        bytesAlone();
        bytesBehindAnE();
        bytesForAnE();
        blanks();
        words();
        numbers();
        tokensByPlace();
        endsTooEarly();
        behindTheText();
        theLongest();
        opened();
        closedAgain();
        tapeAndNumbers();
        whatIsTrue();
        wraps();
        orderOfSigns();
        Check.end();
    }

    /** Reads a text that has a fault at a place; -1: it has none. */
    private static void fault(String text, int place) {
        Check.due("text() of \"" + text.replace("\n", "\\n") + "\"", Check.read(text), place < 0 ? 1 : -100 - place);
    }

    private static boolean isIn(String all, int b) {
        return all.indexOf(b) >= 0;
    }

    private static boolean isLetter(int b) {
        return b >= 97 && b <= 122;
    }

    private static boolean isDigit(int b) {
        return b >= 48 && b <= 57;
    }

    private static void bytesAlone() {
        Check.about("a byte alone");
        for (int b = 0; b <= 255; b++) {
            fault("" + (char) b, b == 32 || b == 10 ? 1 : 0);
        }
        Check.about("a byte that begins no TOKEN is a fault wherever it stands");
        String text = "drinks 1 + 2;worth 3;breaks not 4;";
        for (int b = 0; b <= 255; b++) {
            boolean begins = isLetter(b) || isDigit(b) || isIn("();+-*<= \n", b);
            for (int at = 0; at <= text.length() && !begins; at++) {
                int word = at;
                // Cut in two, a WORD is none of these ahead of the byte.
                while (word > 0 && isLetter(text.charAt(word - 1))) {
                    word--;
                }
                boolean whole = at == text.length() || !isLetter(text.charAt(at));
                fault(text.substring(0, at) + (char) b + text.substring(at), whole ? at : word);
            }
        }
    }

    private static void bytesBehindAnE() {
        Check.about("a byte behind an E");
        for (int b = 0; b <= 255; b++) {
            String text = "drinks 1" + (char) b + REST;
            if (isDigit(b) || b == 32 || b == 10) {
                fault(text, -1);
            } else {
                fault(text, isIn(";+-*<=", b) ? 9 : 8);
            }
        }
    }

    private static void bytesForAnE() {
        Check.about("a byte where an E is due");
        for (int b = 0; b <= 255; b++) {
            String text = "drinks " + (char) b + REST;
            if (isDigit(b)) {
                fault(text, -1);
            } else {
                fault(text, isIn("-( \n", b) ? 8 : 7);
            }
        }
    }

    private static void blanks() {
        Check.about("blanks");
        for (String blank : new String[] {" ", "\n", "  ", "\n\n", " \n", "\n "}) {
            fault("drinks" + blank + "1" + blank + ";" + blank + "worth" + blank + "2" + blank + ";" + blank
                + "breaks" + blank + "3" + blank + ";", -1);
            fault(blank + "drinks 1" + REST, -1);
            fault("drinks 1" + REST + blank, -1);
            fault("drinks 1" + blank + "2" + REST, 8 + blank.length());
            fault("drinks 1 <" + blank + "= 2" + REST, 10 + blank.length());
            fault("drin" + blank + "ks 1" + REST, 0);
            fault("drinks da" + blank + "y" + REST, 7);
            fault("drinks 12" + blank + "34" + REST, 9 + blank.length());
            fault(blank, blank.length());
            fault("drinks" + blank, 6 + blank.length());
            fault("drinks 1 ; worth" + blank, 16 + blank.length());
        }
        // 9, 11, 12, 13, 0, 31, 33 and 160 are no blanks.
        for (char b : new char[] {9, 11, 12, 13, 0, 31, 33, 160, 255, 42 + 128}) {
            fault("drinks" + b + "1" + REST, 6);
            fault("drinks 1" + b + REST, 8);
            fault(b + "drinks 1" + REST, 0);
            fault("drinks 1" + REST + b, 26);
        }
        fault("drinks1;worth2;breaks3;", -1);
        fault("drinks(1);worth-2;breaks(3);", -1);
        fault("drinks 1or 2and 3" + REST, -1);
        fault("drinks day<1or(2)and 3" + REST, -1);
        fault("drinks not(day)" + REST, -1);
        fault("drinks notday" + REST, 7);
        fault("drinksnot 1" + REST, 0);
    }

    private static void words() {
        Check.about("WORDS");
        for (String name : NAMES) {
            fault("drinks " + name + REST, -1);
            fault("drinks 1 + " + name + REST, -1);
            for (String wrong : spoiled(name)) {
                fault("drinks " + wrong + REST, 7);
                fault("drinks 1 " + wrong + REST, 9);
                fault(wrong + " 1" + REST, 0);
            }
            fault(name + " 1" + REST, 0);
            fault("drinks 1 " + name + REST, 9);
            fault("drinks 1;" + name + " 2;breaks 3;", 9);
        }
        for (String key : KEYS) {
            fault("drinks " + key + REST, key.equals("not") ? 10 : 7);
            fault("drinks 1 + " + key + " 2" + REST, 11);
            fault("drinks 1 " + key + " 2" + REST, key.equals("or") || key.equals("and") ? -1 : 9);
            fault(key + " 1" + REST, key.equals("drinks") ? -1 : 0);
            fault("drinks 1;" + key + " 2;breaks 3;", key.equals("worth") ? -1 : 9);
            fault("drinks 1;worth 2;" + key + " 3;", key.equals("breaks") ? -1 : 17);
            for (String wrong : spoiled(key)) {
                fault("drinks " + wrong + " 1" + REST, 7);
                fault("drinks 1 " + wrong + " 1" + REST, 9);
                fault(wrong + " 1" + REST, 0);
                fault("drinks 1;worth 2;" + wrong + " 3;", 17);
            }
        }
    }

    /** WORDS that are nearly a word: a letter more, one less, another one. */
    private static String[] spoiled(String word) {
        int n = word.length();
        char last = word.charAt(n - 1);
        return new String[] {word + "s", "a" + word, word.substring(0, n - 1), word.substring(1), word + word,
            word.substring(0, n - 1) + (char) (last == 'a' ? 'b' : last - 1), (word.charAt(0) == 'z' ? 'y' : 'z') + word.substring(1)};
    }

    private static void numbers() {
        Check.about("NUMBERS");
        for (int length = 1; length <= 9; length++) {
            for (char digit : new char[] {'0', '1', '9'}) {
                String number = ("" + digit).repeat(length);
                fault("drinks " + number + REST, length <= 4 ? -1 : 7);
                fault("drinks day+" + number + REST, length <= 4 ? -1 : 11);
                fault("drinks 1 " + number + REST, 9);
                fault(number, 0);
                fault("drinks 1" + REST + number, 26);
            }
        }
        fault("drinks " + "0".repeat(153), 7);
        fault("drinks 1234day" + REST, 11);
        fault("drinks 12345day" + REST, 7);
        fault("drinks 1234or 1234" + REST, -1);
        says("0000", 0);
        says("0009", 9);
        says("9", 9);
        says("09=9", 1);
        says("9999=9998+1", 1);
        says("1234-1230", 4);
        // Of two faults the first: a long NUMBER ahead of a WORD that is none, and behind it.
        fault("drinks 12345 foo;", 7);
        fault("drinks foo 12345;", 7);
        fault("drinks ) ?", 7);
        fault("drinks 1 ? )", 9);
    }

    /** Which TOKEN may stand behind which beginning, every one of them tried. */
    private static void tokensByPlace() {
        Check.about("TOKENS by their places");
        String[] tokens = {"(", ")", ";", "+", "-", "*", "<", "=", "drinks", "worth", "breaks", "or", "and", "not",
            "day", "label", "0", "9999", "foo", "12345", "?"};
        String e = "( - not day label 0 9999 ";
        String one = "( - day label 0 9999 ";
        String behind = "; + - * < = or and ";
        String[][] places = {
            {"", "drinks "}, {"drinks", e}, {"drinks 1", behind}, {"drinks 1 +", one}, {"drinks 1 -", one},
            {"drinks 1 *", one}, {"drinks -", one}, {"drinks - -", one}, {"drinks 1 <", one}, {"drinks 1 =", one},
            {"drinks 1 < 2", "; + - * or and "}, {"drinks 1 = day", "; + - * or and "}, {"drinks not", e},
            {"drinks not 1", behind}, {"drinks not 1 = 2", "; + - * or and "}, {"drinks 1 or", e}, {"drinks 1 and", e},
            {"drinks 1 < 2 or", e}, {"drinks 1 < 2 or 3", behind}, {"drinks 1 = 2 and 3", behind}, {"drinks (", e},
            {"drinks ( 1", ") + - * < = or and "}, {"drinks ( 1 < 2", ") + - * or and "}, {"drinks ( 1 )", behind},
            {"drinks ( 1 < 2 )", behind}, {"drinks 1 < ( 1 = 2 )", "; + - * or and "}, {"drinks - ( 1 )", behind},
            {"drinks day", behind}, {"drinks - label", behind}, {"drinks 1 ;", "worth "}, {"drinks 1 ; worth", e},
            {"drinks 1 ; worth 2", behind}, {"drinks 1 ; worth 2 ;", "breaks "}, {"drinks 1 ; worth 2 ; breaks", e},
            {"drinks 1 ; worth 2 ; breaks 3", behind}, {"drinks 1 ; worth 2 ; breaks 3 ;", ""}};
        for (String[] place : places) {
            for (String token : tokens) {
                boolean may = (" " + place[1]).contains(" " + token + " ");
                String text = place[0] + (place[0].isEmpty() ? "" : " ") + token;
                int at = text.length() - token.length();
                boolean whole = text.equals("drinks 1 ; worth 2 ; breaks 3 ;");
                // Where it may stand the text ends too early behind it.
                fault(text, whole ? -1 : may ? text.length() : at);
                fault(text + " ?", may ? text.length() + 1 : at);
            }
        }
    }

    private static void endsTooEarly() {
        Check.about("a text that ends too early");
        String text = "drinks 1 + 2 * - day ; worth not 3 = ( label ) or drunk ; breaks 4 and 5 < 6 ;";
        String[] tokens = text.split(" ");
        StringBuilder begun = new StringBuilder();
        fault("", 0);
        for (int k = 0; k < tokens.length; k++) {
            begun.append(tokens[k]);
            fault(begun.toString(), k == tokens.length - 1 ? -1 : begun.length());
            begun.append(' ');
            fault(begun.toString(), k == tokens.length - 1 ? -1 : begun.length());
        }
        // Cut within a WORD, that is none: its first byte.
        fault("drink", 0);
        fault("drinks 1;wort", 9);
        fault("drinks 1;worth 2;break", 17);
        fault("drinks 1;worth dru", 15);
    }

    private static void behindTheText() {
        Check.about("behind a text");
        String text = "drinks 1" + REST;
        for (String more : new String[] {";", "drinks 1;", "1", "day", "(", ")", "-", "x", "?", "12345", "\t"}) {
            fault(text + more, 26);
            fault(text + " \n" + more, 28);
        }
        fault(text + "\n \n", -1);
    }

    private static void theLongest() {
        Check.about("a tape of 160 bytes");
        String text = "drinks 1" + REST;
        fault(text + " ".repeat(160 - 26), -1);
        fault(" ".repeat(160 - 26) + text, -1);
        fault(text + " ".repeat(160 - 27) + ";", 159);
        fault(" ".repeat(160), 160);
        fault(" ".repeat(159) + "?", 159);
        fault("drinks " + "1+".repeat(76) + "1", 160);
        fault("drinks " + "1+".repeat(76) + ")", 159);
        fault("a".repeat(160), 0);
        fault("drinks 0" + "+1".repeat(67) + REST, -1);
        ThreeEmpties x = new ThreeEmpties();
        Check.law(x, "drinks 2;worth 0" + "+1".repeat(67) + ";breaks 3;");
        Check.due("a sum of 67 ones", x.asks(1), 67);
        Check.law(x, "drinks 2;worth 99" + "-1".repeat(66) + ";breaks 3;");
        Check.due("99 less 66", x.asks(1), 33);
        Check.law(x, "drinks 2;worth 7" + "*1".repeat(67) + ";breaks 3;");
        Check.due("a product of ones", x.asks(1), 7);
        Check.due("drinks", x.asks(0), 2);
        Check.due("breaks", x.asks(2), 3);
    }

    /** All rows of ( and not and - ahead of a NUMBER: five may be open, a sixth is the fault. */
    private static void opened() {
        Check.about("five open");
        String[] openers = {"(", "-", "not "};
        for (int length = 0; length <= 7; length++) {
            int rows = 1;
            for (int k = 0; k < length; k++) {
                rows *= 3;
            }
            for (int row = 0; row < rows; row++) {
                int fault = -1;
                int closed = 0;
                StringBuilder text = new StringBuilder("drinks ");
                for (int k = 0, rest = row, last = 0; k < length; k++, rest /= 3) {
                    int opener = rest % 3;
                    boolean cannot = k >= 5 || opener == 2 && last == 1 && k > 0;
                    fault = cannot && fault < 0 ? text.length() : fault;
                    text.append(openers[opener]);
                    closed += opener == 0 ? 1 : 0;
                    last = opener;
                }
                fault(text + "7" + ")".repeat(closed) + REST, fault);
            }
        }
    }

    private static void closedAgain() {
        Check.about("what has ended is open no more");
        String[] five = {"(((((1)))))", "-----1", "(-(-(1)))", "not not not not not 1", "not(not(-1))"};
        for (String a : five) {
            for (String b : five) {
                fault("drinks " + a + " or " + b + REST, -1);
                fault("drinks " + a + " and " + b + REST, -1);
                if (!b.startsWith("not")) {
                    // A not is open till its NOT ends, that is behind such a sign; all else has ended.
                    int open = a.startsWith("not(") ? 1 : a.startsWith("not") ? 5 : 0;
                    for (String sign : new String[] {"+", "-", "*", "<", "="}) {
                        int at = 7 + a.length() + sign.length() + 5 - open;
                        fault("drinks " + a + sign + b + REST, open > 0 ? at : -1);
                    }
                }
            }
        }
        for (int nots = 0; nots <= 5; nots++) {
            for (int more = 0; more <= 6; more++) {
                for (String sign : new String[] {"+", "-", "*", "<", "="}) {
                    String ahead = "not ".repeat(nots) + "1" + sign;
                    int at = nots + more <= 5 ? -1 : 7 + ahead.length() + 5 - nots;
                    fault("drinks " + ahead + "(".repeat(more) + "2" + ")".repeat(more) + REST, at);
                    fault("drinks " + ahead + "-".repeat(more) + "2" + REST, at);
                }
                for (String sign : new String[] {" or ", " and "}) {
                    String ahead = "not ".repeat(nots) + "1" + sign;
                    int at = more <= 5 ? -1 : 7 + ahead.length() + 5;
                    fault("drinks " + ahead + "(".repeat(more) + "2" + ")".repeat(more) + REST, at);
                }
            }
        }
        // A - ends with its ONE, a ( with its ); the - between two TERMs opens nothing.
        fault("drinks -1*-----2" + REST, -1);
        fault("drinks -(1)*(((((2)))))" + REST, -1);
        fault("drinks (((((1-2-3-4-5-6-7)))))" + REST, -1);
        fault("drinks (((((1--2)))))" + REST, 14);
        fault("drinks ((((1--2))))" + REST, -1);
        fault("drinks ((((1--(2)))))" + REST, 14);
        // Each E begins with none open.
        fault("drinks -----1;worth (((((2)))));breaks not not not not not 3;", -1);
        fault("drinks 1;worth 2;breaks ------3;", 29);
    }

    private static void tapeAndNumbers() {
        Check.about("text(): THE TAPE, its number");
        ThreeEmpties x = new ThreeEmpties();
        Check.due("an empty tape", x.text(), -100);
        for (int t = 1; t <= 5; t++) {
            Check.write(x, "drinks 1;worth " + 9 * t + ";breaks 1" + " or 1".repeat(t) + " ;;");
            Check.due("a fault", x.text(), -127 - 5 * t - (t > 1 ? 1 : 0));
            Check.due("empty then", x.count(10), 0);
            Check.due("no TEXT came", x.count(8), t);
            Check.due("nor is it THE LAW", x.count(9), 0);
            Check.write(x, "drinks " + t + ";worth " + 9 * t + ";breaks " + 9 * t + ";");
            Check.due("its number", x.text(), t);
            Check.due("empty then", x.count(10), 0);
            Check.due("TEXTS", x.count(8), t + 1);
        }
        for (String tape : new String[] {"", "drinks 1" + REST, "?"}) {
            Check.write(x, tape);
            int size = x.count(10);
            Check.due("FULL", x.text(), -4);
            Check.due("the tape stays", x.count(10), size);
            Check.due("FULL again", x.text(), -4);
        }
        for (int t = 1; t <= 5; t++) {
            x.force(t);
            Check.due("drinks", x.asks(0), Math.min(3, t));
            Check.due("worth", x.asks(1), 9 * t);
            Check.due("breaks", x.asks(2), 9 * t);
        }
        // One short of full there is room for one, whatever faults came.
        ThreeEmpties y = new ThreeEmpties();
        for (int t = 1; t <= 4; t++) {
            Check.law(y, "drinks 1" + REST);
        }
        Check.write(y, "?");
        Check.due("a fault, not FULL", y.text(), -100);
        Check.law(y, "drinks 2" + REST);
        Check.due("the sixth", y.count(9), 5);
    }

    /** What an E comes to, shown by worth: from 0 to 99. */
    private static void says(String e, int want) {
        ThreeEmpties x = Check.under("drinks 1;worth " + e + ";breaks 1;");
        Check.due(e, x.asks(1), want);
    }

    private static void whatIsTrue() {
        Check.about("what is not 0 is true");
        String[] values = {"0", "1", "2", "-1", "9999", "(1-1)", "(256*256*256*128)"};
        for (String a : values) {
            boolean isA = !a.equals("0") && !a.equals("(1-1)");
            isTrue("not " + a, !isA);
            isTrue("not not " + a, isA);
            for (String b : values) {
                boolean isB = !b.equals("0") && !b.equals("(1-1)");
                isTrue(a + " or " + b, isA || isB);
                isTrue(a + " and " + b, isA && isB);
            }
        }
        for (int a = 0; a <= 3; a++) {
            for (int b = 0; b <= 3; b++) {
                isTrue(a + "<" + b, a < b);
                isTrue(a + "=" + b, a == b);
                isTrue("-" + a + "<-" + b, -a < -b);
                isTrue("-" + a + "<" + b, -a < b);
                isTrue(a + "=-" + b, a == -b);
            }
        }
    }

    /** 1 or 0, neither more nor less: shown away from worth's bounds. */
    private static void isTrue(String e, boolean is) {
        says("50+(" + e + ")", is ? 51 : 50);
        says("50-(" + e + ")", is ? 49 : 50);
    }

    private static void wraps() {
        Check.about("an E is an int");
        String least = "(256*256*256*128)";
        says(least + "<0", 1);
        says(least + "-1<0", 0);
        says(least + "-1=-" + least + "-1", 1);
        says("-" + least + "=" + least, 1);
        says("-" + least + "<0", 1);
        says(least + "+" + least + "=0", 1);
        says(least + "*2=0", 1);
        says("0<" + least + "-1", 1);
        says(least + "<" + least + "-1", 1);
        says("256*256*256*256=0", 1);
        says("256*256*256*256+7", 7);
        says("9999*9999*9999<0", 9999 * 9999 * 9999 < 0 ? 1 : 0);
        says("9999*9999*22<0", 1);
        says("9999*9999*21<0", 0);
        says(least + "*9999<0", 1);
        says(least + "-1 and 1", 1);
    }

    private static void orderOfSigns() {
        Check.about("which sign binds which");
        says("9-5-3", 1);
        says("9-5+3", 7);
        says("9-(5+3)", 1);
        says("2+3*4", 14);
        says("2*3+4", 10);
        says("20-2*3*3", 2);
        says("-2*-3", 6);
        says("-2+3", 1);
        says("-(2+3)+9", 4);
        says("--2", 2);
        says("3--2", 5);
        says("3---2", 1);
        says("1+1<1+2", 1);
        says("1+2<1+2", 0);
        says("2*2=2+2", 1);
        says("not 1=2", 1);
        says("(not 1)=0", 1);
        says("not 0+0", 1);
        says("not 1 or 1", 1);
        says("not(1 or 1)", 0);
        says("not 1 and 0", 0);
        says("not(1 and 0)", 1);
        says("1 or 1 and 0", 1);
        says("(1 or 1) and 0", 0);
        says("0 and 1 or 1", 1);
        says("0 and (1 or 1)", 0);
        says("1<2 and 2<1", 0);
        says("1<2 or 2<1", 1);
        says("5*(day=0)", 5);
    }
}
