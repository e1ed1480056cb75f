/** At least one test for each promise of the document: ordinary inputs, edges, wrong inputs. */
public final class PromiseTest {
    private static int wrong = 0;
    private static int promise = 0;

    public static void main(String[] args) {
        promise = 1; newObject();
        promise = 2; set();
        promise = 3; count();
        promise = 4; feed();
        promise = 5; text(); faults(); depth(); meaning();
        promise = 6; force();
        promise = 7; asks();
        promise = 8; rate();
        promise = 9; change();
        promise = 10; told();
        promise = 11; can();
        promise = 12; move();
        promise = 13; all();
        promise = 14; go();
        promise = 15; next();
        promise = 16; best();
        promise = 17; least();
        promise = 18; bought();
        promise = 19; friends();
        promise = 20; worth();
        promise = 21; never();
        promise = 22; when();
        promise = 23; judge();
        promise = 24; behind();
        promise = 25; film();
        promise = 26; laws();
        promise = 27; drawn();
        promise = 28; mean();
        promise = 29; image();
        promise = 30; back();
        promise = 31; sheet();
        promise = 32; cell();
        promise = 33; copy();
        promise = 34; ratesBy();
        promise = 35; taken();
        System.out.println(wrong == 0 ? "all promises hold" : wrong + " answers are wrong");
        if (wrong != 0) {
            System.exit(1);
        }
    }

    private static void due(String what, long got, long want) {
        if (got != want) {
            wrong++;
            System.out.println("promise " + promise + ": " + what + " answered " + got + ", due is " + want);
        }
    }

    private static void write(ThreeEmpties x, String text) {
        for (int i = 0; i < text.length(); i++) {
            due("feed " + text, x.feed(1, text.charAt(i), 0, 0, 0, 0), x.count(10));
        }
    }

    /** What text() answers to a text, on a new object. */
    private static int read(String text) {
        ThreeEmpties x = new ThreeEmpties();
        write(x, text);
        return x.text();
    }

    /** An object whose law is the text told. */
    private static ThreeEmpties under(String text) {
        ThreeEmpties x = new ThreeEmpties();
        write(x, text);
        due("text of " + text, x.text(), 1);
        due("force", x.force(1), 0);
        return x;
    }

    /** What an E comes to, told through worth (0 .. 99). */
    private static void says(String e, ThreeEmpties x, int want) {
        int t = x.count(8);
        write(x, "drinks 1;worth " + e + ";breaks 0;");
        due("text of " + e, x.text(), t);
        x.force(t);
        due(e, x.asks(1), want);
    }

    private static void says(String e, int want) {
        says(e, new ThreeEmpties(), want);
    }

    private static void fault(String text, int place) {
        due("fault of \"" + text + "\"", read(text), -100 - place);
    }

    private static void newObject() {
        ThreeEmpties x = new ThreeEmpties();
        for (int what = 0; what <= 7; what++) {
            due("count " + what, x.count(what), 0);
        }
        due("texts", x.count(8), 1);
        due("law", x.count(9), 0);
        due("tape", x.count(10), 0);
        due("back", x.back(), ThreeEmpties.STATE);
        for (int s = 0; s < 4; s++) {
            due("judge " + s, x.judge(s), -11);
        }
        due("can", x.can(0), 0);
        due("can 1", x.can(1), -5);
    }

    private static void set() {
        ThreeEmpties x = new ThreeEmpties();
        int[] most = {999, 999, 999, 999, 99, 999, 99};
        for (int what = 0; what <= 6; what++) {
            due("set most", x.set(what, most[what]), 0);
            due("set more", x.set(what, most[what] + 1), ThreeEmpties.BAD);
            due("set below", x.set(what, -1), ThreeEmpties.BAD);
            due("as it was", x.count(what), most[what]);
            due("set 0", x.set(what, 0), most[what]);
            due("set again", x.set(what, what + 1), 0);
        }
        for (int what = 0; what <= 6; what++) {
            due("each its own", x.count(what), what + 1);
        }
        due("set 7", x.set(7, 0), ThreeEmpties.NONE);
        due("set -1", x.set(-1, 0), ThreeEmpties.NONE);
        due("NONE ahead of BAD", x.set(7, -1), ThreeEmpties.NONE);
        due("far", x.set(Integer.MIN_VALUE, Integer.MAX_VALUE), ThreeEmpties.NONE);
    }

    private static void count() {
        ThreeEmpties x = new ThreeEmpties();
        x.rate(0, 13, 0);
        x.rate(1, 23, 0);
        due("rates", x.count(7), 2);
        write(x, "drinks 2;worth 1;breaks 3;");
        due("tape", x.count(10), 26);
        x.text();
        due("tape read", x.count(10), 0);
        due("texts", x.count(8), 2);
        x.force(1);
        due("law", x.count(9), 1);
        due("11", x.count(11), ThreeEmpties.BAD);
        due("-1", x.count(-1), ThreeEmpties.BAD);
        due("far", x.count(Integer.MAX_VALUE), ThreeEmpties.BAD);
    }

    private static void feed() {
        ThreeEmpties x = new ThreeEmpties();
        due("0", x.feed(0, 0, 0, 0, 0, 0), ThreeEmpties.BAD);
        due("6", x.feed(6, 0, 0, 0, 0, 0), ThreeEmpties.BAD);
        for (int bad : new int[] {-1, 256, Integer.MIN_VALUE, Integer.MAX_VALUE}) {
            due("a", x.feed(1, bad, 0, 0, 0, 0), ThreeEmpties.BAD);
            due("b", x.feed(1, 0, bad, 0, 0, 0), ThreeEmpties.BAD);
            due("c", x.feed(1, 0, 0, bad, 0, 0), ThreeEmpties.BAD);
            due("d", x.feed(1, 0, 0, 0, bad, 0), ThreeEmpties.BAD);
            due("e", x.feed(1, 0, 0, 0, 0, bad), ThreeEmpties.BAD);
        }
        due("none came", x.count(10), 0);
        due("5", x.feed(5, 'd', 'r', 'i', 'n', 'k'), 5);
        due("3", x.feed(3, 's', ' ', '2', 'x', 'x'), 8);
        due("1", x.feed(1, ';', 255, 0, 0, 0), 9);
        write(x, "worth 7;breaks 8;");
        due("in their order", x.text(), 1);
        x.force(1);
        due("drinks", x.asks(0), 2);
        for (int k = 0; k < 31; k++) {
            due("by five", x.feed(5, 32, 32, 32, 32, 32), 5 * k + 5);
        }
        due("by four", x.feed(4, 0, 0, 0, 0, 0), 159);
        due("no room for two", x.feed(2, 0, 0, 0, 0, 0), ThreeEmpties.FULL);
        due("none came", x.count(10), 159);
        due("BAD ahead of FULL", x.feed(2, 0, 0, 0, 0, 256), ThreeEmpties.BAD);
        due("the last", x.feed(1, 0, 0, 0, 0, 0), 160);
        due("no room", x.feed(1, 0, 0, 0, 0, 0), ThreeEmpties.FULL);
    }

    private static void text() {
        ThreeEmpties x = new ThreeEmpties();
        due("nothing", x.text(), -100);
        write(x, "drinks 1 ; worth 2 ;");
        due("too early", x.text(), -120);
        due("empty by a fault, too", x.count(10), 0);
        for (int t = 1; t < 6; t++) {
            write(x, "drinks 1;worth " + t + ";breaks 0;");
            due("text", x.text(), t);
            due("empty then", x.count(10), 0);
        }
        write(x, "?");
        due("FULL ahead of the fault", x.text(), ThreeEmpties.FULL);
        due("the tape stays", x.count(10), 1);
        due("texts", x.count(8), 6);
        for (int t = 0; t < 6; t++) {
            x.force(t);
            due("each its own", x.asks(1), t == 0 ? 5 : t);
        }
        due("no blanks", read("drinks1;worth2;breaks3;"), 1);
        due("blanks", read(" \n drinks\n1\n;\nworth 2 ; breaks 3 ; \n "), 1);
        due("the longest", read("drinks 1" + " ".repeat(128) + ";worth 5;" + "breaks    100 ;"), 1);
    }

    private static void faults() {
        fault("?", 0);
        fault("worth 1;", 0);
        fault("drink 1;", 0);
        fault("drinkss 1;", 0);
        fault("drinks", 6);
        fault("drinks  ", 8);
        fault("drinks ;", 7);
        fault("drinks 1", 8);
        fault("drinks 1;drinks 2;", 9);
        fault("drinks 1;breaks 2;", 9);
        fault("drinks 1;worth 2;breaks 3; x", 27);
        fault("drinks 1;worth 2;breaks 3;;", 26);
        fault("drinks 1;worth 2;breaks 3", 25);
        fault("drinks 1\t;", 8);
        fault("drinks 1\r;", 8);
        fault("drinks A;", 7);
        fault("drinks 1 /2;", 9);
        fault("drinks 10000;", 7);
        fault("drinks 00001;", 7);
        fault("drinks 1 12345;", 9);
        fault("drinks foo;", 7);
        fault("drinks daynot;", 7);
        fault("drinks 1 foo;", 9);
        fault("drinks day drunk;", 11);
        fault("drinks worth;", 7);
        fault("drinks or;", 7);
        fault("drinks 1 or;", 11);
        fault("drinks 1 + not 2;", 11);
        fault("drinks - not 2;", 9);
        fault("drinks 1 = not 2;", 11);
        fault("drinks 1 = 2 = 3;", 13);
        fault("drinks 1 < 2 < 3;", 13);
        fault("drinks 1 = 2 < 3;", 13);
        fault("drinks + 1;", 7);
        fault("drinks * 1;", 7);
        fault("drinks 1 * * 1;", 11);
        fault("drinks 1 not 2;", 9);
        fault("drinks (1;", 9);
        fault("drinks 1);", 8);
        fault("drinks ();", 8);
        fault("drinks (1)(2);", 10);
        fault("drinks 1 2;", 9);
        fault("drinks 1and 2 or;", 16);
        fault("drinks not;", 10);
        fault("drinks 12day;", 9);
        fault("brinks 1;", 0);
        fault("drinkt 1;", 0);
        fault("drinks dayz;", 7);
        fault("drinks aday;", 7);
        fault("drinks 1;worth 2;breaks 3;\0", 26);
        fault("drinks \0 1;", 7);
        // The bytes above 127 begin no token either.
        ThreeEmpties x = new ThreeEmpties();
        write(x, "drinks ");
        x.feed(2, 233, 97, 0, 0, 0);
        due("233", x.text(), -107);
        due("a NUMBER of four", read("drinks 0001;worth 9999;breaks 0;"), 1);
        due("a NUMBER and a WORD", read("drinks 1or 2and 3;worth 9;breaks 0;"), 1);
    }

    private static void depth() {
        says("(((((7)))))", 7);
        says("-----7", 0);
        says("------7".substring(1) + "+9+5", 7);
        says("not not not not not 7", 0);
        says("(-(-(7)))", 7);
        says("not(not(-7))", 1);
        fault("drinks not(not(-(-7)));", 16);
        fault("drinks ((((((7))))));", 12);
        fault("drinks ------7;", 12);
        fault("drinks not not not not not not 7;", 27);
        fault("drinks (-(-(-7)));", 12);
        fault("drinks not((((-7))));", 14);
        fault("drinks not 1 = ((((( 1;", 19);
        // A NUMBER may stand while five are open; what has ended is open no more.
        says("((((1))))+((((2))))", 3);
        says("----1+(((((2)))))", 3);
        says("not 0 and (((((2)))))", 1);
        says("not 0 or not not not not not 1", 1);
        fault("drinks not 0 + (((((2)))));", 19);
        says("(((((5-2)))))", 3);
        fault("drinks (((((-2)))));", 12);
        fault("drinks 2 * - - - - - (3);", 21);
    }

    private static void meaning() {
        says("1+2*3", 7);
        says("(1+2)*3", 9);
        says("9-3-2", 4);
        says("9-3*2", 3);
        says("2*3*4", 24);
        says("-3+10", 7);
        says("10--3", 13);
        says("10*-3+40", 10);
        says("-2*-3", 6);
        says("2<3", 1);
        says("3<3", 0);
        says("3=3", 1);
        says("3=4", 0);
        says("1+1=2", 1);
        says("7*(2<3)", 7);
        says("5 or 0", 1);
        says("0 or 0", 0);
        says("0 or 7 or 0", 1);
        says("5 and 7", 1);
        says("5 and 0", 0);
        says("1 or 0 and 0", 1);
        says("(1 or 0) and 0", 0);
        says("not 5", 0);
        says("not 0", 1);
        says("not 1 < 0", 1);
        says("not 3 = 4 and 1", 1);
        says("not 0 and 0", 0);
        says("not not 9", 1);
        says("7", 7);
        says("-1 and 1", 1);
        says("9999*9999*9999=0", 0);
        // 9999 cubed and squared wraps: 2^16 * 2^16 is 0, 2^31 is below 0.
        says("(256*256)*(256*256)=0", 1);
        says("256*256*256*128<0", 1);
        says("256*256*256*128-1 < 0", 0);
        says("-(256*256*256*128)<0", 1);
        ThreeEmpties x = new ThreeEmpties();
        for (int what = 0; what <= 6; what++) {
            x.set(what, 11 + what);
        }
        says("full", x, 11);
        says("empty", x, 12);
        says("cork", x, 13);
        says("label", x, 14);
        says("drunk", x, 16);
        ThreeEmpties y = new ThreeEmpties();
        y.set(6, 17);
        says("day", y, 17);
    }

    private static void force() {
        ThreeEmpties x = new ThreeEmpties();
        due("1", x.force(1), ThreeEmpties.BAD);
        due("-1", x.force(-1), ThreeEmpties.BAD);
        due("0", x.force(0), 0);
        write(x, "drinks 2;worth 1;breaks 3;");
        x.text();
        due("not the law by itself", x.asks(0), 1);
        due("which was", x.force(1), 0);
        due("which was", x.force(1), 1);
        due("the law", x.asks(0), 2);
        due("2", x.force(2), ThreeEmpties.BAD);
        due("as it was", x.count(9), 1);
        due("which was", x.force(0), 1);
    }

    private static void asks() {
        ThreeEmpties x = new ThreeEmpties();
        due("drinks", x.asks(0), 1);
        due("worth", x.asks(1), 5);
        due("breaks", x.asks(2), 10);
        due("3", x.asks(3), ThreeEmpties.BAD);
        due("-1", x.asks(-1), ThreeEmpties.BAD);
        x = under("drinks 4;worth 100;breaks 101;");
        due("most drinks", x.asks(0), 3);
        due("most worth", x.asks(1), 99);
        due("most breaks", x.asks(2), 100);
        x = under("drinks 0-1;worth -1;breaks 2-5;");
        due("least drinks", x.asks(0), 0);
        due("least worth", x.asks(1), 0);
        due("least breaks", x.asks(2), 0);
        x = under("drinks full;worth day;breaks label+cork;");
        x.set(0, 2);
        x.set(6, 98);
        x.set(2, 40);
        x.set(3, 41);
        due("now", x.asks(0), 2);
        due("now", x.asks(1), 98);
        due("now", x.asks(2), 81);
    }

    private static void rate() {
        ThreeEmpties x = new ThreeEmpties();
        due("kind", x.rate(6, 13, 0), ThreeEmpties.BAD);
        due("kind", x.rate(-1, 13, 0), ThreeEmpties.BAD);
        due("more", x.rate(0, 13, 10), ThreeEmpties.BAD);
        due("more", x.rate(0, 13, -1), ThreeEmpties.BAD);
        for (int st : new int[] {-13, 0, 9, 10, 20, 30, 40, 41, 113, Integer.MIN_VALUE, Integer.MAX_VALUE}) {
            due("sort and told " + st, x.rate(0, st, 0), ThreeEmpties.BAD);
        }
        due("none came", x.count(7), 0);
        int[] st = {11, 19, 25, 31, 39};
        for (int r = 0; r < 5; r++) {
            due("rate", x.rate(r, st[r], 2 * r), r);
        }
        for (int r = 0; r < 5; r++) {
            due("kind", x.told(r, 0), r);
            due("sort", x.told(r, 1), st[r] / 10);
            due("told", x.told(r, 2), st[r] % 10);
            due("more", x.told(r, 3), 2 * r);
        }
        due("full", x.rate(0, 11, 0), ThreeEmpties.FULL);
        due("BAD ahead of FULL", x.rate(6, 11, 0), ThreeEmpties.BAD);
    }

    private static void change() {
        ThreeEmpties x = new ThreeEmpties();
        due("none", x.change(0, 0, 0), -5);
        due("none ahead of -7", x.change(0, 6, 10), -5);
        x.rate(2, 24, 3);
        due("-1", x.change(-1, 0, 0), -5);
        due("1", x.change(1, 0, 0), -5);
        due("kind", x.change(0, 6, 0), -7);
        due("kind", x.change(0, -1, 0), -7);
        due("more", x.change(0, 0, 10), -7);
        due("more", x.change(0, 0, -1), -7);
        due("as it was", x.told(0, 3), 3);
        due("the kind that it was", x.change(0, 5, 9), 2);
        due("kind", x.told(0, 0), 5);
        due("more", x.told(0, 3), 9);
        due("sort stays", x.told(0, 1), 2);
        due("told stays", x.told(0, 2), 4);
        due("the kind that it was", x.change(0, 5, 0), 5);
        due("takes", x.told(0, 4), 3);
    }

    private static void told() {
        ThreeEmpties x = new ThreeEmpties();
        due("none", x.told(0, 0), -5);
        due("none ahead of -7", x.told(0, 9), -5);
        x.rate(0, 17, 3);
        due("7", x.told(0, 7), -7);
        due("-1", x.told(0, -1), -7);
        due("-1", x.told(-1, 0), -5);
        ofKind(x, 0, 3, 4, 7, 1, 0);
        ofKind(x, 1, 3, 4, 7, 1, 1);
        ofKind(x, 2, 3, 4, 7, 1, 0);
        ofKind(x, 2, 3, 5, 10, 1, 0);
        ofKind(x, 3, 3, 4, 7, 2, 4);
        ofKind(x, 3, 9, 5, 7, 2, 10);
        ofKind(x, 4, 3, 4, 7, 0, 0);
        ofKind(x, 4, 3, 3, 10, 2, 0);
        ofKind(x, 4, 3, 10, 7, 2, 0);
        ofKind(x, 4, 9, 2, 7, 2, 0);
        ofKind(x, 4, 9, 9, 16, 2, 0);
        ofKind(x, 4, 9, 7, 16, 0, 0);
        ofKind(x, 5, 3, 2, 7, 1, 0);
        ofKind(x, 5, 3, 3, 6, 1, 0);
        ofKind(x, 5, 3, 99, 6, 1, 0);
        x.rate(3, 25, 1);
        due("a CLUB that takes five", x.told(1, 5), 1);
        due("it lends", x.told(1, 6), 2);
        x.rate(3, 26, 0);
        due("a CLUB that takes six", x.told(2, 5), 2);
        due("it lends", x.told(2, 6), 1);
        x.rate(5, 31, 0);
        due("1 at least", x.told(3, 4), 1);
    }

    private static void ofKind(ThreeEmpties x, int kind, int more, int day, int takes, int gives, int lends) {
        x.change(0, kind, more);
        x.set(6, day);
        String who = "kind " + kind + " more " + more + " day " + day;
        due(who + " takes", x.told(0, 4), takes);
        due(who + " gives", x.told(0, 5), gives);
        due(who + " lends", x.told(0, 6), lends);
    }

    private static void can() {
        ThreeEmpties x = new ThreeEmpties();
        due("-1", x.can(-1), -5);
        due("no rate", x.can(1), -5);
        due("nothing to drink", x.can(0), 0);
        x.set(0, 1);
        due("one", x.can(0), 1);
        x.set(5, 999);
        due("drunk", x.can(0), 0);
        x.set(5, 998);
        due("one more", x.can(0), 1);
        for (int sort = 1; sort <= 3; sort++) {
            x.rate(0, 10 * sort + 3, 0);
            x.set(sort, 2);
            due("too few", x.can(sort), 0);
            x.set(sort, 3);
            due("enough", x.can(sort), 1);
            x.set(0, 999);
            due("no room", x.can(sort), 0);
            x.set(0, 998);
            due("room", x.can(sort), 1);
            x.change(sort - 1, 1, 0);
            x.set(sort, 2);
            due("of empties one may lack", x.can(sort), sort == 1 ? 1 : 0);
            x.set(4, 1);
            due("owed", x.can(sort), 0);
            x.set(4, 0);
            x.set(sort, 0);
        }
        x.rate(3, 16, 9);
        x.set(0, 0);
        due("a CLUB lends ten", x.can(4), 1);
        x.set(4, 4);
        due("ten less four", x.can(4), 1);
        x.set(4, 5);
        due("ten less five", x.can(4), 0);
        x.set(1, 6);
        x.set(4, 99);
        due("who has enough needs no lending", x.can(4), 1);
        x.set(0, 998);
        due("room for one, two come", x.can(4), 0);
        x.set(0, 997);
        due("room for two", x.can(4), 1);
        x.rate(4, 31, 3);
        x.set(3, 9);
        due("shut", x.can(5), 0);
        x.set(6, 3);
        due("open", x.can(5), 1);
        due("no further rate", x.can(6), -5);
        due("far", x.can(Integer.MIN_VALUE), -5);
        due("far", x.can(Integer.MAX_VALUE), -5);
    }

    private static void stands(ThreeEmpties x, int... want) {
        for (int what = 0; what < want.length; what++) {
            due("stands " + what, x.count(what), want[what]);
        }
    }

    private static void move() {
        ThreeEmpties x = new ThreeEmpties();
        due("nothing", x.move(0), ThreeEmpties.STATE);
        due("none such", x.move(1), -5);
        due("none such", x.move(-1), -5);
        x.set(0, 2);
        due("drunk", x.move(0), 1);
        stands(x, 1, 1, 1, 1, 0, 1, 0);
        x.set(4, 1);
        due("drunk", x.move(0), 2);
        stands(x, 0, 1, 2, 2, 0, 2, 0);
        x.rate(1, 12, 0);
        due("with one lent", x.move(1), 2);
        stands(x, 1, 0, 2, 2, 1, 2, 0);
        x.rate(0, 22, 0);
        due("corks", x.move(2), 2);
        stands(x, 2, 0, 0, 2, 1, 2, 0);
        x.rate(3, 36, 0);
        due("too few labels", x.move(3), ThreeEmpties.STATE);
        x.set(3, 7);
        due("labels", x.move(3), 2);
        stands(x, 4, 0, 0, 1, 1, 2, 0);
        ThreeEmpties y = under("drinks full+1;worth 1;breaks 100;");
        y.set(0, 2);
        y.set(4, 2);
        due("as drinks says ahead", y.move(0), 1);
        stands(y, 1, 1, 1, 1, 0, 1, 0);
        y.set(1, 998);
        y.set(2, 999);
        y.set(3, 999);
        y.set(5, 998);
        due("999 at most", y.move(0), 999);
        stands(y, 0, 999, 999, 999, 0, 999, 0);
        y = under("drinks 0;worth 1;breaks 1;");
        y.set(0, 1);
        y.set(4, 3);
        y.move(0);
        stands(y, 0, 0, 1, 1, 3, 1, 0);
        y = under("drinks 3;worth 1;breaks 1;");
        y.set(0, 1);
        y.set(4, 5);
        y.move(0);
        stands(y, 0, 0, 1, 1, 2, 1, 0);
    }

    private static void all() {
        ThreeEmpties x = new ThreeEmpties();
        x.set(0, 9);
        x.rate(0, 13, 0);
        int[] want = {13, 17, 0, 1, 13, 13, 0};
        for (int what = 0; what <= 6; what++) {
            due("all " + what, x.all(what), want[what]);
        }
        due("7", x.all(7), ThreeEmpties.BAD);
        due("-1", x.all(-1), ThreeEmpties.BAD);
        stands(x, 9, 0, 0, 0, 0, 0, 0);
        x.set(0, 999);
        due("at the latest behind 200", x.all(1), 200);
        due("drunk", x.all(0), 200);
        due("fulls", x.all(2), 799);
        x.set(0, 1);
        x.change(0, 1, 0);
        x.set(1, 1);
        due("owes", x.all(6), 0);
        due("drunk", x.all(0), 2);
        x.set(1, 2);
        due("drunk, two lent", x.all(0), 2);
    }

    private static void go() {
        ThreeEmpties x = new ThreeEmpties();
        due("-1", x.go(-1), ThreeEmpties.BAD);
        due("201", x.go(201), ThreeEmpties.BAD);
        due("nothing to do", x.go(200), 0);
        x.rate(0, 13, 0);
        x.set(0, 3);
        due("0", x.go(0), 0);
        stands(x, 3, 0, 0, 0, 0, 0, 0);
        due("2", x.go(2), 2);
        stands(x, 1, 2, 2, 2, 0, 2, 0);
        due("2", x.go(2), 2);
        stands(x, 1, 0, 3, 3, 0, 3, 0);
        due("the rest", x.go(200), 1);
        stands(x, 0, 1, 4, 4, 0, 4, 0);
        x.set(0, 999);
        due("200", x.go(200), 200);
        due("drunk", x.count(5), 204);
    }

    private static void next() {
        ThreeEmpties x = new ThreeEmpties();
        due("-1", x.next(-1), ThreeEmpties.BAD);
        due("200", x.next(200), ThreeEmpties.BAD);
        due("none", x.next(0), -1);
        x.rate(4, 11, 3);
        x.rate(0, 22, 0);
        x.rate(0, 12, 0);
        x.set(0, 2);
        // Two to drink, corks ahead of empties; the MONDAY is shut.
        int[] want = {0, 0, 2, 0, 3, 0, 2, 0, 3, 0, 2, 0, -1, -1};
        x.set(2, 0);
        for (int k = 0; k < 4; k++) {
            due("next " + k, x.next(k), want[k]);
        }
        due("empties", x.next(4), 3);
        stands(x, 2, 0, 0, 0, 0, 0, 0);
        x.set(0, 999);
        due("the last", x.next(199), 0);
        x.set(5, 999);
        x.set(1, 9);
        due("no room", x.next(0), -1);
        x.set(0, 998);
        due("an exchange", x.next(0), 3);
        due("no room then", x.next(1), -1);
    }

    private static void best() {
        ThreeEmpties x = new ThreeEmpties();
        due("7", x.best(7, 0), ThreeEmpties.BAD);
        due("-1", x.best(-1, 0), ThreeEmpties.BAD);
        due("what", x.best(1, 2), ThreeEmpties.BAD);
        due("what", x.best(1, -1), ThreeEmpties.BAD);
        due("nothing", x.best(6, 0), 0);
        due("none", x.best(6, 1), 0);
        x.rate(0, 11, 0);
        x.set(0, 2);
        due("0 moves", x.best(0, 0), 0);
        due("0 moves", x.best(0, 1), 0);
        due("six", x.best(6, 0), 20);
        due("the first of like rows", x.best(6, 1), 112121);
        due("a row ahead of those that go on so", x.best(3, 1), 11);
        stands(x, 2, 0, 0, 0, 0, 0, 0);
        // Worth is told ahead of each: it is better to exchange first here.
        x = under("drinks 1;worth full*full;breaks 0;");
        x.rate(0, 21, 0);
        x.set(0, 1);
        x.set(2, 2);
        due("most", x.best(3, 0), 9);
        due("exchanges first", x.best(3, 1), 221);
        due("most of one", x.best(1, 0), 1);
        due("most of two", x.best(2, 0), 4);
        due("two", x.best(2, 1), 21);
        due("four", x.best(4, 0), 13);
        due("four", x.best(4, 1), 2211);
        x = under("drinks 1;worth 0;breaks 0;");
        x.set(0, 5);
        due("none is above 0", x.best(6, 0), 0);
        due("none", x.best(6, 1), 0);
    }

    private static void least() {
        ThreeEmpties x = new ThreeEmpties();
        due("goal", x.least(-1, 0), ThreeEmpties.BAD);
        due("goal", x.least(1000, 0), ThreeEmpties.BAD);
        due("how", x.least(1, 2), ThreeEmpties.BAD);
        due("how", x.least(1, -1), ThreeEmpties.BAD);
        due("60", x.least(60, 0), 60);
        due("61", x.least(61, 0), -1);
        due("0", x.least(0, 0), 0);
        due("0 bare", x.least(0, 1), 0);
        due("1 bare", x.least(1, 1), -1);
        x.rate(1, 13, 0);
        x.set(0, 999);
        x.set(5, 4);
        due("with what one has drunk", x.least(7, 0), 2);
        due("bare", x.least(4, 1), 0);
        due("two are three, and bare", x.least(5, 1), 2);
        due("four are six, and bare", x.least(8, 1), 4);
        x.set(4, 1);
        due("owes one", x.least(4, 1), 1);
        stands(x, 999, 0, 0, 0, 1, 4, 0);
        // It ends with fulls still there: these are not bare.
        x = under("drinks 0;worth 0;breaks 0;");
        x.set(5, 990);
        due("nine at most are drunk", x.least(999, 1), 9);
        x.set(5, 999);
        due("bare at once", x.least(999, 1), 0);
        x.set(1, 1);
        due("an empty stays", x.least(0, 1), -1);
    }

    private static void bought() {
        ThreeEmpties x = new ThreeEmpties();
        due("much", x.bought(-1, 0), ThreeEmpties.NO);
        due("much", x.bought(1000, 0), ThreeEmpties.NO);
        due("empties", x.bought(0, -1), ThreeEmpties.NO);
        due("empties", x.bought(0, 1000), ThreeEmpties.NO);
        due("60", x.bought(60, 60), 1L << 60);
        due("61", x.bought(61, 61), 0);
        due("0", x.bought(0, 0), 1);
        due("other empties", x.bought(7, 6), 0);
        due("999 is a number", x.bought(999, 999), 0);
        x.rate(0, 13, 0);
        x.set(0, 50);
        due("nine", x.bought(13, 1), 1 << 9);
        x.set(5, 995);
        due("what is more stays full", x.bought(999, 0), 0);
        due("two", x.bought(997, 2), 1 << 2);
        due("three or more", x.bought(999, 1), (1L << 61) - 8);
        x = under("drinks 0;worth 0;breaks 0;");
        x.set(5, 940);
        due("59 and 60", x.bought(999, 0), 3L << 59);
        stands(x, 0, 0, 0, 0, 0, 940, 0);
    }

    private static void friends() {
        ThreeEmpties x = new ThreeEmpties();
        for (int bad : new int[] {-1, 61, Integer.MIN_VALUE, Integer.MAX_VALUE}) {
            due("a", x.friends(bad, 0), -100000);
            due("b", x.friends(0, bad), -100000);
        }
        due("no rate", x.friends(60, 60), 0);
        x.rate(0, 13, 0);
        due("two and two", x.friends(2, 2), 1);
        due("one and two", x.friends(1, 2), 1);
        due("one and one", x.friends(1, 1), 0);
        due("one and nobody", x.friends(1, 0), 0);
        due("nobody and one", x.friends(0, 1), 0);
        x.set(0, 40);
        x.set(5, 7);
        due("as if these were all", x.friends(2, 2), 1);
        x.set(1, 2);
        // 1 alone: drinks 2; 1 and 1: 2 + 1 for 4 empties, 1 left and drunk 1 = 3 - 4.
        due("with empties", x.friends(1, 1), -1);
        stands(x, 40, 2, 0, 0, 0, 7, 0);
    }

    private static void worth() {
        ThreeEmpties x = new ThreeEmpties();
        due("none", x.worth(0), -100000);
        due("none", x.worth(-1), -100000);
        x.rate(0, 13, 0);
        x.rate(0, 13, 0);
        x.set(0, 9);
        due("two alike", x.worth(0), 0);
        due("two alike", x.worth(1), 0);
        due("none", x.worth(2), -100000);
        x.change(1, 4, 1);
        due("the other one shut", x.worth(0), 4);
        due("shut", x.worth(1), 0);
        // A dear rate that comes first spoils the cheap one.
        ThreeEmpties y = new ThreeEmpties();
        y.rate(0, 14, 0);
        y.rate(0, 12, 0);
        y.set(0, 5);
        due("dear", y.worth(0), -2);
        due("cheap", y.worth(1), 1);
        due("rates stay", y.count(7), 2);
        stands(y, 5, 0, 0, 0, 0, 0, 0);
    }

    private static void never() {
        ThreeEmpties x = new ThreeEmpties();
        due("what", x.never(2), ThreeEmpties.BAD);
        due("what", x.never(-1), ThreeEmpties.BAD);
        due("none", x.never(0), -1);
        due("none", x.never(1), 0);
        x.rate(0, 13, 0);
        x.rate(0, 22, 0);
        x.rate(0, 32, 0);
        due("one of corks, one of labels", x.never(0), 11);
        // 3 with no empties, 7, 6, 1 with one, two, three times the first rate.
        due("how many", x.never(1), 17);
        x.change(1, 2, 9);
        x.set(6, 1);
        due("dearer today", x.never(0), -1);
        due("dearer today", x.never(1), 0);
        ThreeEmpties y = new ThreeEmpties();
        y.rate(0, 12, 0);
        y.rate(0, 22, 0);
        due("one of each", y.never(0), 11);
        due("three rows", y.never(1), 3);
        y.rate(4, 31, 2);
        due("the third is shut", y.never(1), 3);
        y.set(6, 2);
        due("first", y.never(0), 1);
        // Of a, b, c with 2a, 2b, c at most a + b + 2c: counted by hand in neverByHand().
        due("how many", y.never(1), neverByHand());
        ThreeEmpties z = under("drinks full;worth 1;breaks 0;");
        z.rate(0, 13, 0);
        due("drinks now: 0", z.never(0), -1);
        z.set(0, 3);
        due("drinks now: 3", z.never(0), 1);
        due("drinks now: 3", z.never(1), 3);
        z.rate(1, 19, 0);
        due("lending is no help", z.never(0), 10);
    }

    private static int neverByHand() {
        int rows = 0;
        for (int a = 0; a <= 3; a++) {
            for (int b = 0; b <= 3; b++) {
                for (int c = 0; c <= 3; c++) {
                    int fulls = a + b + 2 * c;
                    rows += fulls > 0 && 2 * a <= fulls && 2 * b <= fulls && c <= fulls ? 1 : 0;
                }
            }
        }
        return rows;
    }

    private static void when() {
        ThreeEmpties x = new ThreeEmpties();
        due("what", x.when(2), ThreeEmpties.BAD);
        due("what", x.when(-1), ThreeEmpties.BAD);
        due("like ones", x.when(0), 0);
        due("like ones", x.when(1), 0);
        x.rate(4, 11, 2);
        x.set(1, 1);
        due("the first monday", x.when(0), 2);
        x.set(6, 3);
        due("the next monday is odd, and dear", x.when(0), 13);
        x.set(6, 2);
        due("today", x.when(0), 0);
        x.set(6, 0);
        x.change(0, 5, 9);
        x.set(1, 0);
        x.rate(5, 22, 9);
        x.set(2, 1);
        due("nine days more", x.when(0), 9);
        due("drunk", x.when(1), 100);
        // The law is told of that day, too; 13 days more are the last looked at.
        ThreeEmpties y = under("drinks day=23;worth 0;breaks 0;");
        y.rate(0, 11, 0);
        y.set(0, 1);
        y.set(6, 10);
        due("13 more", y.when(0), 13);
        due("drunk", y.when(1), 100);
        y.set(6, 9);
        due("14 more are none", y.when(0), 0);
        due("drunk", y.when(1), 1);
        // Days above 99 are thought of.
        ThreeEmpties z = under("drinks day=101;worth 0;breaks 0;");
        z.rate(0, 11, 0);
        z.set(0, 1);
        z.set(6, 99);
        due("two more", z.when(0), 2);
        stands(z, 1, 0, 0, 0, 0, 0, 99);
    }

    private static void tell(ThreeEmpties x, int s, int sort, int... numbers) {
        due("sheet", x.sheet(s, sort, numbers.length), 1);
        for (int i = 0; i < numbers.length; i++) {
            due("cell", x.cell(s, i, numbers[i]), 1);
        }
    }

    private static void judge() {
        ThreeEmpties x = new ThreeEmpties();
        due("4", x.judge(4), ThreeEmpties.BAD);
        due("-1", x.judge(-1), ThreeEmpties.BAD);
        due("missing", x.judge(0), -11);
        x.rate(0, 12, 0);
        x.set(0, 2);
        tell(x, 0, 2);
        due("no moves", x.judge(0), -1);
        tell(x, 1, 0, 0, 0, 1, 0);
        due("can be", x.judge(1), -1);
        tell(x, 2, 1, 0, 1, 0);
        due("too few empties", x.judge(2), 1);
        tell(x, 3, 2, 0, 2, 0);
        due("no such move", x.judge(3), 1);
        tell(x, 3, 2, -1, 0, 0);
        due("no such move", x.judge(3), 0);
        tell(x, 3, 0, 0, 0, 0, 0);
        due("no third", x.judge(3), 2);
        tell(x, 3, 0, 256, 0, 257);
        due("bytes", x.judge(3), -1);
        tell(x, 3, 1, 256, 0, 257);
        due("shorts", x.judge(3), 0);
        stands(x, 2, 0, 0, 0, 0, 0, 0);
    }

    private static void behind() {
        ThreeEmpties x = new ThreeEmpties();
        due("4", x.behind(4, 9), ThreeEmpties.BAD);
        due("missing ahead of -7", x.behind(0, 9), -11);
        x.rate(1, 13, 0);
        x.set(0, 2);
        x.set(6, 5);
        tell(x, 0, 2, 0, 0, 1);
        int[] want = {1, 0, 2, 2, 1, 2, 5};
        for (int what = 0; what <= 6; what++) {
            due("behind " + what, x.behind(0, what), want[what]);
        }
        due("7", x.behind(0, 7), -7);
        due("-1", x.behind(0, -1), -7);
        tell(x, 0, 2, 1);
        due("-7 ahead of -9", x.behind(0, 7), -7);
        due("can't be", x.behind(0, 0), -9);
        stands(x, 2, 0, 0, 0, 0, 0, 5);
    }

    private static void film() {
        ThreeEmpties x = new ThreeEmpties();
        due("4", x.film(4, 41), ThreeEmpties.BAD);
        due("-1", x.film(-1, 0), ThreeEmpties.BAD);
        due("41", x.film(0, 41), -7);
        due("-1", x.film(0, -1), -7);
        due("still missing", x.judge(0), -11);
        x.rate(0, 13, 0);
        x.set(0, 9);
        tell(x, 0, 0, 1, 1, 1);
        due("all of them", x.film(0, 40), 17);
        due("can be", x.judge(0), -1);
        due("drunk behind them", x.behind(0, 5), 13);
        due("17 long", x.cell(0, 16, 0), 1);
        due("no longer", x.cell(0, 17, 0), -12);
        due("in thought", x.count(5), 0);
        due("ints", x.sheet(1, 2, 1), 1);
        due("ints", x.copy(0, 9, 1, 0, 1), 1);
        due("the tenth is an exchange", x.judge(1), 0);
        due("some", x.film(2, 10), 10);
        due("behind", x.behind(2, 0), 1);
        due("none", x.film(3, 0), 0);
        due("an empty row", x.judge(3), -1);
        x.set(0, 0);
        due("no move to film", x.film(3, 5), 0);
        due("an empty row", x.cell(3, 0, 0), -12);
        due("an empty row", x.judge(3), -1);
        x.set(0, 999);
        due("40", x.film(3, 40), 40);
        due("40 long", x.cell(3, 39, 70000), 1);
        due("an int", x.judge(3), 39);
    }

    private static void laws() {
        ThreeEmpties x = new ThreeEmpties();
        due("-1", x.laws(-1), ThreeEmpties.BAD);
        due("1000", x.laws(1000), ThreeEmpties.BAD);
        due("text 0", x.laws(0), 1);
        due("no text", x.laws(1), 0);
        x.rate(0, 13, 0);
        x.set(0, 3);
        write(x, "drinks 0;worth 0;breaks 0;");
        x.text();
        write(x, "drinks 3;worth 0;breaks 0;");
        x.text();
        write(x, "drinks drunk<9;worth 0;breaks 0;");
        x.text();
        due("four", x.laws(4), 1 | 8);
        due("three", x.laws(3), 2);
        due("never ending", x.laws(101), 4);
        due("the law stays", x.count(9), 0);
        x.set(5, 999);
        due("999", x.laws(999), 15);
        x.set(5, 0);
        stands(x, 3, 0, 0, 0, 0, 0, 0);
    }

    private static void drawn() {
        ThreeEmpties x = new ThreeEmpties();
        due("seed", x.drawn(-1, 0), ThreeEmpties.BAD);
        due("seed", x.drawn(100000, 0), ThreeEmpties.BAD);
        due("most", x.drawn(0, -1), ThreeEmpties.BAD);
        due("most", x.drawn(0, 201), ThreeEmpties.BAD);
        x.rate(0, 13, 0);
        x.set(0, 9);
        due("by lot", x.drawn(7, 60), 12);
        due("none", x.drawn(7, 0), 0);
        due("five", x.drawn(99999, 5), 5);
        due("200", x.drawn(0, 200) >= 9 ? 1 : 0, 1);
        stands(x, 9, 0, 0, 0, 0, 0, 0);
        // The first lot of seed 0 is 48271, modulo 100: 71. The second one: 2330089441 less 2147483647, 94.
        ThreeEmpties y = under("drinks 1;worth 0;breaks 71;");
        y.rate(0, 12, 0);
        y.set(0, 2);
        due("not below 71, nor is 94", y.drawn(0, 200), 3);
        ThreeEmpties z = under("drinks 1;worth 0;breaks 72;");
        z.rate(0, 12, 0);
        z.set(0, 2);
        due("the first breaks", z.drawn(0, 200), 2);
        ThreeEmpties none = under("drinks drunk=1;worth 0;breaks 100*(drunk=0);");
        none.rate(0, 11, 0);
        none.set(0, 2);
        due("there is no empty to break", none.drawn(0, 200), 3);
        due("breaks by drunk", brokenWhile("drunk"), 1);
        due("told ahead of the move", brokenWhile("100*(drunk=0)"), 0);
        due("told ahead of the move", brokenWhile("100*(drunk=1)"), 1);
    }

    /** One full and a rate of one empty: does the first drinking leave an empty, by lots of seed 0? */
    private static int brokenWhile(String breaks) {
        ThreeEmpties x = under("drinks drunk<1;worth 0;breaks " + breaks + ";");
        x.rate(0, 11, 0);
        x.set(0, 1);
        return x.drawn(0, 200) - 1;
    }

    private static void mean() {
        ThreeEmpties x = new ThreeEmpties();
        due("seed", x.mean(-1, 1, 1, 0), ThreeEmpties.NO);
        due("seed", x.mean(100000, 1, 1, 0), ThreeEmpties.NO);
        due("seeds", x.mean(0, 0, 1, 0), ThreeEmpties.NO);
        due("seeds", x.mean(0, 31, 1, 0), ThreeEmpties.NO);
        due("most", x.mean(0, 1, -1, 0), ThreeEmpties.NO);
        due("most", x.mean(0, 1, 201, 0), ThreeEmpties.NO);
        due("part", x.mean(0, 1, 1, 2), ThreeEmpties.NO);
        due("part", x.mean(0, 1, 1, -1), ThreeEmpties.NO);
        due("nothing", x.mean(0, 30, 200, 0), 0);
        due("nothing over one", x.mean(0, 30, 200, 1), 1);
        x.rate(0, 13, 0);
        x.set(0, 9);
        due("above", x.mean(5, 12, 40, 0), 73);
        due("below", x.mean(5, 12, 40, 1), 6);
        int sum = 0;
        for (int seed = 99970; seed <= 99999; seed++) {
            sum += x.drawn(seed, 60);
        }
        long above = x.mean(99970, 30, 60, 0);
        long below = x.mean(99970, 30, 60, 1);
        due("the same mean", above * 30, sum * below);
        due("seed alone is held to its bounds", x.mean(99999, 30, 60, 0) > 0 ? 1 : 0, 1);
        due("no moves", x.mean(0, 30, 0, 1), 1);
        due("one seed", x.mean(7, 1, 60, 0), 12);
        due("one seed", x.mean(7, 1, 60, 1), 1);
        stands(x, 9, 0, 0, 0, 0, 0, 0);
    }

    private static void image() {
        ThreeEmpties x = new ThreeEmpties();
        due("none", x.image(), 0);
        x.rate(0, 13, 0);
        x.rate(0, 13, 0);
        due("two", x.image(), 2);
        x.set(0, 5);
        due("the last one is kept", x.image(), 2);
        x.set(0, 6);
        x.back();
        due("kept", x.count(0), 5);
    }

    private static void back() {
        ThreeEmpties x = new ThreeEmpties();
        due("none", x.back(), ThreeEmpties.STATE);
        for (int what = 0; what <= 6; what++) {
            x.set(what, what + 3);
        }
        x.rate(2, 13, 4);
        x.image();
        write(x, "drinks 3;worth 3;breaks 3;");
        x.text();
        x.force(1);
        for (int what = 0; what <= 6; what++) {
            x.set(what, 0);
        }
        x.change(0, 5, 6);
        x.rate(1, 22, 0);
        tell(x, 0, 2, 0);
        write(x, "abc");
        due("one rate", x.back(), 1);
        stands(x, 3, 4, 5, 6, 7, 8, 9, 1, 2, 0, 3);
        due("kind", x.told(0, 0), 2);
        due("more", x.told(0, 3), 4);
        due("the later one is none", x.told(1, 0), -5);
        due("sheets stay", x.judge(0), -1);
        due("its place is free", x.rate(3, 39, 9), 1);
        due("sort and told of the new one", x.told(1, 1) * 10 + x.told(1, 2), 39);
        x.change(1, 0, 0);
        due("again", x.back(), 1);
        due("text 1 is there still", x.force(1), 0);
    }

    private static void sheet() {
        ThreeEmpties x = new ThreeEmpties();
        due("4", x.sheet(4, 0, 0), ThreeEmpties.BAD);
        due("-1", x.sheet(-1, 0, 0), ThreeEmpties.BAD);
        due("sort", x.sheet(0, 3, 0), ThreeEmpties.BAD);
        due("sort", x.sheet(0, -2, 0), ThreeEmpties.BAD);
        due("41", x.sheet(0, 0, 41), ThreeEmpties.BAD);
        due("below", x.sheet(0, 0, -1), -14);
        due("BAD ahead of -14", x.sheet(0, 3, -1), ThreeEmpties.BAD);
        due("nothing changed", x.judge(0), -11);
        for (int sort = 0; sort < 3; sort++) {
            due("40", x.sheet(sort, sort, 40), 1);
            due("the last", x.cell(sort, 39, 1), 1);
            due("none further", x.cell(sort, 40, 1), -12);
        }
        due("missing, n does not matter", x.sheet(2, -1, 99), 1);
        due("missing", x.cell(2, 0, 1), -11);
        x.set(0, 1);
        tell(x, 3, 2, 7);
        due("all 0", x.sheet(3, 2, 1), 1);
        due("all 0", x.judge(3), -1);
        due("4, missing", x.sheet(4, -1, 0), ThreeEmpties.BAD);
    }

    private static void cell() {
        ThreeEmpties x = new ThreeEmpties();
        due("4", x.cell(4, 0, 0), ThreeEmpties.BAD);
        due("-1", x.cell(-1, 0, 0), ThreeEmpties.BAD);
        due("missing", x.cell(0, 0, 0), -11);
        due("missing ahead of -12", x.cell(0, -1, 0), -11);
        x.sheet(0, 0, 2);
        due("-1", x.cell(0, -1, 0), -12);
        due("2", x.cell(0, 2, 0), -12);
        due("far", x.cell(0, Integer.MAX_VALUE, 0), -12);
        due("far", x.cell(0, Integer.MIN_VALUE, 0), -12);
        x.set(0, 2);
        int[][] fits = {{0, 256, 1}, {0, -256, 1}, {0, 65536, 1}, {0, 257, 0}, {1, 256, 0}, {1, 65536, 1},
            {1, -65536, 1}, {2, 65536, 0}, {2, 0, 1}, {0, 128, 0}, {1, 32768, 0}};
        for (int[] f : fits) {
            x.sheet(0, f[0], 1);
            due("cell", x.cell(0, 0, f[1]), 1);
            due("sort " + f[0] + " of " + f[1], x.judge(0), f[2] == 1 ? -1 : 0);
        }
    }

    private static void copy() {
        ThreeEmpties x = new ThreeEmpties();
        due("s", x.copy(4, 0, 0, 0, 0), ThreeEmpties.BAD);
        due("s", x.copy(-1, 0, 0, 0, 0), ThreeEmpties.BAD);
        due("other", x.copy(0, 0, 4, 0, 0), ThreeEmpties.BAD);
        due("other", x.copy(0, 0, -1, 0, 0), ThreeEmpties.BAD);
        x.sheet(0, 2, 5);
        due("other missing", x.copy(0, 0, 1, 0, 1), -11);
        due("s missing", x.copy(1, 0, 0, 0, 1), -11);
        x.sheet(1, 1, 5);
        due("unlike, ahead of -12", x.copy(0, -1, 1, 0, 1), -13);
        x.sheet(1, 2, 3);
        due("n below 0", x.copy(0, 0, 1, 0, -1), -12);
        due("i", x.copy(0, -1, 1, 0, 1), -12);
        due("j", x.copy(0, 0, 1, -1, 1), -12);
        due("i and n", x.copy(0, 3, 1, 0, 3), -12);
        due("j and n", x.copy(0, 0, 1, 1, 3), -12);
        due("behind the end", x.copy(0, 6, 1, 0, 0), -12);
        due("at the end", x.copy(0, 5, 1, 3, 0), 0);
        due("far", x.copy(0, Integer.MAX_VALUE, 1, 0, Integer.MAX_VALUE), -12);
        due("far", x.copy(0, 1, 1, 1, Integer.MAX_VALUE), -12);
        // Rates tell what has come where.
        tell(x, 0, 2, 1, 12, 3, 2, 23);
        due("its own", x.copy(0, 0, 0, 1, 4), 4);
        due("shown by rates", x.ratesBy(0, 2, 1, 1), 1);
        due("as they were", x.told(0, 0) * 1000 + x.told(0, 1) * 100 + x.told(0, 2) * 10 + x.told(0, 3), 1123);
        tell(x, 0, 2, 9, 9, 4, 31, 7);
        due("another's", x.copy(0, 2, 1, 0, 3), 3);
        due("back on itself", x.copy(0, 2, 0, 0, 3), 3);
        due("shown by rates", x.ratesBy(1, 2, 0, 1), 1);
        due("shown by rates", x.ratesBy(0, 2, 0, 1), 1);
        for (int r = 1; r <= 2; r++) {
            due("as it was", x.told(r, 0) * 1000 + x.told(r, 1) * 100 + x.told(r, 2) * 10 + x.told(r, 3), 4317);
        }
    }

    private static void ratesBy() {
        ThreeEmpties x = new ThreeEmpties();
        due("s", x.ratesBy(4, 2, 0, 0), ThreeEmpties.BAD);
        due("sort", x.ratesBy(0, 3, 0, 0), ThreeEmpties.BAD);
        due("sort", x.ratesBy(0, -1, 0, 0), ThreeEmpties.BAD);
        due("n", x.ratesBy(0, 2, 0, 6), ThreeEmpties.BAD);
        due("n", x.ratesBy(0, 2, 0, -1), ThreeEmpties.BAD);
        due("missing", x.ratesBy(0, 2, 0, 1), -11);
        tell(x, 0, 0, 9, 0, 13, 1, 6, 13, 1, 4, 32, 5, 0, 13);
        due("unlike", x.ratesBy(0, 2, 0, 1), -13);
        due("unlike ahead of -12", x.ratesBy(0, 1, -1, 1), -13);
        due("none", x.ratesBy(0, 0, 1, 0), 0);
        due("-1", x.ratesBy(0, 0, -1, 1), -12);
        due("far", x.ratesBy(0, 0, Integer.MAX_VALUE, 5), -12);
        due("far", x.ratesBy(0, 0, Integer.MIN_VALUE, 5), -12);
        due("nothing came", x.count(7), 0);
        due("the second is left out", x.ratesBy(0, 0, 1, 3), 2);
        due("two came", x.count(7), 2);
        due("kind", x.told(1, 0), 4);
        due("sort", x.told(1, 1), 3);
        due("told", x.told(1, 2), 2);
        due("more", x.told(1, 3), 5);
        due("a piece is no rate", x.ratesBy(0, 0, 7, 2), -12);
        due("what stood ahead came", x.count(7), 3);
        due("one short", x.ratesBy(0, 0, 10, 1), -12);
        x.sheet(1, 1, 15);
        for (int k = 0; k < 5; k++) {
            x.cell(1, 3 * k + 1, 11 + k);
        }
        due("two have room, three are left out", x.ratesBy(1, 1, 0, 5), 2);
        due("full", x.count(7), 5);
        due("the first ones", x.told(4, 2), 2);
    }

    private static void taken() {
        ThreeEmpties x = new ThreeEmpties();
        due("kind", x.taken(0, 7), ThreeEmpties.BAD);
        due("kind", x.taken(0, -1), ThreeEmpties.BAD);
        due("BAD ahead of -12", x.taken(9, 7), ThreeEmpties.BAD);
        due("-1", x.taken(-1, 0), -12);
        due("9", x.taken(9, 0), -12);
        for (int i = 0; i <= 8; i++) {
            due("nothing", x.taken(i, 6), -11);
            due("nothing", x.taken(i, 0), -11);
        }
        for (int sort = 0; sort <= 3; sort++) {
            x.set(sort, 20 + sort);
            due("how many", x.taken(sort, 6), 20 + sort);
            due("no rate", x.taken(sort, 0), -13);
        }
        String[] ones = {"0", "01", "02", "013", "024", "05"};
        x.rate(0, 13, 0);
        for (int kind = 0; kind <= 5; kind++) {
            x.change(0, kind, 0);
            for (int asked = 0; asked <= 5; asked++) {
                boolean is = ones[kind].indexOf('0' + asked) >= 0;
                due("kind " + kind + " as " + asked, x.taken(4, asked), is ? 0 : -13);
            }
            due("no sort", x.taken(4, 6), -13);
        }
        x.rate(3, 13, 0);
        due("its number", x.taken(5, 1), 1);
        x.set(0, 0);
        due("none left", x.taken(0, 6), -11);
    }
}
