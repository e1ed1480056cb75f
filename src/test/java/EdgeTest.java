import java.math.BigInteger;

/**
 * The boundaries that the document names, promise by promise: the answers on both sides of each.
 * What is refused, and changes nothing then, stands in RefusalTest; texts' edges in TextEdgeTest.
 */
public final class EdgeTest {
    private static final int NONE = -1, FULL = -4;
    private static final int[] MOST = {999, 999, 999, 999, 99, 999, 99};

    public static void main(String[] args) {
        constants();
        newObject();
        setAndCount();
        feed();
        force();
        asks();
        rate();
        change();
        kinds();
        canDrink();
        canExchange();
        drinking();
        exchanging();
        greedily();
        goAndNext();
        best();
        bestOrder();
        least();
        bought();
        friends();
        worth();
        never();
        neverEqual();
        when();
        judgeAndBehind();
        film();
        laws();
        drawn();
        lots();
        mean();
        images();
        sheets();
        cells();
        copies();
        ratesBySheets();
        takenFrom();
        Check.end();
    }

    private static void due(String call, long got, long want) {
        Check.due(call, got, want);
    }

    private static void constants() {
        Check.about("the public face");
        due("NONE", ThreeEmpties.NONE, -1);
        due("BAD", ThreeEmpties.BAD, -2);
        due("STATE", ThreeEmpties.STATE, -3);
        due("FULL", ThreeEmpties.FULL, -4);
        due("NO", ThreeEmpties.NO, -(1L << 62));
    }

    private static void newObject() {
        Check.about("1 a new object");
        ThreeEmpties other = Check.under("drinks 3;worth 9;breaks 0;");
        Check.stand(other, 1, 2, 3, 4, 5, 6, 7);
        other.rate(0, 11, 0);
        other.sheet(0, 0, 1);
        other.image();
        ThreeEmpties x = new ThreeEmpties();
        Check.stands(x, "new", 0, 0, 0, 0, 0, 0, 0, 0, 1, 0, 0);
        due("asks(0)", x.asks(0), 1);
        due("asks(1)", x.asks(1), 5);
        due("asks(2)", x.asks(2), 10);
        due("told(0, 0)", x.told(0, 0), -5);
        due("back()", x.back(), -3);
        for (int s = 0; s <= 3; s++) {
            due("judge(" + s + ")", x.judge(s), -11);
        }
    }

    private static void setAndCount() {
        Check.about("2 set, 3 count");
        for (int what = 0; what <= 6; what++) {
            ThreeEmpties x = new ThreeEmpties();
            int was = 0;
            for (int v : new int[] {1, MOST[what] - 1, MOST[what], 0, MOST[what], 1, 0}) {
                due("set(" + what + ", " + v + ")", x.set(what, v), was);
                due("count(" + what + ")", x.count(what), v);
                was = v;
            }
            x.set(what, 7);
            for (int other = 0; other <= 6; other++) {
                due("count(" + other + ")", x.count(other), other == what ? 7 : 0);
            }
        }
        ThreeEmpties x = new ThreeEmpties();
        for (int n = 1; n <= 5; n++) {
            x.rate(0, 13, 0);
            due("count(7)", x.count(7), n);
        }
        x.rate(0, 13, 0);
        due("count(7)", x.count(7), 5);
        for (int t = 1; t <= 5; t++) {
            Check.law(x, "drinks 1;worth 1;breaks 1;");
            due("count(8)", x.count(8), t + 1);
            due("count(9)", x.count(9), t);
        }
        for (int n = 1; n <= 160; n++) {
            x.feed(1, 0, 0, 0, 0, 0);
            due("count(10)", x.count(10), n);
        }
        x.feed(1, 0, 0, 0, 0, 0);
        due("count(10)", x.count(10), 160);
    }

    private static void feed() {
        Check.about("4 feed");
        // However many THE TAPE has, n more come or none.
        for (int had = 0; had <= 160; had++) {
            for (int n = 1; n <= 5; n++) {
                ThreeEmpties x = new ThreeEmpties();
                Check.write(x, " ".repeat(had));
                due(n + " behind " + had, x.feed(n, 0, 255, 0, 255, 0), had + n <= 160 ? had + n : FULL);
                due("count(10)", x.count(10), had + n <= 160 ? had + n : had);
            }
        }
        int[][] bytes = {{255, 0, 0, 0, 0}, {0, 255, 0, 0, 0}, {0, 0, 255, 0, 0}, {0, 0, 0, 255, 0}, {0, 0, 0, 0, 255}};
        for (int[] b : bytes) {
            due("0 and 255 are bytes", new ThreeEmpties().feed(5, b[0], b[1], b[2], b[3], b[4]), 5);
        }
        // The first n of them, in their order: a NUMBER grows by each.
        int[] first = {0, 1, 12, 123, 1234};
        for (int n = 1; n <= 4; n++) {
            ThreeEmpties x = new ThreeEmpties();
            Check.write(x, "drinks 1;worth ");
            x.feed(n, '1', '2', '3', '4', '5');
            Check.write(x, "=" + first[n] + ";breaks 1;");
            due("text()", x.text(), 1);
            x.force(1);
            due("the first " + n, x.asks(1), 1);
        }
        ThreeEmpties x = new ThreeEmpties();
        Check.write(x, "drinks 1;worth ");
        x.feed(5, '1', '2', '3', '4', '5');
        due("five digits", x.text(), -115);
    }

    private static void force() {
        Check.about("6 force");
        ThreeEmpties x = new ThreeEmpties();
        for (int t = 1; t <= 5; t++) {
            Check.write(x, "drinks 1;worth " + 10 * t + ";breaks 1;");
            due("the one that comes next", x.force(t), -2);
            x.text();
            due("force(" + t + ")", x.force(t), t - 1);
            due("asks(1)", x.asks(1), 10 * t);
        }
        due("force(5)", x.force(5), 5);
        due("force(6)", x.force(6), -2);
        due("force(0)", x.force(0), 5);
        due("asks(1)", x.asks(1), 5);
        due("force(-1)", x.force(-1), -2);
        due("count(9)", x.count(9), 0);
    }

    private static void asks() {
        Check.about("7 asks");
        int[] most = {3, 99, 100};
        String[] e = {"-1", "0", "1", "2", "3", "4", "98", "99", "100", "101", "9999", "0-9999",
            "9999*9999*21", "9999*9999*22", "256*256*256*128-1", "256*256*256*128"};
        long[] says = {-1, 0, 1, 2, 3, 4, 98, 99, 100, 101, 9999, -9999,
            9999 * 9999 * 21, 9999 * 9999 * 22, Integer.MAX_VALUE, Integer.MIN_VALUE};
        for (int k = 0; k < e.length; k++) {
            ThreeEmpties x = Check.under("drinks " + e[k] + ";worth " + e[k] + ";breaks " + e[k] + ";");
            for (int part = 0; part <= 2; part++) {
                due(e[k] + ", part " + part, x.asks(part), Math.max(0, Math.min(most[part], says[k])));
            }
        }
    }

    private static void rate() {
        Check.about("8 rate");
        for (int st = 0; st <= 50; st++) {
            boolean is = st >= 11 && st <= 39 && st % 10 != 0;
            for (int kind = 0; kind <= 5; kind++) {
                for (int more = 0; more <= 9; more++) {
                    ThreeEmpties x = new ThreeEmpties();
                    due("rate(" + kind + ", " + st + ", " + more + ")", x.rate(kind, st, more), is ? 0 : -2);
                    due("it is", Check.rateOf(x, 0), is ? kind * 1000 + st * 10 + more : -5);
                }
            }
        }
        ThreeEmpties x = new ThreeEmpties();
        for (int r = 0; r < 5; r++) {
            due("its number", x.rate(r, 11 + r, r), r);
        }
        due("a sixth", x.rate(0, 11, 0), FULL);
        for (int r = 0; r < 5; r++) {
            due("each its own", Check.rateOf(x, r), r * 1000 + (11 + r) * 10 + r);
        }
    }

    private static void change() {
        Check.about("9 change");
        for (int many = 0; many <= 5; many++) {
            ThreeEmpties x = new ThreeEmpties();
            for (int r = 0; r < many; r++) {
                x.rate(r, 21 + r, 1);
            }
            due("one further", x.change(many, 0, 0), -5);
            for (int r = 0; r < many; r++) {
                due("change(" + r + ", 5, 9)", x.change(r, 5, 9), r);
                due("it is", Check.rateOf(x, r), 5009 + (21 + r) * 10);
                due("change(" + r + ", 0, 0)", x.change(r, 0, 0), 5);
                due("it is", Check.rateOf(x, r), (21 + r) * 10);
            }
        }
    }

    /** What each KIND TAKES, GIVES, LENDS, for all that can be told, on all days. */
    private static void kinds() {
        Check.about("10 told");
        for (int kind = 0; kind <= 5; kind++) {
            for (int told = 1; told <= 9; told++) {
                for (int more = 0; more <= 9; more++) {
                    ThreeEmpties x = new ThreeEmpties();
                    x.rate(kind, 20 + told, more);
                    for (int d = 0; d <= 99; d++) {
                        x.set(6, d);
                        String who = "kind " + kind + " told " + told + " more " + more + " day " + d;
                        due(who + " takes", x.told(0, 4), takes(kind, told, more, d));
                        due(who + " gives", x.told(0, 5), gives(kind, told, more, d));
                        due(who + " lends", x.told(0, 6), kind == 1 ? 1 : kind == 3 ? 1 + more : 0);
                    }
                }
            }
        }
    }

    private static int takes(int kind, int told, int more, int d) {
        boolean dayed = kind == 2 || kind == 4;
        boolean cheap = kind == 5 && d >= more && told > 1;
        return told + (dayed && d % 2 == 1 ? more : 0) - (cheap ? 1 : 0);
    }

    private static int gives(int kind, int told, int more, int d) {
        if (kind == 4) {
            return (d - more + 70) % 7 == 0 ? 2 : 0;
        }
        return kind == 3 && told >= 6 ? 2 : 1;
    }

    private static void canDrink() {
        Check.about("11 can, 12 move: to drink");
        for (int fulls : new int[] {0, 1, 2, 999}) {
            for (int drunk : new int[] {0, 1, 997, 998, 999}) {
                ThreeEmpties x = new ThreeEmpties();
                Check.stand(x, fulls, 0, 0, 0, 0, drunk);
                boolean is = fulls >= 1 && drunk <= 998;
                due("can(0) of " + fulls + ", drunk " + drunk, x.can(0), is ? 1 : 0);
                due("move(0) of " + fulls + ", drunk " + drunk, x.move(0), is ? drunk + 1 : -3);
                due("fulls then", x.count(0), is ? fulls - 1 : fulls);
            }
        }
    }

    private static void canExchange() {
        Check.about("11 can: to exchange");
        for (int sort = 1; sort <= 3; sort++) {
            // 0 RATE, 1 LENDING, 3 CLUB: what these LEND is for EMPTIES alone.
            for (int kind : new int[] {0, 1, 3}) {
                for (int more = 0; more <= 9; more += 3) {
                    for (int told : new int[] {1, 5, 6, 9}) {
                        exchangesOf(sort, kind, more, told);
                    }
                }
            }
        }
        ThreeEmpties x = new ThreeEmpties();
        x.rate(4, 11, 9);
        Check.stand(x, 0, 99);
        for (int d = 0; d <= 99; d++) {
            x.set(6, d);
            due("a MONDAY of 9 on day " + d, x.can(1), d % 7 == 2 ? 1 : 0);
        }
    }

    private static void exchangesOf(int sort, int kind, int more, int told) {
        int lends = sort != 1 ? 0 : kind == 1 ? 1 : kind == 3 ? 1 + more : 0;
        int gives = kind == 3 && told > 5 ? 2 : 1;
        String who = "sort " + sort + " kind " + kind + " more " + more + " told " + told;
        for (int has = 0; has <= told + 1; has++) {
            ThreeEmpties x = new ThreeEmpties();
            x.rate(kind, 10 * sort + told, more);
            for (int owes : new int[] {0, 1, 2, 9, 10, 11, 99}) {
                Check.stand(x, 0, 0, 0, 0, owes);
                x.set(sort, has);
                boolean is = has >= told || told - has <= lends - owes;
                due(who + " has " + has + " owes " + owes, x.can(1), is ? 1 : 0);
            }
        }
        ThreeEmpties x = new ThreeEmpties();
        x.rate(kind, 10 * sort + told, more);
        x.set(sort, told);
        for (int fulls = 996; fulls <= 999; fulls++) {
            x.set(0, fulls);
            due(who + " fulls " + fulls, x.can(1), fulls + gives <= 999 ? 1 : 0);
        }
    }

    private static void drinking() {
        Check.about("12 move: what drinking leaves");
        for (int come = 0; come <= 3; come++) {
            for (int owes : new int[] {0, 1, 2, 3, 4, 99}) {
                ThreeEmpties x = Check.under("drinks " + come + ";worth 1;breaks 100;");
                for (int had : new int[] {0, 1, 500, 995, 996, 997, 998, 999}) {
                    Check.stand(x, 2, had, had, had, owes, 3, 4);
                    due("move(0)", x.move(0), 4);
                    int paid = Math.min(come, owes);
                    Check.stands(x, come + " come, " + owes + " are owed", 1, Math.min(999, had + come - paid),
                        Math.min(999, had + 1), Math.min(999, had + 1), owes - paid, 4, 4);
                }
            }
        }
        // drinks is told ahead of the MOVE, each of its NAMES.
        String[] names = {"full=2", "empty=3", "cork=4", "label=5", "drunk=6", "day=7"};
        for (String name : names) {
            ThreeEmpties x = Check.under("drinks " + name + ";worth 1;breaks 0;");
            Check.stand(x, 2, 3, 4, 5, 0, 6, 7);
            x.move(0);
            Check.stands(x, name, 1, 4, 5, 6, 0, 7, 7);
        }
    }

    private static void exchanging() {
        Check.about("12 move: to exchange");
        for (int sort = 1; sort <= 3; sort++) {
            for (int has : new int[] {4, 5, 999}) {
                int[] want = {11, 20, 20, 20, 0, 6, 8};
                ThreeEmpties x = new ThreeEmpties();
                x.rate(0, 10 * sort + 4, 9);
                Check.stand(x, 10, 20, 20, 20, 0, 6, 8);
                x.set(sort, has);
                want[sort] = has - 4;
                due("move(1)", x.move(1), 6);
                Check.stands(x, "sort " + sort + " of " + has, want);
            }
        }
        // A CLUB of 9 and MORE 9 LENDS ten: as many as lack one OWES more.
        for (int has = 0; has <= 9; has++) {
            for (int owes = 0; owes <= 11; owes++) {
                ThreeEmpties x = new ThreeEmpties();
                x.rate(3, 19, 9);
                Check.stand(x, 0, has, 5, 5, owes, 0, 0);
                boolean is = has == 9 || 9 - has <= 10 - owes;
                due("has " + has + " owes " + owes, x.move(1), is ? 0 : -3);
                Check.stands(x, "it", is ? 2 : 0, is ? 0 : has, 5, 5, is ? owes + 9 - has : owes, 0, 0);
            }
        }
        ThreeEmpties x = new ThreeEmpties();
        x.rate(3, 12, 9);
        Check.stand(x, 998, 2, 0, 0, 99);
        due("who has enough may owe 99", x.move(1), 0);
        Check.stands(x, "it", 999, 0, 0, 0, 99, 0, 0);
    }

    private static void greedily() {
        Check.about("13 all: greedily, at the latest behind 200");
        for (int fulls = 198; fulls <= 202; fulls++) {
            ThreeEmpties x = new ThreeEmpties();
            Check.stand(x, fulls, 0, 0, 0, 1, 3);
            int made = Math.min(200, fulls);
            int[] want = {3 + made, made, fulls - made, made - 1, made, made, 0};
            for (int what = 0; what <= 6; what++) {
                due("all(" + what + ") of " + fulls, x.all(what), want[what]);
            }
        }
        for (int drunk = 997; drunk <= 999; drunk++) {
            ThreeEmpties x = new ThreeEmpties();
            Check.stand(x, 2, 0, 0, 0, 0, drunk);
            due("drunk", x.all(0), 999);
            due("moves", x.all(1), 999 - drunk);
            due("fulls stay", x.all(2), 2 - (999 - drunk));
        }
        // Whoever can't drink more exchanges on, till there is no room.
        for (int fulls = 997; fulls <= 999; fulls++) {
            ThreeEmpties x = new ThreeEmpties();
            x.rate(0, 12, 0);
            Check.stand(x, fulls, 9, 0, 0, 0, 999);
            due("moves", x.all(1), 999 - fulls);
            due("fulls", x.all(2), 999);
            due("empties", x.all(3), 9 - 2 * (999 - fulls));
        }
        // The first RATE that can be, drinking ahead of all.
        ThreeEmpties x = new ThreeEmpties();
        x.rate(0, 19, 0);
        x.rate(0, 22, 0);
        x.rate(0, 11, 0);
        Check.stand(x, 1, 8, 1);
        int[] moves = {0, 1, 0, 2, 0, 2, 0, 3, 0, 2, 0, 3};
        for (int k = 0; k < moves.length; k++) {
            due("next(" + k + ")", x.next(k), moves[k]);
        }
    }

    private static void goAndNext() {
        for (int fulls = 198; fulls <= 202; fulls++) {
            Check.about("15 next");
            ThreeEmpties x = new ThreeEmpties();
            x.set(0, fulls);
            for (int k = 197; k <= 199; k++) {
                due("next(" + k + ") of " + fulls, x.next(k), k < fulls ? 0 : NONE);
            }
            due("next(200)", x.next(200), -2);
            Check.about("14 go");
            for (int n : new int[] {0, 1, 199, 200}) {
                x = new ThreeEmpties();
                x.set(0, fulls);
                int made = Math.min(n, fulls);
                due("go(" + n + ") of " + fulls, x.go(n), made);
                Check.stands(x, "it", fulls - made, made, made, made, 0, made, 0);
            }
        }
        Check.about("15 next");
        ThreeEmpties x = new ThreeEmpties();
        x.rate(0, 13, 0);
        x.set(0, 3);
        int[] moves = {0, 0, 0, 1, 0, NONE, NONE};
        for (int k = 0; k < moves.length; k++) {
            due("next(" + k + ")", x.next(k), moves[k]);
        }
        Check.about("14 go");
        int[] goes = {1, 1, 1, 1, 1, 0, 0};
        int[] drunk = {1, 2, 3, 3, 4, 4, 4};
        for (int k = 0; k < goes.length; k++) {
            due("go(1)", x.go(1), goes[k]);
            due("drunk", x.count(5), drunk[k]);
        }
    }

    private static void best() {
        Check.about("16 best");
        int[] ones = {0, 1, 11, 111, 1111, 11111, 111111};
        for (int fulls = 0; fulls <= 7; fulls++) {
            ThreeEmpties x = new ThreeEmpties();
            x.set(0, fulls);
            for (int n = 0; n <= 6; n++) {
                due("best(" + n + ", 0) of " + fulls, x.best(n, 0), 5 * Math.min(n, fulls));
                due("best(" + n + ", 1) of " + fulls, x.best(n, 1), ones[Math.min(n, fulls)]);
            }
        }
        for (int worth = 0; worth <= 1; worth++) {
            ThreeEmpties x = Check.under("drinks 1;worth " + worth + ";breaks 0;");
            x.rate(0, 11, 0);
            Check.stand(x, 3, 3);
            due("above 0, or none", x.best(2, 0), 2 * worth);
            due("above 0, or none", x.best(2, 1), 11 * worth);
        }
        for (int drunk = 996; drunk <= 999; drunk++) {
            ThreeEmpties x = new ThreeEmpties();
            Check.stand(x, 9, 0, 0, 0, 0, drunk);
            due("drunk " + drunk, x.best(6, 1), ones[999 - drunk]);
        }
        ThreeEmpties x = Check.under("drinks 1;worth 9999;breaks 0;");
        x.set(0, 6);
        due("worth's bound", x.best(6, 0), 6 * 99);
    }

    private static void bestOrder() {
        Check.about("16 best: of like ones the first");
        ThreeEmpties x = new ThreeEmpties();
        for (int r = 0; r < 5; r++) {
            x.rate(0, 22, 0);
        }
        Check.stand(x, 0, 0, 2);
        due("of five RATES the first", x.best(2, 1), 21);
        for (int r = 0; r < 4; r++) {
            x.change(r, 4, 1);
            due("the first that is not shut", x.best(2, 1), 10 * (r + 3) + 1);
        }
        due("of four MOVES no more can be", x.best(4, 1), 61);
        due("one alone is worth nothing", x.best(1, 1), 0);
        ThreeEmpties y = new ThreeEmpties();
        y.rate(0, 11, 0);
        Check.stand(y, 2, 0);
        int[] rows = {0, 1, 11, 11, 1121, 1121, 112121};
        for (int n = 0; n <= 6; n++) {
            due("best(" + n + ", 1)", y.best(n, 1), rows[n]);
        }
        // worth is told ahead of each MOVE: the first to be drunk is worth nothing, yet goes ahead.
        ThreeEmpties z = Check.under("drinks 1;worth drunk*7;breaks 0;");
        z.set(0, 4);
        due("best(1, 0)", z.best(1, 0), 0);
        due("best(1, 1)", z.best(1, 1), 0);
        due("best(2, 0)", z.best(2, 0), 7);
        due("best(2, 1)", z.best(2, 1), 11);
        due("best(3, 0)", z.best(3, 0), 21);
        // Not to drink can't be better, yet to exchange ahead can, or behind.
        ThreeEmpties w = Check.under("drinks 1;worth 9-cork;breaks 0;");
        w.rate(0, 21, 0);
        Check.stand(w, 1, 0, 2);
        due("corks away first", w.best(2, 1), 21);
        due("8 of one, not 9 of one behind two exchanges", w.best(2, 0), 8);
        due("8 and 7 are more than 9", w.best(3, 1), 211);
        due("worth", w.best(3, 0), 15);
    }

    private static void least() {
        Check.about("17 least");
        ThreeEmpties x = new ThreeEmpties();
        for (int goal : new int[] {0, 1, 59, 60, 61, 998, 999}) {
            due("least(" + goal + ", 0)", x.least(goal, 0), goal <= 60 ? goal : NONE);
        }
        for (int drunk : new int[] {938, 939, 940, 999}) {
            x.set(5, drunk);
            due("999 of " + drunk, x.least(999, 0), drunk < 939 ? NONE : 999 - drunk);
            due("998 of " + drunk, x.least(998, 0), drunk < 938 ? NONE : Math.max(0, 998 - drunk));
        }
        ThreeEmpties y = Check.under("drinks 0;worth 1;breaks 1;");
        due("bare: 60", y.least(60, 1), 60);
        due("bare: 61", y.least(61, 1), NONE);
        y.set(1, 1);
        due("an empty one stays", y.least(0, 1), NONE);
        due("an empty one may stay", y.least(0, 0), 0);
        Check.stand(y, 5, 0, 7, 7, 0);
        due("corks and labels may stay", y.least(0, 1), 0);
        y.set(4, 1);
        due("one is owed", y.least(0, 1), NONE);
        due("one may be owed", y.least(0, 0), 0);
        Check.stand(y, 0, 0, 0, 0, 0, 999);
        due("nothing is drunk any more", y.least(999, 1), 0);
        // A full one that can't be drunk stays: with one that can be taken for a cork.
        y.rate(0, 21, 0);
        y.set(2, 1);
        due("a full one stays", y.least(999, 1), NONE);
        due("a full one may stay", y.least(999, 0), 0);
        // By one that is lent each full one is drunk twice: goals between are passed over.
        ThreeEmpties z = new ThreeEmpties();
        z.rate(1, 12, 0);
        for (int goal = 0; goal <= 80; goal++) {
            due("just as many or more: " + goal, z.least(goal, 0), (goal + 1) / 2);
            due("none is left, none owed: " + goal, z.least(goal, 1), (goal + 1) / 2);
        }
    }

    private static void bought() {
        Check.about("18 bought");
        ThreeEmpties x = new ThreeEmpties();
        for (int n = 0; n <= 62; n++) {
            due("bought(" + n + ", " + n + ")", x.bought(n, n), n <= 60 ? 1L << n : 0);
            due("one empty more", x.bought(n, n + 1), 0);
            due("one drunk more", x.bought(n + 1, n), 0);
        }
        x.set(0, 7);
        due("what one HAS does not matter", x.bought(0, 0), 1);
        Check.stand(x, 0, 999, 0, 0, 0, 939);
        due("999 and 999", x.bought(999, 999), 1L << 60);
        x.set(5, 940);
        due("999 and 999", x.bought(999, 999), 3L << 59);
        x.set(5, 999);
        due("all", x.bought(999, 999), (1L << 61) - 1);
        due("none", x.bought(999, 998), 0);
        due("none", x.bought(998, 999), 0);
    }

    private static void friends() {
        Check.about("19 friends");
        ThreeEmpties x = new ThreeEmpties();
        for (int drunk : new int[] {0, 879, 880, 938, 939, 940, 998, 999}) {
            x.set(5, drunk);
            for (int a : new int[] {0, 1, 59, 60}) {
                for (int b : new int[] {0, 1, 59, 60}) {
                    int room = 999 - drunk;
                    int want = Math.min(a + b, room) - Math.min(a, room) - Math.min(b, room);
                    due("friends(" + a + ", " + b + ") at " + drunk, x.friends(a, b), want);
                }
            }
        }
        x.set(5, 0);
        x.rate(0, 13, 0);
        for (int a = 0; a <= 60; a += 20) {
            for (int b = 0; b <= 60; b++) {
                int want = threeForOne(a + b) - threeForOne(a) - threeForOne(b);
                due("friends(" + a + ", " + b + ")", x.friends(a, b), want);
            }
        }
    }

    /** How many of n fulls and their empties are drunk, three for one, by 200 MOVES at most. */
    private static int threeForOne(int n) {
        return n == 0 ? 0 : n + Math.min((n - 1) / 2, (200 - n) / 2);
    }

    private static void worth() {
        Check.about("20 worth");
        for (int many = 1; many <= 5; many++) {
            ThreeEmpties x = new ThreeEmpties();
            x.set(0, 9);
            for (int r = 1; r < many; r++) {
                x.rate(4, 11, 1);
            }
            x.rate(0, 13, 0);
            for (int r = 0; r < many; r++) {
                due("worth(" + r + ") of " + many, x.worth(r), r == many - 1 ? 4 : 0);
            }
            due("one further", x.worth(many), -100000);
        }
        // At the latest behind 200 MOVES: each second one is an exchange, but for the first.
        ThreeEmpties x = new ThreeEmpties();
        x.rate(0, 11, 0);
        x.set(0, 1);
        due("never ending", x.worth(0), 99);
        x.set(0, 200);
        due("200 are drunk without it, too", x.worth(0), 0);
        x.set(0, 199);
        due("the 200th is an exchange", x.worth(0), 0);
        x.set(0, 198);
        due("one more is drunk", x.worth(0), 1);
    }

    private static void never() {
        Check.about("21 never");
        int[] first = {-1, 1, 1, 1, 1, 1};
        int[] many = {0, 3, 15, 63, 255, 1023};
        ThreeEmpties x = new ThreeEmpties();
        for (int r = 0; r <= 5; r++) {
            due("first of " + r, x.never(0), first[r]);
            due("many of " + r, x.never(1), many[r]);
            x.rate(0, 11, 0);
        }
        // One RATE alone is open: its place is its digit's.
        int[] place = {10000, 1000, 100, 10, 1};
        for (int open = 0; open < 5; open++) {
            ThreeEmpties y = new ThreeEmpties();
            for (int r = 0; r < 5; r++) {
                y.rate(r == open ? 0 : 4, 11, 1);
            }
            due("RATE " + open + " alone", y.never(0), place[open]);
            due("1, 2, 3 times", y.never(1), 3);
        }
        // Three of the last are needed for one of the first, at most 3 of each.
        ThreeEmpties z = new ThreeEmpties();
        z.rate(0, 14, 0);
        z.rate(0, 31, 0);
        due("corks and labels alone don't end", z.never(0), 1);
        due("0 1 .. 0 3, 1 3", z.never(1), 4);
        z.change(1, 5, 0);
        z.rate(4, 11, 1);
        due("the third is shut", z.never(0), 10);
        due("none with the third", z.never(1), 4);
        // The highest of all: each three times.
        ThreeEmpties w = Check.under("drinks 3;worth 0;breaks 0;");
        w.rate(3, 16, 0);
        due("GIVES two, TAKES six, six come", w.never(1), 3);
        Check.law(w, "drinks 2;worth 0;breaks 0;");
        due("four come", w.never(1), 0);
    }

    private static void neverEqual() {
        Check.about("21 never: no more taken than come");
        for (int come = 0; come <= 3; come++) {
            for (int told = 1; told <= 4; told++) {
                ThreeEmpties x = Check.under("drinks " + come + ";worth 0;breaks 0;");
                x.rate(0, 10 + told, 0);
                due(told + " of " + come + " empties", x.never(1), told <= come ? 3 : 0);
                due(told + " of " + come + " empties", x.never(0), told <= come ? 1 : -1);
                for (int sort = 2; sort <= 3; sort++) {
                    ThreeEmpties y = Check.under("drinks " + come + ";worth 0;breaks 0;");
                    y.rate(0, 10 * sort + told, 0);
                    due(told + " of sort " + sort, y.never(1), told <= 1 ? 3 : 0);
                }
            }
        }
        // A MONDAY on its day GIVES two: one of the two may be dear.
        ThreeEmpties x = new ThreeEmpties();
        x.rate(4, 22, 3);
        due("shut", x.never(1), 0);
        x.set(6, 10);
        due("two for two", x.never(1), 3);
        x.set(6, 3);
        due("two for five on an odd day", x.never(1), 0);
    }

    private static void when() {
        Check.about("22 when");
        for (int d = 0; d <= 99; d++) {
            for (int more = 0; more <= 15; more++) {
                if (d % 9 == 0 || d > 97) {
                    ThreeEmpties x = Check.under("drinks day=" + (d + more) + ";worth 0;breaks 0;");
                    x.rate(0, 11, 0);
                    Check.stand(x, 1, 0, 0, 0, 0, 0, d);
                    due("day " + d + ", " + more + " more", x.when(0), more <= 13 ? more : 0);
                    due("day " + d + ", " + more + " more", x.when(1), more <= 13 ? 100 : 1);
                }
            }
        }
        // Seven days on all is alike: the first MONDAY of two.
        for (int d = 0; d <= 13; d++) {
            ThreeEmpties x = new ThreeEmpties();
            x.rate(4, 21, 0);
            Check.stand(x, 0, 0, 1, 0, 0, 0, d);
            due("the next MONDAY of day " + d, x.when(0), (7 - d % 7) % 7);
        }
        ThreeEmpties x = new ThreeEmpties();
        x.set(5, 999);
        due("like ones: today", x.when(0), 0);
        due("drunk already", x.when(1), 999);
    }

    private static void judgeAndBehind() {
        Check.about("23 judge, 24 behind");
        for (int sort = 0; sort <= 2; sort++) {
            for (int n = 0; n <= 40; n++) {
                ThreeEmpties x = new ThreeEmpties();
                x.rate(0, 13, 0);
                Check.tell(x, sort, sort, new int[n]);
                Check.stand(x, 40, 1, 2, 3, 4, 5, 6);
                due(n + " to drink", x.judge(sort), NONE);
                int[] want = {40 - n, 1 + Math.max(0, n - 4), 2 + n, 3 + n, Math.max(0, 4 - n), 5 + n, 6};
                for (int what = 0; what <= 6; what++) {
                    due("behind " + n + " what " + what, x.behind(sort, what), want[what]);
                }
                if (n > 0) {
                    x.set(0, n - 1);
                    due("the last can't be", x.judge(sort), n - 1);
                    due("behind it", x.behind(sort, 0), -9);
                    x.cell(sort, n - 1, 1);
                    due("with enough empties it can be exchanged", x.judge(sort), n >= 7 ? NONE : n - 1);
                }
            }
        }
        for (int many = 0; many <= 5; many++) {
            ThreeEmpties x = new ThreeEmpties();
            for (int r = 0; r < many; r++) {
                x.rate(0, 21, 0);
            }
            x.set(2, 9);
            for (int m : new int[] {-1, 0, 1, many, many + 1, 6, 127, -128}) {
                Check.tell(x, 0, 0, m);
                due("move " + m + " of " + many + " rates", x.judge(0), m >= 1 && m <= many ? NONE : 0);
            }
        }
    }

    private static void film() {
        Check.about("25 film");
        for (int n : new int[] {0, 1, 38, 39, 40}) {
            for (int fulls : new int[] {0, 1, 39, 40, 41}) {
                for (int was = -1; was <= 2; was++) {
                    ThreeEmpties x = new ThreeEmpties();
                    x.sheet(2, was, 7);
                    x.set(0, fulls);
                    int made = Math.min(n, fulls);
                    due("film(2, " + n + ") of " + fulls, x.film(2, n), made);
                    due("judge", x.judge(2), NONE);
                    due("behind", x.behind(2, 5), made);
                    due("ints", x.ratesBy(2, 2, 0, 0), 0);
                    due("so long", x.cell(2, made - 1, 0), made > 0 ? 1 : -12);
                    due("no longer", x.cell(2, made, 0), -12);
                    Check.stands(x, "film", fulls, 0, 0, 0, 0, 0, 0);
                }
            }
        }
        // Each MOVE stands in its place.
        ThreeEmpties x = new ThreeEmpties();
        x.rate(0, 31, 0);
        x.rate(0, 12, 0);
        Check.stand(x, 1, 0, 0, 0);
        due("film(3, 40)", x.film(3, 40), 40);
        x.sheet(2, 2, 1);
        for (int k = 0; k < 40; k++) {
            due("one number", x.copy(3, k, 2, 0, 1), 1);
            Check.stand(x, 1, 0, 0, 0);
            due("a full one can be drunk", x.judge(2), k % 2 == 0 ? NONE : 0);
            Check.stand(x, 0, 0, 0, 1);
            due("a label can be exchanged", x.judge(2), k % 2 == 0 ? 0 : NONE);
        }
    }

    private static void laws() {
        Check.about("26 laws");
        ThreeEmpties x = new ThreeEmpties();
        x.rate(0, 11, 0);
        x.set(0, 1);
        for (int t = 1; t <= 5; t++) {
            due("TEXTS till " + t, x.laws(100), (1 << t) - 1);
            due("not just so much", x.laws(99), 0);
            due("not just so much", x.laws(101), 0);
            Check.law(x, "drinks 1;worth " + t + ";breaks 0;");
        }
        due("six TEXTS", x.laws(100), 63);
        x.set(0, 0);
        due("0", x.laws(0), 63);
        due("1", x.laws(1), 0);
        x.set(5, 999);
        due("999", x.laws(999), 63);
        due("998", x.laws(998), 0);
        ThreeEmpties y = new ThreeEmpties();
        y.rate(0, 11, 0);
        y.set(0, 1);
        for (int t = 1; t <= 5; t++) {
            Check.write(y, "drinks drunk<" + t + ";worth 0;breaks 0;");
            y.text();
        }
        for (int t = 1; t <= 5; t++) {
            due("TEXT " + t + " alone", y.laws(t + 1), 1 << t);
        }
        due("THE LAW stays", y.count(9), 0);
    }

    private static void drawn() {
        Check.about("27 drawn");
        for (int fulls : new int[] {199, 200, 201}) {
            ThreeEmpties x = new ThreeEmpties();
            x.set(0, fulls);
            for (int n : new int[] {0, 1, 198, 199, 200}) {
                for (int seed : new int[] {0, 99999}) {
                    due("drawn(" + seed + ", " + n + ") of " + fulls, x.drawn(seed, n), Math.min(n, fulls));
                }
            }
        }
        // breaks 0: none is gone; 100: each, if there is any.
        for (int breaks : new int[] {0, 100}) {
            ThreeEmpties x = Check.under("drinks 1;worth 0;breaks " + breaks + ";");
            x.rate(0, 13, 0);
            x.set(0, 9);
            for (int seed = 0; seed < 200; seed++) {
                due("breaks " + breaks + ", seed " + seed, x.drawn(seed, 200), breaks == 0 ? 13 : 9);
            }
        }
        // An exchange is one of the n MOVES, and draws no LOT.
        ThreeEmpties x = Check.under("drinks 1;worth 0;breaks 0;");
        x.rate(0, 13, 0);
        x.set(0, 3);
        int[] drunk = {0, 1, 2, 3, 3, 4, 4};
        for (int n = 0; n < drunk.length; n++) {
            due("drawn(0, " + n + ")", x.drawn(0, n), drunk[n]);
        }
        due("in thought", x.count(0), 3);
    }

    private static long lot(int seed, int k) {
        BigInteger p = BigInteger.valueOf(2147483647);
        return BigInteger.valueOf(48271).pow(k).multiply(BigInteger.valueOf(seed + 1)).mod(p).longValue();
    }

    /** The k-th LOT decides whether the k-th bottle breaks: on both sides of its number modulo 100. */
    private static void lots() {
        Check.about("27 drawn: lots");
        due("SEED 0, the first", lot(0, 1), 48271);
        due("SEED 99999, the first", lot(99999, 1), 532132706);
        for (int seed : new int[] {0, 1, 7, 44487, 44488, 44489, 99998, 99999}) {
            for (int k = 1; k <= 8; k++) {
                int at = (int) (lot(seed, k) % 100);
                for (int breaks = Math.max(0, at - 1); breaks <= at + 1; breaks++) {
                    ThreeEmpties x = Check.under("drinks drunk=" + (k - 1) + ";worth 0;breaks " + breaks + ";");
                    x.rate(0, 11, 0);
                    x.set(0, k);
                    due("SEED " + seed + ", lot " + k + " is " + at + ", breaks " + breaks, x.drawn(seed, 200),
                        at < breaks ? k : k + 1);
                }
            }
        }
        // One of the EMPTIES, not all.
        ThreeEmpties x = Check.under("drinks 3;worth 0;breaks 100;");
        x.rate(0, 12, 0);
        x.set(0, 1);
        due("two of three stay, three times", x.drawn(5, 6), 3);
        ThreeEmpties y = Check.under("drinks 1;worth 0;breaks 100;");
        y.rate(0, 11, 0);
        Check.stand(y, 1, 0, 0, 0, 1);
        due("what is owed does not break", y.drawn(5, 9), 1);
        Check.stand(y, 1, 1, 0, 0, 1);
        due("one that was there does", y.drawn(5, 9), 1);
        Check.stand(y, 1, 2, 0, 0, 1);
        due("the other stays", y.drawn(5, 9), 2);
    }

    private static void mean() {
        Check.about("28 mean");
        ThreeEmpties x = Check.under("drinks 1;worth 0;breaks 50;");
        x.rate(0, 13, 0);
        x.set(0, 60);
        for (int seed : new int[] {0, 1, 99970, 99998, 99999}) {
            int sum = 0;
            for (int seeds = 1; seeds <= 30; seeds++) {
                sum += seed + seeds - 1 <= 99999 ? x.drawn(seed + seeds - 1, 200) : beyond(seed + seeds - 1);
                int g = BigInteger.valueOf(sum).gcd(BigInteger.valueOf(seeds)).intValue();
                ThreeEmpties y = Check.under("drinks 1;worth 0;breaks 50;");
                y.rate(0, 13, 0);
                y.set(0, 60);
                due("mean(" + seed + ", " + seeds + ", 200, 0)", y.mean(seed, seeds, 200, 0), sum / g);
                due("mean(" + seed + ", " + seeds + ", 200, 1)", y.mean(seed, seeds, 200, 1), seeds / g);
            }
        }
        ThreeEmpties y = new ThreeEmpties();
        for (int seeds = 1; seeds <= 30; seeds++) {
            due("none are drunk", y.mean(0, seeds, 0, 0), 0);
            due("in lowest terms", y.mean(0, seeds, 200, 1), 1);
            y.set(5, 999);
            due("999", y.mean(99999, seeds, 200, 0), 999);
            due("over 1", y.mean(99999, seeds, 200, 1), 1);
            y.set(5, 0);
        }
    }

    /** What DRAWN would come to by a SEED beyond 99999, of 60 fulls, three for one, breaks 50. */
    private static int beyond(int seed) {
        int fulls = 60;
        int empties = 0;
        int drunk = 0;
        for (int made = 0; made < 200 && (fulls > 0 || empties >= 3); made++) {
            if (fulls == 0) {
                empties -= 3;
                fulls++;
                continue;
            }
            fulls--;
            drunk++;
            empties += lot(seed, drunk) % 100 < 50 ? 0 : 1;
        }
        return drunk;
    }

    private static void images() {
        Check.about("29 image, 30 back");
        for (int kept = 0; kept <= 5; kept++) {
            for (int more = 0; kept + more <= 5; more++) {
                ThreeEmpties x = new ThreeEmpties();
                for (int r = 0; r < kept; r++) {
                    x.rate(r, 11 + r, r);
                }
                Check.stand(x, 999, 998, 997, 996, 99, 995, 98);
                due("image()", x.image(), kept);
                for (int r = 0; r < kept; r++) {
                    x.change(r, 5 - r, 9 - r);
                }
                for (int r = 0; r < more; r++) {
                    x.rate(1, 39, 9);
                }
                Check.stand(x, 0, 0, 0, 0, 0, 0, 0);
                for (int twice = 0; twice < 2; twice++) {
                    due("back()", x.back(), kept);
                    Check.stands(x, "back()", 999, 998, 997, 996, 99, 995, 98, kept);
                    for (int r = 0; r < kept; r++) {
                        due("rate " + r, Check.rateOf(x, r), r * 1000 + (11 + r) * 10 + r);
                    }
                    due("no further", x.told(kept, 0), -5);
                    due("no further move", x.can(kept + 1), -5);
                    due("the next number", x.rate(2, 25, 3), kept < 5 ? kept : FULL);
                }
            }
        }
        // What it does not keep stays as it is: THE TAPE, TEXTS, SHEETS; a later image takes its place.
        ThreeEmpties x = Check.under("drinks 2;worth 8;breaks 1;");
        due("image()", x.image(), 0);
        Check.law(x, "drinks 3;worth 9;breaks 1;");
        Check.write(x, "drinks");
        Check.tell(x, 1, 2, 4);
        due("back()", x.back(), 0);
        Check.stands(x, "back()", 0, 0, 0, 0, 0, 0, 0, 0, 3, 1, 6);
        due("asks(1)", x.asks(1), 8);
        due("force(2)", x.force(2), 1);
        due("the sheet", x.judge(1), 0);
        x.rate(0, 13, 0);
        x.set(6, 3);
        due("image()", x.image(), 1);
        x.set(6, 4);
        due("back()", x.back(), 1);
        Check.stands(x, "back()", 0, 0, 0, 0, 0, 0, 3, 1, 3, 2, 6);
    }

    private static void sheets() {
        Check.about("31 sheet");
        for (int s = 0; s <= 3; s++) {
            for (int sort = 0; sort <= 2; sort++) {
                for (int n : new int[] {0, 1, 39, 40}) {
                    ThreeEmpties x = new ThreeEmpties();
                    due("missing at first", x.cell(s, 0, 0), -11);
                    Check.tell(x, s, 2, 1, 1, 1);
                    due("sheet(" + s + ", " + sort + ", " + n + ")", x.sheet(s, sort, n), 1);
                    x.set(0, 40);
                    due("all 0", x.behind(s, 5), n);
                    for (int q = 0; q <= 2; q++) {
                        due("its sort", x.ratesBy(s, q, 0, 0), q == sort ? 0 : -13);
                    }
                    due("cell " + n, x.cell(s, n, 0), -12);
                    due("cell " + (n - 1), x.cell(s, n - 1, 0), n > 0 ? 1 : -12);
                    for (int other = 0; other <= 3; other++) {
                        due("the others are missing", x.judge(other), other == s ? NONE : -11);
                    }
                    for (int any : new int[] {Check.FAR_BELOW, -15, -1, 0, 40, 41, Check.FAR_ABOVE}) {
                        x.sheet(s, sort, n);
                        due("sheet(" + s + ", -1, " + any + ")", x.sheet(s, -1, any), 1);
                        due("missing", x.judge(s), -11);
                        due("missing once more", x.sheet(s, -1, any), 1);
                    }
                }
            }
        }
        ThreeEmpties x = new ThreeEmpties();
        Check.tell(x, 0, 2, 0, 0, 0, 0, 9);
        x.sheet(0, 2, 2);
        x.sheet(0, 2, 5);
        x.set(0, 5);
        due("all 0 when it has grown again", x.behind(0, 5), 5);
    }

    /** A number put shows as a RATE's MORE, or its sort and TOLD. */
    private static void cells() {
        Check.about("32 cell");
        for (int sort = 0; sort <= 2; sort++) {
            for (int high : new int[] {0, 256, -256, 65536, -65536, 16777216, 65536 - 256, 32768, 128}) {
                for (int low : new int[] {0, 9, 11, 39}) {
                    ThreeEmpties x = new ThreeEmpties();
                    x.sheet(0, sort, 3);
                    due("cell", x.cell(0, 1, high + low), 1);
                    int is = sort == 0 ? (byte) (high + low) : sort == 1 ? (short) (high + low) : high + low;
                    boolean rate = is == 11 || is == 39;
                    due("sort " + sort + " of " + (high + low), x.ratesBy(0, sort, 0, 1), rate ? 1 : 0);
                    due("it is", Check.rateOf(x, 0), rate ? 10 * is : -5);
                }
            }
        }
        for (int n = 1; n <= 40; n++) {
            ThreeEmpties x = new ThreeEmpties();
            x.sheet(3, 2, n);
            x.set(0, 40);
            for (int i = n - 1; i >= 0; i--) {
                due("cell(3, " + i + ", 1)", x.cell(3, i, 1), 1);
                due("the first that is none such", x.judge(3), i);
            }
            due("cell(3, " + n + ", 1)", x.cell(3, n, 1), -12);
        }
    }

    private static void copies() {
        Check.about("33 copy");
        int[] sizes = {0, 1, 2, 5, 40};
        for (int a : sizes) {
            for (int b : sizes) {
                for (int i : new int[] {-1, 0, 1, a - 1, a, a + 1}) {
                    for (int j : new int[] {-1, 0, 1, b - 1, b, b + 1}) {
                        for (int n : new int[] {-1, 0, 1, a - i, b - j, a - i + 1, b - j + 1}) {
                            copyOf(a, b, i, j, n);
                        }
                    }
                }
            }
        }
        // Its own: each number comes as it was, whichever way the places overlap.
        for (int i = 0; i <= 6; i++) {
            for (int j = 0; j <= 6; j++) {
                for (int n = 0; n <= 6 - Math.max(i, j); n++) {
                    int[] row = {11, 12, 13, 14, 15, 16};
                    ThreeEmpties x = new ThreeEmpties();
                    Check.tell(x, 0, 2, row);
                    due("copy(0, " + i + ", 0, " + j + ", " + n + ")", x.copy(0, i, 0, j, n), n);
                    System.arraycopy(row, i, row, j, n);
                    shows(x, 0, 2, row);
                }
            }
        }
    }

    private static void copyOf(int a, int b, int i, int j, int n) {
        int[] from = new int[a];
        int[] to = new int[b];
        for (int k = 0; k < a; k++) {
            from[k] = 11 + k % 9;
        }
        for (int k = 0; k < b; k++) {
            to[k] = 31 + k % 9;
        }
        ThreeEmpties x = new ThreeEmpties();
        Check.tell(x, 1, 1, from);
        Check.tell(x, 2, 1, to);
        boolean is = i >= 0 && j >= 0 && n >= 0 && i + n <= a && j + n <= b;
        due("copy(1, " + i + ", 2, " + j + ", " + n + ") of " + a + ", " + b, x.copy(1, i, 2, j, n), is ? n : -12);
        if (is) {
            System.arraycopy(from, i, to, j, n);
        }
        shows(x, 2, 1, to);
        shows(x, 1, 1, from);
    }

    /** A sheet's numbers show one by one, as sort and TOLD of a RATE that is gone again then. */
    private static void shows(ThreeEmpties x, int s, int sort, int[] row) {
        x.image();
        x.sheet(3, sort, 3);
        for (int k = 0; k < row.length; k++) {
            due("copy of number " + k, x.copy(s, k, 3, 1, 1), 1);
            due("ratesBy", x.ratesBy(3, sort, 0, 1), 1);
            due("number " + k, 10 * x.told(0, 1) + x.told(0, 2), row[k]);
            x.back();
        }
        due("no further", x.copy(s, row.length, 3, 1, 1), -12);
    }

    private static void ratesBySheets() {
        Check.about("34 ratesBy");
        for (int size = 0; size <= 16; size++) {
            for (int at = -1; at <= size + 1; at++) {
                for (int n = 0; n <= 5; n++) {
                    ThreeEmpties x = new ThreeEmpties();
                    x.sheet(0, 0, size);
                    for (int k = 0; k < size; k++) {
                        x.cell(0, k, (k - at) % 3 == 1 ? 11 + k % 9 : (k - at) % 3 == 2 ? 7 : 1);
                    }
                    int whole = at < 0 ? 0 : Math.min(n, (size - at) / 3);
                    due("ratesBy(0, 0, " + at + ", " + n + ") of " + size, x.ratesBy(0, 0, at, n), whole == n ? n : -12);
                    due("what stood ahead came", x.count(7), Math.max(0, whole));
                    for (int r = 0; r < whole; r++) {
                        due("rate " + r, Check.rateOf(x, r), 1007 + 10 * (11 + (at + 3 * r + 1) % 9));
                    }
                }
            }
        }
        // Others are left out: those that are BAD, and those for which there is no room.
        int[][] bad = {{6, 13, 0}, {-1, 13, 0}, {0, 10, 0}, {0, 40, 0}, {0, 20, 0}, {0, 13, 10}, {0, 13, -1}};
        for (int[] b : bad) {
            ThreeEmpties x = new ThreeEmpties();
            Check.tell(x, 0, 2, 5, 39, 9, b[0], b[1], b[2], 0, 11, 0);
            due("the middle one is left out", x.ratesBy(0, 2, 0, 3), 2);
            due("the first", Check.rateOf(x, 0), 5399);
            due("the last", Check.rateOf(x, 1), 110);
            due("no third", x.told(2, 0), -5);
            due("left out alone", x.ratesBy(0, 2, 3, 1), 0);
        }
        for (int had = 0; had <= 5; had++) {
            ThreeEmpties x = new ThreeEmpties();
            for (int r = 0; r < had; r++) {
                x.rate(5, 39, 9);
            }
            Check.tell(x, 0, 1, 1, 11, 1, 1, 12, 1, 1, 13, 1, 1, 14, 1, 1, 15, 1);
            due("room for " + (5 - had), x.ratesBy(0, 1, 0, 5), 5 - had);
            for (int r = 0; r < 5; r++) {
                due("rate " + r, Check.rateOf(x, r), r < had ? 5399 : 1001 + (11 + r - had) * 10);
            }
        }
    }

    private static void takenFrom() {
        Check.about("35 taken");
        for (int sort = 0; sort <= 3; sort++) {
            ThreeEmpties x = new ThreeEmpties();
            for (int has : new int[] {0, 1, 2, 999}) {
                x.set(sort, has);
                due("taken(" + sort + ", 6)", x.taken(sort, 6), has > 0 ? has : -11);
                for (int kind = 0; kind <= 5; kind++) {
                    due("taken(" + sort + ", " + kind + ")", x.taken(sort, kind), has > 0 ? -13 : -11);
                }
            }
        }
        // Rows: the KIND that it is; columns: the KIND that it is taken for.
        int[][] is = {{1, 0, 0, 0, 0, 0}, {1, 1, 0, 0, 0, 0}, {1, 0, 1, 0, 0, 0},
            {1, 1, 0, 1, 0, 0}, {1, 0, 1, 0, 1, 0}, {1, 0, 0, 0, 0, 1}};
        for (int many = 0; many <= 5; many++) {
            ThreeEmpties x = new ThreeEmpties();
            Check.stand(x, 1, 1, 1, 1, 1, 1, 1);
            for (int r = 0; r < many; r++) {
                x.rate(0, 13, 0);
            }
            for (int r = 0; r < 5; r++) {
                for (int kind = 0; kind <= 5; kind++) {
                    x.change(r, kind, 0);
                    for (int asked = 0; asked <= 5; asked++) {
                        int want = r >= many ? -11 : is[kind][asked] == 1 ? r : -13;
                        due("KIND " + kind + " at " + (4 + r) + " for " + asked, x.taken(4 + r, asked), want);
                    }
                    due("for a sort", x.taken(4 + r, 6), r >= many ? -11 : -13);
                }
            }
        }
    }
}
