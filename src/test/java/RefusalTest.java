import java.util.ArrayList;
import java.util.List;
import java.util.function.Function;

/**
 * Each refusal that the document names: its answer, which comes first of several, and that it
 * changes nothing. Behind it: that what is asked changes nothing.
 */
public final class RefusalTest {
    private static final int NONE = -1, BAD = -2, STATE = -3, FULL = -4;
    private static final long NO = -4611686018427387904L;

    private interface Call {
        long of(ThreeEmpties x);
    }

    /** A state that an object can be brought to, with all that can be seen of it. */
    private static final class State {
        private final Function<ThreeEmpties, ThreeEmpties> way;
        private final int rates;
        private final int texts;
        private final List<String> looks = new ArrayList<>();

        State(int rates, int texts, Function<ThreeEmpties, ThreeEmpties> way) {
            this.way = way;
            this.rates = rates;
            this.texts = texts;
            for (Function<ThreeEmpties, String> look : LOOKS) {
                looks.add(look.apply(made()));
            }
        }

        ThreeEmpties made() {
            return way.apply(new ThreeEmpties());
        }

        /** What a call answers, and that all looks are as without it. */
        void keeps(String name, Call call, Long want) {
            long got = call.of(made());
            if (want != null) {
                Check.due(name, got, want);
            }
            for (int k = 0; k < LOOKS.size(); k++) {
                ThreeEmpties x = made();
                call.of(x);
                String look = LOOKS.get(k).apply(x);
                if (!look.equals(looks.get(k))) {
                    Check.fail(name + " changed\n  " + looks.get(k) + "\nto\n  " + look);
                }
            }
        }

        void refuses(String name, Call call, long want) {
            keeps(name, call, want);
        }
    }

    private static final List<Function<ThreeEmpties, String>> LOOKS = looks();

    private static final State NEW = new State(0, 1, x -> x);
    private static final State SOME = new State(2, 3, RefusalTest::some);
    private static final State FILLED = new State(5, 6, RefusalTest::filled);
    private static final State[] ALL = {NEW, SOME, FILLED};

    public static void main(String[] args) {
        oneHas();
        tapeAndTexts();
        rates();
        changesAndTold();
        movesRefused();
        movesAsked();
        buying();
        days();
        toldMoves();
        byLot();
        sheets();
        copies();
        ratesBySheets();
        takenFrom();
        asking();
        Check.end();
    }

    // ---- states and looks

    private static ThreeEmpties some(ThreeEmpties x) {
        x.rate(1, 12, 3);
        x.image();
        Check.write(x, "drinks 2;worth 7;breaks 11;");
        x.text();
        Check.write(x, "drinks full;worth day;breaks 50;");
        x.text();
        x.force(1);
        Check.stand(x, 4, 1, 2, 3, 1, 6, 5);
        x.rate(4, 23, 2);
        Check.write(x, "drinks 3;worth");
        Check.tell(x, 0, 0, 0, 13, 1, 1, 22, 2);
        Check.tell(x, 1, 1, 0, 0, 1);
        Check.tell(x, 2, 2, 2, 33, 4, 5, 11, 6, 9);
        return x;
    }

    private static ThreeEmpties filled(ThreeEmpties x) {
        x.image();
        for (int t = 1; t <= 5; t++) {
            Check.write(x, "drinks " + t % 4 + ";worth " + t + ";breaks 0;");
            x.text();
        }
        x.force(5);
        Check.stand(x, 999, 999, 999, 999, 99, 999, 99);
        for (int r = 0; r < 5; r++) {
            x.rate(r, 11 + 7 * r, 9 - r);
        }
        Check.write(x, "drinks 3;worth " + " ".repeat(143));
        for (int s = 0; s < 3; s++) {
            x.sheet(s, s, 40);
            for (int i = 0; i < 40; i += 4) {
                x.cell(s, i, 11 + s + i / 4);
            }
        }
        return x;
    }

    /** Each look may change what it looks at: it is given an object of its own. */
    private static List<Function<ThreeEmpties, String>> looks() {
        List<Function<ThreeEmpties, String>> looks = new ArrayList<>();
        looks.add(x -> counts(x) + toldRates(x));
        looks.add(RefusalTest::laws);
        looks.add(x -> "text " + x.text() + counts(x));
        looks.add(x -> "more of a text " + x.feed(2, '1', ';', 0, 0, 0) + " " + x.text() + laws(x));
        looks.add(x -> "back " + x.back() + counts(x) + toldRates(x));
        for (int s = 0; s < 4; s++) {
            int sheet = s;
            looks.add(x -> "sheet " + sheet + sizes(x, sheet));
            looks.add(x -> "numbers of " + sheet + numbers(x, sheet));
        }
        return looks;
    }

    private static String counts(ThreeEmpties x) {
        StringBuilder s = new StringBuilder(" counts");
        for (int what = 0; what <= 10; what++) {
            s.append(' ').append(x.count(what));
        }
        return s.toString();
    }

    private static String toldRates(ThreeEmpties x) {
        StringBuilder s = new StringBuilder(" rates");
        for (int r = 0; r < 6; r++) {
            s.append(' ').append(Check.rateOf(x, r));
        }
        return s.toString();
    }

    private static String laws(ThreeEmpties x) {
        StringBuilder s = new StringBuilder(" laws ").append(x.count(9));
        for (int t = 0; t <= 6; t++) {
            s.append(' ').append(x.force(t)).append(':');
            for (int part = 0; part <= 2; part++) {
                s.append(x.asks(part)).append(',');
            }
        }
        return s.toString();
    }

    private static String sizes(ThreeEmpties x, int sheet) {
        StringBuilder s = new StringBuilder(" judged ").append(x.judge(sheet)).append(" cells");
        for (int i = -1; i <= 40; i++) {
            s.append(' ').append(x.cell(sheet, i, 0));
        }
        for (int sort = 0; sort < 3; sort++) {
            s.append(" sort ").append(x.ratesBy(sheet, sort, 0, 0));
        }
        return s.toString();
    }

    /** The numbers of a sheet show as rates: three by three, from each place on. */
    private static String numbers(ThreeEmpties x, int sheet) {
        StringBuilder s = new StringBuilder();
        for (int at = 0; at < 39; at++) {
            x.back();
            int r = x.count(7);
            for (int sort = 0; sort < 3; sort++) {
                s.append(' ').append(x.ratesBy(sheet, sort, at, 1));
            }
            s.append(Check.rateOf(x, r));
        }
        return s.toString();
    }

    // ---- refusals

    private static void oneHas() {
        Check.about("2 set");
        int[] most = {999, 999, 999, 999, 99, 999, 99};
        for (State state : ALL) {
            for (int what : Check.outside(0, 6)) {
                for (int v : new int[] {0, -1, 1000}) {
                    state.refuses("set(" + what + ", " + v + ")", x -> x.set(what, v), NONE);
                }
            }
            for (int w = 0; w <= 6; w++) {
                int what = w;
                for (int v : Check.outside(0, most[what])) {
                    state.refuses("set(" + what + ", " + v + ")", x -> x.set(what, v), BAD);
                }
            }
        }
        Check.about("3 count");
        for (int what : Check.outside(0, 10)) {
            SOME.refuses("count(" + what + ")", x -> x.count(what), BAD);
        }
    }

    private static void tapeAndTexts() {
        Check.about("4 feed");
        for (State state : ALL) {
            for (int n : Check.outside(1, 5)) {
                state.refuses("feed(" + n + ", ..)", x -> x.feed(n, 65, 66, 67, 68, 69), BAD);
            }
            for (int b : Check.outside(0, 255)) {
                for (int k = 1; k <= 5; k++) {
                    int n = k;
                    state.refuses("feed a " + b, x -> x.feed(n, b, 0, 0, 0, 0), BAD);
                    state.refuses("feed b " + b, x -> x.feed(n, 0, b, 0, 0, 0), BAD);
                    state.refuses("feed c " + b, x -> x.feed(n, 0, 0, b, 0, 0), BAD);
                    state.refuses("feed d " + b, x -> x.feed(n, 0, 0, 0, b, 0), BAD);
                    state.refuses("feed e " + b, x -> x.feed(n, 0, 0, 0, 0, b), BAD);
                }
            }
        }
        for (int k = 3; k <= 5; k++) {
            int n = k;
            FILLED.refuses("two have room, not " + n, x -> x.feed(n, 65, 66, 67, 68, 69), FULL);
        }
        Check.about("5 text");
        FILLED.refuses("no room for a text, whose tape ends too early", x -> x.text(), FULL);
        Check.about("6 force");
        for (State state : ALL) {
            for (int t : Check.outside(0, state.texts - 1)) {
                state.refuses("force(" + t + ")", x -> x.force(t), BAD);
            }
        }
        Check.about("7 asks");
        for (int part : Check.outside(0, 2)) {
            SOME.refuses("asks(" + part + ")", x -> x.asks(part), BAD);
        }
    }

    private static void rates() {
        Check.about("8 rate");
        for (State state : ALL) {
            for (int kind : Check.outside(0, 5)) {
                state.refuses("rate(" + kind + ", 13, 0)", x -> x.rate(kind, 13, 0), BAD);
            }
            for (int more : Check.outside(0, 9)) {
                state.refuses("rate(0, 13, " + more + ")", x -> x.rate(0, 13, more), BAD);
            }
            for (int st = -50; st <= 150; st++) {
                int sortTold = st;
                if (st / 10 < 1 || st / 10 > 3 || st % 10 == 0) {
                    state.refuses("rate(0, " + sortTold + ", 0)", x -> x.rate(0, sortTold, 0), BAD);
                }
            }
            state.refuses("far", x -> x.rate(0, Check.FAR_ABOVE, 0), BAD);
            state.refuses("far", x -> x.rate(0, Check.FAR_BELOW, 0), BAD);
        }
        FILLED.refuses("a sixth", x -> x.rate(0, 13, 0), FULL);
    }

    private static void changesAndTold() {
        for (State state : ALL) {
            for (int r : Check.outside(0, state.rates - 1)) {
                Check.about("9 change");
                state.refuses("change(" + r + ", 0, 0)", x -> x.change(r, 0, 0), -5);
                state.refuses("-5 ahead of -7", x -> x.change(r, 6, 0), -5);
                state.refuses("-5 ahead of -7", x -> x.change(r, 0, 10), -5);
                Check.about("10 told");
                for (int what = -1; what <= 7; what++) {
                    int w = what;
                    state.refuses("told(" + r + ", " + w + ")", x -> x.told(r, w), -5);
                }
            }
            for (int k = 0; k < state.rates; k++) {
                int r = k;
                Check.about("9 change");
                for (int kind : Check.outside(0, 5)) {
                    state.refuses("change(" + r + ", " + kind + ", 0)", x -> x.change(r, kind, 0), -7);
                }
                for (int more : Check.outside(0, 9)) {
                    state.refuses("change(" + r + ", 0, " + more + ")", x -> x.change(r, 0, more), -7);
                }
                Check.about("10 told");
                for (int what : Check.outside(0, 6)) {
                    state.refuses("told(" + r + ", " + what + ")", x -> x.told(r, what), -7);
                }
            }
        }
    }

    private static void movesRefused() {
        for (State state : ALL) {
            for (int move : Check.outside(0, state.rates)) {
                Check.about("11 can");
                state.refuses("can(" + move + ")", x -> x.can(move), -5);
                Check.about("12 move");
                state.refuses("move(" + move + ")", x -> x.move(move), -5);
            }
        }
        NEW.refuses("nothing to drink", x -> x.move(0), STATE);
        SOME.refuses("shut", x -> x.move(2), STATE);
        SOME.refuses("too few empties, what is owed is all that is lent", x -> x.move(1), STATE);
        FILLED.refuses("999 are drunk", x -> x.move(0), STATE);
        for (int r = 1; r <= 5; r++) {
            int move = r;
            FILLED.refuses("no room for fulls", x -> x.move(move), STATE);
        }
    }

    private static void movesAsked() {
        for (State state : ALL) {
            Check.about("13 all");
            for (int what : Check.outside(0, 6)) {
                state.refuses("all(" + what + ")", x -> x.all(what), BAD);
            }
            Check.about("14 go");
            for (int n : Check.outside(0, 200)) {
                state.refuses("go(" + n + ")", x -> x.go(n), BAD);
            }
            Check.about("15 next");
            for (int k : Check.outside(0, 199)) {
                state.refuses("next(" + k + ")", x -> x.next(k), BAD);
            }
            Check.about("16 best");
            for (int n : Check.outside(0, 6)) {
                state.refuses("best(" + n + ", 0)", x -> x.best(n, 0), BAD);
                state.refuses("best(" + n + ", 1)", x -> x.best(n, 1), BAD);
            }
            for (int what : Check.outside(0, 1)) {
                state.refuses("best(0, " + what + ")", x -> x.best(0, what), BAD);
                state.refuses("best(2, " + what + ")", x -> x.best(2, what), BAD);
            }
        }
    }

    private static void buying() {
        for (State state : ALL) {
            for (int n : Check.outside(0, 999)) {
                Check.about("17 least");
                state.refuses("least(" + n + ", 0)", x -> x.least(n, 0), BAD);
                state.refuses("least(" + n + ", 1)", x -> x.least(n, 1), BAD);
                Check.about("18 bought");
                state.refuses("bought(" + n + ", 0)", x -> x.bought(n, 0), NO);
                state.refuses("bought(0, " + n + ")", x -> x.bought(0, n), NO);
            }
            Check.about("17 least");
            for (int how : Check.outside(0, 1)) {
                state.refuses("least(0, " + how + ")", x -> x.least(0, how), BAD);
                state.refuses("a number ahead of \"none\"", x -> x.least(999, how), BAD);
            }
            Check.about("19 friends");
            for (int n : Check.outside(0, 60)) {
                state.refuses("friends(" + n + ", 0)", x -> x.friends(n, 0), -100000);
                state.refuses("friends(0, " + n + ")", x -> x.friends(0, n), -100000);
                state.refuses("friends, both", x -> x.friends(n, n), -100000);
            }
            Check.about("20 worth");
            for (int r : Check.outside(0, state.rates - 1)) {
                state.refuses("worth(" + r + ")", x -> x.worth(r), -100000);
            }
        }
    }

    private static void days() {
        for (State state : ALL) {
            for (int what : Check.outside(0, 1)) {
                Check.about("21 never");
                state.refuses("never(" + what + ")", x -> x.never(what), BAD);
                Check.about("22 when");
                state.refuses("when(" + what + ")", x -> x.when(what), BAD);
            }
        }
    }

    private static void toldMoves() {
        for (State state : ALL) {
            for (int s : Check.outside(0, 3)) {
                Check.about("23 judge");
                state.refuses("judge(" + s + ")", x -> x.judge(s), BAD);
                Check.about("24 behind");
                state.refuses("behind(" + s + ", 0)", x -> x.behind(s, 0), BAD);
                state.refuses("BAD ahead of -7", x -> x.behind(s, 7), BAD);
                Check.about("25 film");
                state.refuses("film(" + s + ", 0)", x -> x.film(s, 0), BAD);
                state.refuses("BAD ahead of -7", x -> x.film(s, 41), BAD);
            }
            Check.about("23 judge");
            state.refuses("missing", x -> x.judge(3), -11);
            Check.about("24 behind");
            state.refuses("missing", x -> x.behind(3, 0), -11);
            state.refuses("-11 ahead of -7", x -> x.behind(3, 7), -11);
            Check.about("25 film");
            for (int n : Check.outside(0, 40)) {
                for (int k = 0; k <= 3; k++) {
                    int s = k;
                    state.refuses("film(" + s + ", " + n + ")", x -> x.film(s, n), -7);
                }
            }
            Check.about("26 laws");
            for (int much : Check.outside(0, 999)) {
                state.refuses("laws(" + much + ")", x -> x.laws(much), BAD);
            }
        }
        Check.about("24 behind");
        for (int what : Check.outside(0, 6)) {
            SOME.refuses("behind(1, " + what + ")", x -> x.behind(1, what), -7);
            SOME.refuses("-7 ahead of -9", x -> x.behind(0, what), -7);
        }
        for (int k = 0; k <= 6; k++) {
            int what = k;
            SOME.refuses("13 is no move", x -> x.behind(0, what), -9);
        }
    }

    private static void byLot() {
        for (State state : ALL) {
            for (int seed : Check.outside(0, 99999)) {
                Check.about("27 drawn");
                state.refuses("drawn(" + seed + ", 0)", x -> x.drawn(seed, 0), BAD);
                Check.about("28 mean");
                state.refuses("mean(" + seed + ", 1, 1, 0)", x -> x.mean(seed, 1, 1, 0), NO);
            }
            for (int most : Check.outside(0, 200)) {
                Check.about("27 drawn");
                state.refuses("drawn(0, " + most + ")", x -> x.drawn(0, most), BAD);
                Check.about("28 mean");
                state.refuses("mean(0, 1, " + most + ", 0)", x -> x.mean(0, 1, most, 0), NO);
            }
            for (int seeds : Check.outside(1, 30)) {
                state.refuses("mean(0, " + seeds + ", 1, 0)", x -> x.mean(0, seeds, 1, 0), NO);
                state.refuses("mean(0, " + seeds + ", 1, 1)", x -> x.mean(0, seeds, 1, 1), NO);
            }
            for (int part : Check.outside(0, 1)) {
                state.refuses("mean(0, 1, 1, " + part + ")", x -> x.mean(0, 1, 1, part), NO);
            }
        }
        Check.about("30 back");
        NEW.refuses("no image", x -> x.back(), STATE);
    }

    private static void sheets() {
        for (State state : ALL) {
            for (int s : Check.outside(0, 3)) {
                Check.about("31 sheet");
                for (int sort = -1; sort <= 3; sort++) {
                    int q = sort;
                    state.refuses("sheet(" + s + ", " + q + ", 1)", x -> x.sheet(s, q, 1), BAD);
                    state.refuses("BAD ahead of -14", x -> x.sheet(s, q, -1), BAD);
                }
                Check.about("32 cell");
                state.refuses("cell(" + s + ", 0, 1)", x -> x.cell(s, 0, 1), BAD);
                state.refuses("BAD ahead of -12", x -> x.cell(s, -1, 1), BAD);
            }
            Check.about("31 sheet");
            for (int k = 0; k <= 3; k++) {
                int s = k;
                for (int sort : Check.outside(-1, 2)) {
                    for (int n : new int[] {-1, 0, 40, 41}) {
                        state.refuses("sheet(" + s + ", " + sort + ", " + n + ")", x -> x.sheet(s, sort, n), BAD);
                    }
                }
                for (int q = 0; q <= 2; q++) {
                    int sort = q;
                    state.refuses("41", x -> x.sheet(s, sort, 41), BAD);
                    state.refuses("far above", x -> x.sheet(s, sort, Check.FAR_ABOVE), BAD);
                    state.refuses("-1", x -> x.sheet(s, sort, -1), -14);
                    state.refuses("far below", x -> x.sheet(s, sort, Check.FAR_BELOW), -14);
                }
            }
            Check.about("32 cell");
            for (int i : new int[] {0, -1, 40}) {
                state.refuses("missing, ahead of -12", x -> x.cell(3, i, 1), -11);
            }
        }
        for (int s = 0; s < 3; s++) {
            int sheet = s;
            for (int i : Check.outside(0, new int[] {6, 3, 7}[s] - 1)) {
                SOME.refuses("cell(" + sheet + ", " + i + ", 1)", x -> x.cell(sheet, i, 1), -12);
            }
            for (int i : Check.outside(0, 39)) {
                FILLED.refuses("cell(" + sheet + ", " + i + ", 1)", x -> x.cell(sheet, i, 1), -12);
            }
        }
    }

    private static void copies() {
        Check.about("33 copy");
        for (State state : ALL) {
            for (int s : Check.outside(0, 3)) {
                for (int k = 0; k <= 3; k++) {
                    int other = k;
                    state.refuses("copy(" + s + ", 0, " + other + ", ..)", x -> x.copy(s, 0, other, 0, 1), BAD);
                    state.refuses("copy(" + other + ", 0, " + s + ", ..)", x -> x.copy(other, 0, s, 0, 1), BAD);
                    state.refuses("BAD ahead of -12", x -> x.copy(other, 0, s, 0, -1), BAD);
                }
                state.refuses("both", x -> x.copy(s, 0, s, 0, 0), BAD);
            }
            for (int k = 0; k <= 3; k++) {
                int other = k;
                state.refuses("from a missing one", x -> x.copy(3, 0, other, 0, 0), -11);
                state.refuses("to a missing one", x -> x.copy(other, 0, 3, 0, 0), -11);
                state.refuses("-11 ahead of -12", x -> x.copy(other, -1, 3, 41, -1), -11);
            }
        }
        for (State state : new State[] {SOME, FILLED}) {
            for (int a = 0; a < 9; a++) {
                int s = a / 3;
                int other = a % 3;
                if (s != other) {
                    state.refuses("unlike sorts", x -> x.copy(s, 0, other, 0, 1), -13);
                    state.refuses("unlike sorts, none", x -> x.copy(s, 0, other, 0, 0), -13);
                    state.refuses("-13 ahead of -12", x -> x.copy(s, -1, other, 99, -1), -13);
                }
            }
        }
        // Sheet 2 has seven numbers.
        int[][] outside = {{-1, 0, 1}, {0, -1, 1}, {0, 0, -1}, {0, 0, 8}, {7, 0, 1}, {0, 7, 1}, {8, 0, 0}, {0, 8, 0},
            {-1, 0, 0}, {0, -1, 0}, {3, 0, 5}, {0, 3, 5}, {6, 6, 2}, {Check.FAR_ABOVE, 0, 1}, {0, Check.FAR_ABOVE, 1},
            {0, 0, Check.FAR_ABOVE}, {7, 7, Check.FAR_ABOVE}, {Check.FAR_BELOW, 0, 1}, {0, Check.FAR_BELOW, 1},
            {0, 0, Check.FAR_BELOW}, {Check.FAR_ABOVE, Check.FAR_ABOVE, Check.FAR_ABOVE},
            {Check.FAR_BELOW, Check.FAR_BELOW, Check.FAR_BELOW}, {1, 1, Check.FAR_BELOW}};
        for (int[] o : outside) {
            SOME.refuses("copy(2, " + o[0] + ", 2, " + o[1] + ", " + o[2] + ")", x -> x.copy(2, o[0], 2, o[1], o[2]), -12);
        }
    }

    private static void ratesBySheets() {
        Check.about("34 ratesBy");
        for (State state : ALL) {
            for (int s : Check.outside(0, 3)) {
                state.refuses("ratesBy(" + s + ", 0, 0, 0)", x -> x.ratesBy(s, 0, 0, 0), BAD);
                state.refuses("BAD ahead of -12", x -> x.ratesBy(s, 0, -1, 1), BAD);
            }
            for (int k = 0; k <= 3; k++) {
                int s = k;
                for (int sort : Check.outside(0, 2)) {
                    state.refuses("ratesBy(" + s + ", " + sort + ", 0, 0)", x -> x.ratesBy(s, sort, 0, 0), BAD);
                }
                for (int n : Check.outside(0, 5)) {
                    state.refuses("ratesBy(" + s + ", " + s % 3 + ", 0, " + n + ")", x -> x.ratesBy(s, s % 3, 0, n), BAD);
                    state.refuses("BAD ahead of -13", x -> x.ratesBy(s, (s + 1) % 3, 0, n), BAD);
                }
            }
            for (int k = 0; k <= 2; k++) {
                int sort = k;
                state.refuses("missing", x -> x.ratesBy(3, sort, 0, 0), -11);
                state.refuses("-11 ahead of -12", x -> x.ratesBy(3, sort, -1, 1), -11);
            }
        }
        for (int k = 0; k < 9; k++) {
            int s = k / 3;
            int sort = k % 3;
            if (s != sort) {
                SOME.refuses("another sort", x -> x.ratesBy(s, sort, 0, 0), -13);
                SOME.refuses("-13 ahead of -12", x -> x.ratesBy(s, sort, -1, 1), -13);
            }
        }
        // None stood ahead: sheet 0 has six numbers.
        for (int at : new int[] {-1, 4, 5, 6, 7, Check.FAR_BELOW, Check.FAR_ABOVE, Check.FAR_ABOVE - 2}) {
            for (int n = 1; n <= 5; n++) {
                int many = n;
                SOME.refuses("ratesBy(0, 0, " + at + ", " + many + ")", x -> x.ratesBy(0, 0, at, many), -12);
            }
        }
    }

    private static void takenFrom() {
        Check.about("35 taken");
        for (State state : ALL) {
            for (int kind : Check.outside(0, 6)) {
                for (int i = -1; i <= 9; i++) {
                    int place = i;
                    state.refuses("taken(" + place + ", " + kind + ")", x -> x.taken(place, kind), BAD);
                }
            }
            for (int kind = 0; kind <= 6; kind++) {
                int k = kind;
                for (int i : Check.outside(0, 8)) {
                    state.refuses("taken(" + i + ", " + k + ")", x -> x.taken(i, k), -12);
                }
                for (int r = state.rates; r < 5; r++) {
                    int i = 4 + r;
                    state.refuses("no rate, ahead of -13", x -> x.taken(i, k), -11);
                }
                for (int sort = 0; sort <= 3; sort++) {
                    int i = sort;
                    NEW.refuses("nothing, ahead of -13", x -> x.taken(i, k), -11);
                    if (k < 6) {
                        SOME.refuses("a sort is no rate", x -> x.taken(i, k), -13);
                    }
                }
            }
            for (int r = 0; r < state.rates; r++) {
                int i = 4 + r;
                state.refuses("a rate is no sort", x -> x.taken(i, 6), -13);
            }
        }
    }

    // ---- what is asked

    private static void asking() {
        Check.about("what is asked changes nothing");
        for (State state : ALL) {
            List<Call> calls = new ArrayList<>(List.of(x -> x.can(0), x -> x.can(1), x -> x.next(0), x -> x.next(199),
                x -> x.best(4, 0), x -> x.best(4, 1), x -> x.least(13, 0), x -> x.least(3, 1), x -> x.bought(13, 1),
                x -> x.friends(60, 60), x -> x.friends(9, 1), x -> x.worth(0), x -> x.worth(4), x -> x.never(0),
                x -> x.never(1), x -> x.when(0), x -> x.when(1), x -> x.laws(9), x -> x.drawn(7, 200),
                x -> x.mean(5, 30, 200, 0), x -> x.mean(5, 30, 200, 1), x -> x.go(0)));
            for (int k = 0; k <= 10; k++) {
                int what = k;
                calls.addAll(List.of(x -> x.count(what), x -> x.all(what), x -> x.asks(what), x -> x.told(0, what),
                    x -> x.judge(what), x -> x.behind(1, what), x -> x.taken(what, 6), x -> x.taken(what, 0)));
            }
            for (Call call : calls) {
                state.keeps("a question", call, null);
            }
        }
    }
}
