import java.math.BigInteger;
import java.util.ArrayList;
import java.util.Arrays;
import java.util.List;
import java.util.Map;

/** The document once more, written another way (kinds as classes, texts by Grammar), to compare with. */
final class Model {
    static class Rate {
        int sort, told, more, kind;
        int takes(int d) { return told; }
        int gives(int d) { return 1; }
        int lends() { return 0; }
    }

    static class Lending extends Rate {
        @Override int lends() { return super.lends() + 1; }
    }

    static class Dayed extends Rate {
        @Override int takes(int d) { return super.takes(d) + (d % 2 != 0 ? more : 0); }
    }

    static class Club extends Lending {
        @Override int gives(int d) { return super.gives(d) * (takes(d) > 5 ? 2 : 1); }
        @Override int lends() { return super.lends() + more; }
    }

    static class Monday extends Dayed {
        @Override int gives(int d) { return d % 7 == more % 7 ? super.gives(d) + 1 : 0; }
    }

    static class Cheap extends Rate {
        @Override int takes(int d) { return d >= more ? Math.max(1, super.takes(d) - 1) : super.takes(d); }
    }

    static Rate rateOf(int kind, int sort, int told, int more) {
        Rate r = kind == 0 ? new Rate() : kind == 1 ? new Lending() : kind == 2 ? new Dayed()
            : kind == 3 ? new Club() : kind == 4 ? new Monday() : new Cheap();
        r.kind = kind;
        r.sort = sort;
        r.told = told;
        r.more = more;
        return r;
    }

    /** How one stands: 0 .. 3 the sorts, 4 owes, 5 drunk, 6 the day. */
    static final class Stand {
        int[] v = new int[7];
        Stand twin() {
            Stand s = new Stand();
            s.v = v.clone();
            return s;
        }
        Map<String, Integer> named() {
            return Map.of("day", v[6], "drunk", v[5], "full", v[0], "empty", v[1], "cork", v[2], "label", v[3]);
        }
    }

    Stand stand = new Stand();
    List<Rate> rates = new ArrayList<>();
    List<Grammar> texts = new ArrayList<>();
    int law = 0;
    List<Byte> tape = new ArrayList<>();
    Object[] sheets = new Object[4];
    Stand keptStand;
    List<Rate> keptRates;
    int keptLaw;

    Model() {
        texts.add(new Grammar("drinks 1 ; worth 5 ; breaks 10 ;".getBytes()));
    }

    static boolean in(int v, int low, int high) {
        return low <= v && v <= high;
    }

    int says(int t, int part, Stand s) {
        int most = part == 0 ? 3 : part == 1 ? 99 : 100;
        return Math.min(most, Math.max(0, texts.get(t).says(part, s.named())));
    }

    /** How one stands behind a move; null if it can't be. */
    Stand behindMove(Stand s, int m, int t, List<Rate> rates) {
        Stand n = s.twin();
        if (m == 0) {
            if (s.v[0] == 0 || s.v[5] >= 999) {
                return null;
            }
            int come = says(t, 0, s);
            n.v[0]--;
            n.v[5]++;
            for (int k = 0; k < come; k++) {
                if (n.v[4] > 0) {
                    n.v[4]--;
                } else if (n.v[1] < 999) {
                    n.v[1]++;
                }
            }
            n.v[2] = Math.min(999, n.v[2] + 1);
            n.v[3] = Math.min(999, n.v[3] + 1);
            return n;
        }
        Rate r = rates.get(m - 1);
        int d = s.v[6];
        if (r.gives(d) == 0 || s.v[0] + r.gives(d) > 999) {
            return null;
        }
        int owed = 0;
        for (int k = 0; k < r.takes(d); k++) {
            if (n.v[r.sort] > 0) {
                n.v[r.sort]--;
            } else {
                owed++;
            }
        }
        if (owed > 0 && (r.sort != 1 || owed > r.lends() - s.v[4])) {
            return null;
        }
        n.v[4] += owed;
        n.v[0] += r.gives(d);
        return n;
    }

    int pick(Stand s, int t, List<Rate> rates) {
        for (int m = 0; m <= rates.size(); m++) {
            if (behindMove(s, m, t, rates) != null) {
                return m;
            }
        }
        return -1;
    }

    /** The moves greedily; "end" is left as one stands then. */
    List<Integer> greedily(Stand from, int n, int t, List<Rate> rates, Stand end) {
        List<Integer> moves = new ArrayList<>();
        Stand s = from;
        while (moves.size() < n && pick(s, t, rates) >= 0) {
            int m = pick(s, t, rates);
            s = behindMove(s, m, t, rates);
            moves.add(m);
        }
        end.v = s.v.clone();
        return moves;
    }

    Stand end(Stand from) {
        Stand e = new Stand();
        greedily(from, 200, law, rates, e);
        return e;
    }

    Stand with(int fulls) {
        Stand s = stand.twin();
        s.v[0] = fulls;
        return s;
    }

    int set(int what, int v) {
        if (!in(what, 0, 6)) {
            return -1;
        }
        if (!in(v, 0, what == 4 || what == 6 ? 99 : 999)) {
            return -2;
        }
        int was = stand.v[what];
        stand.v[what] = v;
        return was;
    }

    int count(int what) {
        if (!in(what, 0, 10)) {
            return -2;
        }
        return what < 7 ? stand.v[what] : new int[] {rates.size(), texts.size(), law, tape.size()}[what - 7];
    }

    int feed(int n, int... five) {
        if (!in(n, 1, 5) || Arrays.stream(five).anyMatch(b -> !in(b, 0, 255))) {
            return -2;
        }
        if (tape.size() + n > 160) {
            return -4;
        }
        for (int i = 0; i < n; i++) {
            tape.add((byte) five[i]);
        }
        return tape.size();
    }

    int text() {
        if (texts.size() == 6) {
            return -4;
        }
        byte[] bytes = new byte[tape.size()];
        for (int i = 0; i < bytes.length; i++) {
            bytes[i] = tape.get(i);
        }
        tape.clear();
        Grammar g = new Grammar(bytes);
        if (g.fault() >= 0) {
            return -100 - g.fault();
        }
        texts.add(g);
        return texts.size() - 1;
    }

    int force(int t) {
        if (!in(t, 0, texts.size() - 1)) {
            return -2;
        }
        int was = law;
        law = t;
        return was;
    }

    int asks(int part) {
        return in(part, 0, 2) ? says(law, part, stand) : -2;
    }

    int rate(int kind, int sortTold, int more) {
        int sort = sortTold / 10;
        int told = sortTold - 10 * sort;
        if (!in(kind, 0, 5) || !in(sort, 1, 3) || !in(told, 1, 9) || !in(more, 0, 9)) {
            return -2;
        }
        if (rates.size() == 5) {
            return -4;
        }
        rates.add(rateOf(kind, sort, told, more));
        return rates.size() - 1;
    }

    int change(int r, int kind, int more) {
        if (!in(r, 0, rates.size() - 1)) {
            return -5;
        }
        if (!in(kind, 0, 5) || !in(more, 0, 9)) {
            return -7;
        }
        Rate was = rates.get(r);
        rates.set(r, rateOf(kind, was.sort, was.told, more));
        return was.kind;
    }

    int told(int r, int what) {
        if (!in(r, 0, rates.size() - 1)) {
            return -5;
        }
        if (!in(what, 0, 6)) {
            return -7;
        }
        Rate q = rates.get(r);
        int d = stand.v[6];
        return new int[] {q.kind, q.sort, q.told, q.more, q.takes(d), q.gives(d), q.lends()}[what];
    }

    int can(int move) {
        if (!in(move, 0, rates.size())) {
            return -5;
        }
        return behindMove(stand, move, law, rates) != null ? 1 : 0;
    }

    int move(int move) {
        if (!in(move, 0, rates.size())) {
            return -5;
        }
        Stand s = behindMove(stand, move, law, rates);
        if (s == null) {
            return -3;
        }
        stand = s;
        return stand.v[5];
    }

    int all(int what) {
        if (!in(what, 0, 6)) {
            return -2;
        }
        Stand e = new Stand();
        int moves = greedily(stand, 200, law, rates, e).size();
        return new int[] {e.v[5], moves, e.v[0], e.v[1], e.v[2], e.v[3], e.v[4]}[what];
    }

    int go(int n) {
        if (!in(n, 0, 200)) {
            return -2;
        }
        Stand e = new Stand();
        int moves = greedily(stand, n, law, rates, e).size();
        stand = e;
        return moves;
    }

    int next(int k) {
        if (!in(k, 0, 199)) {
            return -2;
        }
        List<Integer> moves = greedily(stand, 200, law, rates, new Stand());
        return k < moves.size() ? moves.get(k) : -1;
    }

    int best(int n, int what) {
        if (!in(n, 0, 6) || !in(what, 0, 1)) {
            return -2;
        }
        int[] most = new int[2];
        rows(stand, n, 0, 0, most);
        return most[what];
    }

    private void rows(Stand s, int n, int worth, int row, int[] most) {
        if (worth > most[0]) {
            most[0] = worth;
            most[1] = row;
        }
        for (int m = 0; n > 0 && m <= rates.size(); m++) {
            Stand then = behindMove(s, m, law, rates);
            if (then != null) {
                rows(then, n - 1, worth + (m == 0 ? says(law, 1, s) : 0), 10 * row + m + 1, most);
            }
        }
    }

    int least(int goal, int how) {
        if (!in(goal, 0, 999) || !in(how, 0, 1)) {
            return -2;
        }
        for (int f = 0; f <= 60; f++) {
            Stand e = end(with(f));
            if (e.v[5] >= goal && (how == 0 || e.v[0] + e.v[1] + e.v[4] == 0)) {
                return f;
            }
        }
        return -1;
    }

    long bought(int much, int empties) {
        if (!in(much, 0, 999) || !in(empties, 0, 999)) {
            return -(1L << 62);
        }
        long bits = 0;
        for (int f = 60; f >= 0; f--) {
            Stand e = end(with(f));
            bits = 2 * bits + (e.v[5] == much && e.v[1] == empties ? 1 : 0);
        }
        return bits;
    }

    int friends(int a, int b) {
        if (!in(a, 0, 60) || !in(b, 0, 60)) {
            return -100000;
        }
        int d = stand.v[5];
        return end(with(a + b)).v[5] - d - (end(with(a)).v[5] - d + end(with(b)).v[5] - d);
    }

    int worth(int r) {
        if (!in(r, 0, rates.size() - 1)) {
            return -100000;
        }
        List<Rate> others = new ArrayList<>(rates);
        others.remove(r);
        Stand e = new Stand();
        greedily(stand, 200, law, others, e);
        return end(stand).v[5] - e.v[5];
    }

    int never(int what) {
        if (!in(what, 0, 1)) {
            return -2;
        }
        int first = -1;
        int many = 0;
        int rows = 1;
        for (int r = 0; r < rates.size(); r++) {
            rows *= 10;
        }
        for (int row = 1; row < rows; row++) {
            if (neverEnds(row)) {
                first = many == 0 ? row : first;
                many++;
            }
        }
        return what == 0 ? first : many;
    }

    private boolean neverEnds(int row) {
        int d = stand.v[6];
        int fulls = 0;
        int[] taken = new int[4];
        int rest = row;
        for (int r = rates.size() - 1; r >= 0; r--) {
            int n = rest % 10;
            rest /= 10;
            if (n > 3 || n > 0 && rates.get(r).gives(d) == 0) {
                return false;
            }
            fulls += n * rates.get(r).gives(d);
            taken[rates.get(r).sort] += n * rates.get(r).takes(d);
        }
        return fulls > 0 && taken[1] <= fulls * says(law, 0, stand) && taken[2] <= fulls && taken[3] <= fulls;
    }

    int when(int what) {
        if (!in(what, 0, 1)) {
            return -2;
        }
        int[] drunk = new int[14];
        for (int k = 0; k < 14; k++) {
            Stand s = stand.twin();
            s.v[6] += k;
            drunk[k] = end(s).v[5];
        }
        int most = Arrays.stream(drunk).max().getAsInt();
        for (int k = 0; k < 14; k++) {
            if (drunk[k] == most) {
                return what == 0 ? k : most;
            }
        }
        return 0;
    }

    private int[] numbers(int s) {
        Object row = sheets[s];
        int[] n = new int[java.lang.reflect.Array.getLength(row)];
        for (int i = 0; i < n.length; i++) {
            n[i] = java.lang.reflect.Array.getInt(row, i);
        }
        return n;
    }

    int judge(int s) {
        if (!in(s, 0, 3)) {
            return -2;
        }
        return sheets[s] == null ? -11 : judged(s, new Stand());
    }

    private int judged(int s, Stand end) {
        int[] moves = numbers(s);
        Stand at = stand;
        for (int i = 0; i < moves.length; i++) {
            Stand then = in(moves[i], 0, rates.size()) ? behindMove(at, moves[i], law, rates) : null;
            if (then == null) {
                return i;
            }
            at = then;
        }
        end.v = at.v.clone();
        return -1;
    }

    int behind(int s, int what) {
        if (!in(s, 0, 3)) {
            return -2;
        }
        if (sheets[s] == null) {
            return -11;
        }
        if (!in(what, 0, 6)) {
            return -7;
        }
        Stand e = new Stand();
        return judged(s, e) == -1 ? e.v[what] : -9;
    }

    int film(int s, int n) {
        if (!in(s, 0, 3)) {
            return -2;
        }
        if (!in(n, 0, 40)) {
            return -7;
        }
        List<Integer> moves = greedily(stand, n, law, rates, new Stand());
        sheets[s] = moves.stream().mapToInt(m -> m).toArray();
        return moves.size();
    }

    int laws(int much) {
        if (!in(much, 0, 999)) {
            return -2;
        }
        int bits = 0;
        for (int t = 0; t < texts.size(); t++) {
            Stand e = new Stand();
            greedily(stand, 200, t, rates, e);
            bits += e.v[5] == much ? 1 << t : 0;
        }
        return bits;
    }

    int drawn(int seed, int most) {
        return in(seed, 0, 99999) && in(most, 0, 200) ? byLot(seed, most) : -2;
    }

    private int byLot(int seed, int most) {
        BigInteger lot = BigInteger.valueOf(seed + 1L);
        Stand s = stand;
        for (int k = 0; k < most && pick(s, law, rates) >= 0; k++) {
            int m = pick(s, law, rates);
            Stand then = behindMove(s, m, law, rates);
            if (m == 0) {
                lot = lot.multiply(BigInteger.valueOf(48271)).mod(BigInteger.valueOf(2147483647));
                if (lot.mod(BigInteger.valueOf(100)).intValue() < says(law, 2, s)) {
                    then.v[1] = Math.max(0, then.v[1] - 1);
                }
            }
            s = then;
        }
        return s.v[5];
    }

    long mean(int seed, int seeds, int most, int part) {
        if (!in(seed, 0, 99999) || !in(seeds, 1, 30) || !in(most, 0, 200) || !in(part, 0, 1)) {
            return -(1L << 62);
        }
        int sum = 0;
        for (int k = 0; k < seeds; k++) {
            sum += byLot(seed + k, most);
        }
        int g = BigInteger.valueOf(sum).gcd(BigInteger.valueOf(seeds)).intValue();
        return part == 0 ? sum / g : seeds / g;
    }

    int image() {
        keptStand = stand.twin();
        keptRates = new ArrayList<>(rates);
        keptLaw = law;
        return rates.size();
    }

    int back() {
        if (keptStand == null) {
            return -3;
        }
        stand = keptStand.twin();
        rates = new ArrayList<>(keptRates);
        law = keptLaw;
        return rates.size();
    }

    int sheet(int s, int sort, int n) {
        if (!in(s, 0, 3) || !in(sort, -1, 2) || sort >= 0 && n > 40) {
            return -2;
        }
        if (sort >= 0 && n < 0) {
            return -14;
        }
        sheets[s] = sort < 0 ? null : sort == 0 ? new byte[n] : sort == 1 ? new short[n] : new int[n];
        return 1;
    }

    int cell(int s, int i, int v) {
        if (!in(s, 0, 3)) {
            return -2;
        }
        try {
            if (sheets[s] instanceof byte[] b) {
                b[i] = (byte) v;
            } else if (sheets[s] instanceof short[] h) {
                h[i] = (short) v;
            } else {
                ((int[]) sheets[s])[i] = v;
            }
            return 1;
        } catch (NullPointerException e) {
            return -11;
        } catch (ArrayIndexOutOfBoundsException e) {
            return -12;
        }
    }

    int copy(int s, int i, int other, int j, int n) {
        if (!in(s, 0, 3) || !in(other, 0, 3)) {
            return -2;
        }
        try {
            System.arraycopy(sheets[s], i, sheets[other], j, n);
            return n;
        } catch (NullPointerException e) {
            return -11;
        } catch (ArrayStoreException e) {
            return -13;
        } catch (IndexOutOfBoundsException e) {
            return -12;
        }
    }

    int ratesBy(int s, int sort, int at, int n) {
        if (!in(s, 0, 3) || !in(sort, 0, 2) || !in(n, 0, 5)) {
            return -2;
        }
        if (sheets[s] == null) {
            return -11;
        }
        if ((sheets[s] instanceof byte[] ? 0 : sheets[s] instanceof short[] ? 1 : 2) != sort) {
            return -13;
        }
        int came = 0;
        int place = at;
        try {
            int[] numbers = numbers(s);
            for (int k = 0; k < n; k++) {
                int kind = numbers[place++];
                int sortTold = numbers[place++];
                int more = numbers[place++];
                came += rate(kind, sortTold, more) >= 0 ? 1 : 0;
            }
        } catch (ArrayIndexOutOfBoundsException e) {
            return -12;
        }
        return came;
    }

    int taken(int i, int kind) {
        if (!in(kind, 0, 6)) {
            return -2;
        }
        if (!in(i, 0, 8)) {
            return -12;
        }
        Object lies = i < 4 ? (stand.v[i] > 0 ? (Object) stand.v[i] : null) : i - 4 < rates.size() ? rates.get(i - 4) : null;
        if (lies == null) {
            return -11;
        }
        Class<?>[] kinds = {Rate.class, Lending.class, Dayed.class, Club.class, Monday.class, Cheap.class, Integer.class};
        if (!kinds[kind].isInstance(lies)) {
            return -13;
        }
        return kind == 6 ? (Integer) lies : i - 4;
    }
}
