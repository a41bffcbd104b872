import java.util.ArrayList;
import java.util.Arrays;
import java.util.List;
import java.util.function.Predicate;
import java.util.function.ToIntFunction;

/** The document once more, written as slowly and as near to its words as can be; ModelTest compares it with HullTank. */
final class Model {
    static final class Fault extends RuntimeException {
        private static final long serialVersionUID = 1;
        final int told;
        Fault(int number, int place) { super(null, null, false, false); told = -1000 * number - place; }
    }

    static final class Refused extends RuntimeException {
        private static final long serialVersionUID = 1;
        Refused() { super(null, null, false, false); }
    }

    static final class Clause {
        char letter;
        ToIntFunction<int[]> sum;
        Predicate<int[]> condition;
    }

    static final class Corner {
        int kind, radius, thick, reach;
        List<int[]> lives = new ArrayList<>();
    }

    static final class State {
        int wear, crack, most, cracked, ran;
    }

    static final class Hull {
        int[] chosen;
        State[] states;
        int pulls, lost = -1;
    }

    static final class Trial {
        int piece, pressure, n, cost;
        int[] program;
    }

    List<Corner> corners = new ArrayList<>();
    List<Clause> law = new ArrayList<>();
    int[][] programs = new int[8][0];
    List<Hull> hulls = new ArrayList<>();
    List<Trial> trials = new ArrayList<>();
    List<Integer> priors = new ArrayList<>();
    List<Integer> seen = new ArrayList<>();
    int[][] tens = new int[10][6];
    int[][] cells = new int[6][40];
    List<int[]> bed = new ArrayList<>();
    int speed = 1, least = 0, greatest = 0;
    List<Integer> tape = new ArrayList<>();

    Model() { for (int[] row : tens) Arrays.fill(row, 5); }

    // ---- the law

    private String text;
    private int place;
    private int open;

    private char sign() { return place < text.length() ? text.charAt(place) : (char) 999; }

    private void need(char c) { if (sign() != c) throw new Fault(1, place); place++; }

    private String firstOf(int n) {
        StringBuilder s = new StringBuilder();
        for (int i = 0; i < n; i++) s.append((char) (int) tape.get(i));
        return s.toString();
    }

    int law(int n) {
        if (n < 1 || n > 160 || n > tape.size()) return -1;
        text = firstOf(n);
        place = 0;
        open = 0;
        tape.clear();
        try {
            List<Clause> fresh = new ArrayList<>();
            while (true) {
                Clause c = new Clause();
                c.letter = sign();
                if ("qdg".indexOf(c.letter) < 0) throw new Fault(1, place);
                if (fresh.size() == 12) throw new Fault(4, place);
                place++;
                c.sum = sum();
                if (sign() != '(') throw new Fault(1, place);
                c.condition = piece();
                fresh.add(c);
                if (place == text.length()) break;
                need(';');
            }
            law = fresh;
            return law.size();
        } catch (Fault f) {
            return f.told;
        }
    }

    private void openOne() {
        if (open == 6) throw new Fault(5, place);
        open++;
        place++;
    }

    private Predicate<int[]> choice() {
        Predicate<int[]> p = part();
        while (sign() == '|') { place++; p = p.or(part()); }
        return p;
    }

    private Predicate<int[]> part() {
        Predicate<int[]> p = piece();
        while (sign() == '&') { place++; p = p.and(piece()); }
        return p;
    }

    private Predicate<int[]> piece() {
        if (sign() == '!') {
            openOne();
            Predicate<int[]> p = piece();
            open--;
            return p.negate();
        }
        if (sign() == '(') {
            openOne();
            Predicate<int[]> p = choice();
            need(')');
            open--;
            return p;
        }
        ToIntFunction<int[]> a = sum();
        char by = sign();
        if ("<>=".indexOf(by) < 0) throw new Fault(1, place);
        place++;
        ToIntFunction<int[]> b = sum();
        return v -> {
            int x = a.applyAsInt(v), y = b.applyAsInt(v);
            return by == '<' ? x < y : by == '>' ? x > y : x == y;
        };
    }

    private ToIntFunction<int[]> sum() {
        ToIntFunction<int[]> a = term();
        while (sign() == '+' || sign() == '-') {
            boolean plus = sign() == '+';
            place++;
            ToIntFunction<int[]> l = a, r = term();
            a = v -> { int x = l.applyAsInt(v), y = r.applyAsInt(v); return plus ? x + y : x - y; };
        }
        return a;
    }

    private ToIntFunction<int[]> term() {
        ToIntFunction<int[]> a = factor();
        while (sign() == '*' || sign() == '/' || sign() == '%') {
            char by = sign();
            place++;
            ToIntFunction<int[]> l = a, r = factor();
            a = v -> {
                int x = l.applyAsInt(v), y = r.applyAsInt(v);
                if (by == '*') return x * y;
                if (y == 0) throw new Refused();
                return by == '/' ? x / y : x % y;
            };
        }
        return a;
    }

    private ToIntFunction<int[]> factor() {
        char c = sign();
        if (c == '[') {
            openOne();
            ToIntFunction<int[]> a = sum();
            need(']');
            open--;
            return a;
        }
        int letter = "prtkcnqhlw".indexOf(c);
        if (letter >= 0) { place++; return v -> v[letter]; }
        if (c < '0' || c > '9') throw new Fault(1, place);
        int from = place;
        while (sign() >= '0' && sign() <= '9') {
            if (place - from == 5) throw new Fault(2, place);
            place++;
        }
        int number = Integer.parseInt(text.substring(from, place));
        return v -> number;
    }

    private int amount(char letter, int[] v, int most) {
        for (Clause c : law) {
            if (c.letter != letter) continue;
            boolean holds;
            try { holds = c.condition.test(v); } catch (Refused r) { holds = false; }
            if (!holds) continue;
            int x;
            try { x = c.sum.applyAsInt(v); } catch (Refused r) { x = 0; }
            return x < 0 ? 0 : x > most ? most : x;
        }
        return 0;
    }

    /** How much it is pulled, and how much it is worn or its crack grows by that. */
    private int[] reckon(int c, int pressure, int pulls, State s) {
        Corner corner = corners.get(c);
        int[] v = {pressure, corner.radius, corner.thick, corner.kind, c, pulls, 0, s.most, s.crack, s.wear};
        int q = amount('q', v, 10000);
        v[6] = q;
        return new int[] {q, s.crack == 0 ? amount('d', v, 100000) : amount('g', v, 10000)};
    }

    private void pullState(int c, int life, int pressure, int pulls, State s) {
        if (s.ran > 0) return;
        int[] now = reckon(c, pressure, pulls, s);
        if (s.crack == 0) {
            s.wear = Math.min(1000000, s.wear + now[1]);
            if (s.wear >= life) { s.crack = 1; s.cracked = pulls + 1; }
        } else {
            s.crack += now[1];
        }
        s.most = Math.max(s.most, now[0]);
        if (s.crack >= corners.get(c).reach) s.ran = pulls + 1;
    }

    private State follow(int c, int life, int[] row) {
        State s = new State();
        for (int i = 0; i < row.length; i++) pullState(c, life, row[i], i, s);
        return s;
    }

    // ---- programs

    int program(int k, int n) {
        if (k < 0 || k > 7 || n < 1 || n > 60 || n > tape.size()) return -1;
        String t = firstOf(n);
        tape.clear();
        try {
            programs[k] = readProgram(t);
            return programs[k].length;
        } catch (Fault f) {
            return f.told;
        }
    }

    private static int digits(String t, int from) {
        int i = from;
        while (i < t.length() && t.charAt(i) >= '0' && t.charAt(i) <= '9') i++;
        return i - from;
    }

    private static int[] readProgram(String t) {
        int[] row = new int[0];
        int at = 0;
        for (int part = 1; ; part++) {
            int d = digits(t, at);
            if (d == 0) throw new Fault(1, at);
            if (part == 9) throw new Fault(4, at);
            if (d > 2) throw new Fault(2, at + 2);
            int pressure = Integer.parseInt(t.substring(at, at + d));
            int told = at, end = at + d, times = 1;
            if (end < t.length() && t.charAt(end) == '*') {
                told = end + 1;
                int e = digits(t, told);
                if (e == 0) throw new Fault(1, told);
                if (e > 4) throw new Fault(2, told + 4);
                times = Integer.parseInt(t.substring(told, told + e));
                end = told + e;
            }
            if (times == 0 || row.length + times > 2000) throw new Fault(3, told);
            int before = row.length;
            row = Arrays.copyOf(row, before + times);
            Arrays.fill(row, before, row.length, pressure);
            if (end == t.length()) return row;
            if (t.charAt(end) != ';') throw new Fault(1, end);
            at = end + 1;
        }
    }

    private static int[] behind(int[] program, int pressure, int n) {
        int[] row = Arrays.copyOf(program, program.length + n);
        Arrays.fill(row, program.length, row.length, pressure);
        return row;
    }

    // ---- the calls

    int corner(int kind, int radius, int thick, int reach) {
        if (kind < 0 || kind > 3 || radius < 1 || radius > 50 || thick < 1 || thick > 50 || reach < 1 || reach > 10000) return -1;
        if (corners.size() == 8 || !hulls.isEmpty()) return -1;
        Corner c = new Corner();
        c.kind = kind; c.radius = radius; c.thick = thick; c.reach = reach;
        corners.add(c);
        return corners.size() - 1;
    }

    private boolean isCorner(int c) { return c >= 0 && c < corners.size(); }

    int life(int c, int life, int weight) {
        if (!isCorner(c) || life < 1 || life > 1000000 || weight < 1 || weight > 5) return -1;
        if (corners.get(c).lives.size() == 4 || !hulls.isEmpty()) return -1;
        corners.get(c).lives.add(new int[] {life, weight});
        return corners.get(c).lives.size() - 1;
    }

    int feed(int a, int b, int c, int d, int e) {
        if (tape.size() + 20 > 200) return -1;
        for (int x : new int[] {a, b, c, d, e}) {
            tape.add(x >>> 24);
            tape.add(x >>> 16 & 255);
            tape.add(x >>> 8 & 255);
            tape.add(x & 255);
        }
        return tape.size();
    }

    int pull(int c, int pressure, int what) {
        if (!isCorner(c) || pressure < 0 || pressure > 99 || what < 0 || what > 1) return -1;
        return reckon(c, pressure, 0, new State())[what];
    }

    int hull(int lives) {
        if (corners.isEmpty() || hulls.size() == 10 || lives < 0) return -1;
        Hull h = new Hull();
        h.chosen = new int[corners.size()];
        h.states = new State[corners.size()];
        int rest = lives;
        for (int c = 0; c < corners.size(); c++) {
            int digit = rest % 4;
            rest /= 4;
            int have = corners.get(c).lives.size();
            if (have == 0 ? digit != 0 : digit >= have) return -1;
            h.chosen[c] = have == 0 ? 0 : corners.get(c).lives.get(digit)[0];
            h.states[c] = new State();
        }
        if (rest != 0) return -1;
        hulls.add(h);
        return hulls.size() - 1;
    }

    int flown(int h, int pressure, int times) {
        if (h < 0 || h >= hulls.size() || pressure < 0 || pressure > 99 || times < 1 || times > 2000) return -1;
        Hull hull = hulls.get(h);
        if (hull.lost >= 0 || hull.pulls + times > 100000) return -1;
        int had = 0;
        while (had < times && hull.lost < 0) {
            for (int c = corners.size() - 1; c >= 0; c--) {
                if (hull.chosen[c] == 0) continue;
                pullState(c, hull.chosen[c], pressure, hull.pulls, hull.states[c]);
                if (hull.states[c].ran > 0) hull.lost = c;
            }
            had++;
            hull.pulls++;
        }
        return had;
    }

    int hullIs(int h, int what) {
        if (h < 0 || h >= hulls.size() || what < 0 || what > 1) return -1;
        return what == 0 ? hulls.get(h).pulls : hulls.get(h).lost;
    }

    int cornerIs(int h, int c, int what) {
        if (h < 0 || h >= hulls.size() || !isCorner(c) || what < 0 || what > 2) return -1;
        State s = hulls.get(h).states[c];
        return new int[] {s.wear, s.crack, s.most}[what];
    }

    int runs(int k, int c, int i, int what) {
        if (k < 0 || k > 7 || !isCorner(c) || i < 0 || i >= corners.get(c).lives.size() || what < 0 || what > 1) return -1;
        State s = follow(c, corners.get(c).lives.get(i)[0], programs[k]);
        return what == 0 ? s.cracked : s.ran;
    }

    /** Of each way of a piece: its weight, the pull by which the hull is lost (0: none) and the corner. */
    private List<long[]> ways(int piece, int[] row) {
        List<long[]> ways = new ArrayList<>();
        ways.add(new long[] {1, 0, -1});
        for (int c = 0; c < corners.size(); c++) {
            if ((piece & 1 << c) == 0 || corners.get(c).lives.isEmpty()) continue;
            List<long[]> more = new ArrayList<>();
            for (int[] life : corners.get(c).lives) {
                int ran = follow(c, life[0], row).ran;
                for (long[] way : ways) {
                    boolean earlier = ran > 0 && (way[1] == 0 || ran < way[1]);
                    more.add(new long[] {way[0] * life[1], earlier ? ran : way[1], earlier ? c : way[2]});
                }
            }
            ways = more;
        }
        return ways;
    }

    private static long sumOf(List<long[]> ways, Predicate<long[]> which) {
        long sum = 0;
        for (long[] way : ways) if (which.test(way)) sum += way[0];
        return sum;
    }

    private int every() { return (1 << corners.size()) - 1; }

    private boolean canFly(int k, int pressure, int n) {
        return k >= 0 && k < 8 && pressure >= 0 && pressure <= 99 && n >= 0 && n <= 2000 && programs[k].length + n <= 2000;
    }

    private static boolean lostBy(long[] way, int pull) { return way[1] > 0 && way[1] <= pull; }

    long odds(int k, int pressure, int n, int what) {
        if (!canFly(k, pressure, n) || what != -1 && what != 8 && !isCorner(what)) return -1;
        List<long[]> ways = ways(every(), behind(programs[k], pressure, n));
        return sumOf(ways, w -> what == -1 || w[1] > 0 && (what == 8 || w[2] == what));
    }

    private static long shortened(long above, long below, int what) {
        long g = java.math.BigInteger.valueOf(above).gcd(java.math.BigInteger.valueOf(below)).longValue();
        return (what == 0 ? above : below) / g;
    }

    long left(int k, int pressure, int n, int what) {
        if (!canFly(k, pressure, n) || what < 0 || what > 1) return -1;
        int pulls = programs[k].length;
        List<long[]> ways = ways(every(), behind(programs[k], pressure, n));
        long left = sumOf(ways, w -> !lostBy(w, pulls));
        if (left == 0) return -2;
        return shortened(sumOf(ways, w -> w[1] > pulls), left, what);
    }

    private boolean isPiece(int piece) { return piece > 0 && piece < 1 << corners.size(); }

    private int likelyBy(int piece, int[] program, int pressure, int thousandths) {
        int pulls = program.length;
        List<long[]> ways = ways(piece, behind(program, pressure, 2000 - pulls));
        long left = sumOf(ways, w -> !lostBy(w, pulls));
        if (left == 0) return -2;
        long[] by = new long[2001];
        for (long[] w : ways) by[(int) w[1]] += w[0];
        long lost = 0;
        for (int n = 0; pulls + n <= 2000; n++) {
            if (n > 0) lost += by[pulls + n];
            if (lost * 1000 >= thousandths * left) return n;
        }
        return -2;
    }

    int likely(int piece, int k, int pressure, int thousandths) {
        if (!isPiece(piece) || !canFly(k, pressure, 0) || thousandths < 1 || thousandths > 1000) return -1;
        return likelyBy(piece, programs[k], pressure, thousandths);
    }

    int off(int piece, int k, int pressure) {
        if (!isPiece(piece) || !canFly(k, pressure, 0)) return -100000;
        int a = likelyBy(piece, programs[k], pressure, 500);
        int b = likelyBy(every(), new int[0], pressure, 500);
        return a == -2 || b == -2 ? -100000 : a - b;
    }

    int trial(int piece, int k, int pressure, int n, int cost) {
        if (!isPiece(piece) || !canFly(k, pressure, n) || cost < 1 || cost > 10000 || trials.size() == 8) return -1;
        Trial t = new Trial();
        t.piece = piece; t.pressure = pressure; t.n = n; t.cost = cost; t.program = programs[k];
        trials.add(t);
        return trials.size() - 1;
    }

    private long[] said(Trial t) {
        List<long[]> ways = ways(t.piece, behind(t.program, t.pressure, t.n));
        return new long[] {sumOf(ways, w -> w[1] > 0), sumOf(ways, w -> true)};
    }

    long says(int i, int what) {
        if (i < 0 || i >= trials.size() || what < 0 || what > 1) return -1;
        long[] said = said(trials.get(i));
        return shortened(said[0], said[1], what);
    }

    int cheapest(int thousandths) {
        if (thousandths < 1 || thousandths > 1000) return -1;
        int best = -1;
        for (int i = 0; i < trials.size(); i++) {
            long[] said = said(trials.get(i));
            if (said[0] * 1000 < said[1] * thousandths) continue;
            if (best < 0 || trials.get(i).cost < trials.get(best).cost) best = i;
        }
        return best;
    }

    int story(int prior) {
        if (prior < 1 || prior > 100 || priors.size() == 6) return -1;
        priors.add(prior);
        return priors.size() - 1;
    }

    int find() {
        if (seen.size() == 10) return -1;
        seen.add(-1);
        return seen.size() - 1;
    }

    boolean tells(int f, int s, int ten) {
        if (f < 0 || f >= seen.size() || s < 0 || s >= priors.size() || ten < 0 || ten > 10) return false;
        tens[f][s] = ten;
        return true;
    }

    boolean seen(int f, int is) {
        if (f < 0 || f >= seen.size() || is < -1 || is > 1) return false;
        seen.set(f, is);
        return true;
    }

    private long weight(int s) {
        long x = priors.get(s);
        for (int f = 0; f < seen.size(); f++) {
            if (seen.get(f) == 1) x *= tens[f][s];
            if (seen.get(f) == 0) x *= 10 - tens[f][s];
        }
        return x;
    }

    long weighs(int s) {
        if (s < -1 || s >= priors.size()) return -1;
        if (s >= 0) return weight(s);
        long sum = 0;
        for (int i = 0; i < priors.size(); i++) sum += weight(i);
        return sum;
    }

    int moves() {
        if (priors.isEmpty()) return -1;
        int best = -1;
        long most = -1;
        for (int f = 0; f < seen.size(); f++) {
            if (seen.get(f) != -1) continue;
            long both = 0;
            for (int is = 0; is < 2; is++) {
                seen.set(f, is);
                long top = 0;
                for (int s = 0; s < priors.size(); s++) top = Math.max(top, weight(s));
                both += top;
            }
            seen.set(f, -1);
            if (both > most) { most = both; best = f; }
        }
        return best;
    }

    boolean wind(int v, int from, int to) {
        if (v < 1 || v > 50 || from < -20 || to > 20 || from > to) return false;
        speed = v; least = from; greatest = to;
        return true;
    }

    int lies(int place, int fall) {
        if (place < 0 || place > 100000 || fall < 0 || fall > 1000 || bed.size() == 10) return -1;
        bed.add(new int[] {place, fall});
        return bed.size() - 1;
    }

    private boolean fits(int i, int wind, int t) { return speed * t + wind * bed.get(i)[1] == bed.get(i)[0]; }

    int span(int i, int what) {
        if (i < 0 || i >= bed.size() || what < 0 || what > 1) return -1;
        int first = -2, last = -2;
        for (int t = 0; t < 10000; t++) {
            for (int wind = least; wind <= greatest; wind++) {
                if (fits(i, wind, t)) { if (first < 0) first = t; last = t; }
            }
        }
        return what == 0 ? first : last;
    }

    int order(int x, int y) {
        if (x < 0 || x >= bed.size() || y < 0 || y >= bed.size()) return -1;
        boolean ahead = false, after = false, same = false;
        for (int wind = least; wind <= greatest; wind++) {
            int a = -1, b = -1;
            for (int t = 0; t < 10000; t++) {
                if (fits(x, wind, t)) a = t;
                if (fits(y, wind, t)) b = t;
            }
            if (a < 0 || b < 0) continue;
            ahead |= a < b;
            after |= a > b;
            same |= a == b;
        }
        int kinds = (ahead ? 1 : 0) + (after ? 1 : 0) + (same ? 1 : 0);
        return kinds == 0 ? 4 : kinds > 1 ? 3 : ahead ? 0 : after ? 1 : 2;
    }

    boolean cell(int s, int cell, int weight) {
        if (s < 0 || s >= priors.size() || cell < 0 || cell >= 40 || weight < 0 || weight > 100) return false;
        cells[s][cell] = weight;
        return true;
    }

    private long bestWorth;
    private int[] bestRow;

    /** All rows in turn, the least first. */
    private void tryNets(long[] worth, int[] row, int set, int w, long sum) {
        if (set == row.length) {
            if (sum > bestWorth) { bestWorth = sum; bestRow = row.clone(); }
            return;
        }
        for (int at = set == 0 ? 0 : row[set - 1] + w; at + w <= 40; at++) {
            long here = 0;
            for (int i = at; i < at + w; i++) here += worth[i];
            row[set] = at;
            tryNets(worth, row, set + 1, w, sum + here);
        }
    }

    long nets(int k, int w, int what) {
        if (k < 1 || k > 4 || w < 1 || w > 10 || k * w > 40 || what < -1 || what >= k) return -1;
        long[] worth = new long[40];
        for (int s = 0; s < priors.size(); s++) for (int i = 0; i < 40; i++) worth[i] += weight(s) * cells[s][i];
        bestWorth = -1;
        tryNets(worth, new int[k], 0, w, 0);
        return what < 0 ? bestWorth : bestRow[what];
    }

    int fly(int k, int pressure, int most, int lost, int idle) {
        if (most < 0 || most > 200 || lost < 0 || lost > 1000000 || idle < 0 || idle > 1000) return -1;
        if (!canFly(k, pressure, most)) return -1;
        int pulls = programs[k].length;
        List<long[]> ways = ways(every(), behind(programs[k], pressure, most));
        long left = sumOf(ways, w -> !lostBy(w, pulls));
        if (left == 0) return -2;
        int best = -1;
        long cheapest = Long.MAX_VALUE;
        for (int n = 0; n <= most; n++) {
            int by = pulls + n;
            long cost = lost * sumOf(ways, w -> w[1] > pulls && w[1] <= by) + (long) idle * (most - n) * left;
            if (cost < cheapest) { cheapest = cost; best = n; }
        }
        return best;
    }

    int check(int h, int n) {
        if (h < 0 || h >= hulls.size() || n < 0 || n > 20 || 12 * n > tape.size()) return -2;
        List<Integer> due = new ArrayList<>();
        for (int c = 0; c < corners.size(); c++) {
            due.add(c);
            due.add(hulls.get(h).states[c].wear);
            due.add(hulls.get(h).states[c].crack);
        }
        List<Integer> told = new ArrayList<>();
        for (int i = 0; i < 3 * n; i++) {
            int x = 0;
            for (int j = 0; j < 4; j++) x = x * 256 + tape.get(4 * i + j);
            told.add(x);
        }
        tape.clear();
        for (int i = 0; i < told.size(); i++) {
            if (i >= due.size() || !told.get(i).equals(due.get(i))) return i;
        }
        return told.size() < due.size() ? told.size() : -1;
    }

    int count(int what) {
        int[] sizes = {corners.size(), hulls.size(), trials.size(), priors.size(), seen.size(), bed.size(), law.size(), tape.size()};
        if (what >= 0 && what < 8) return sizes[what];
        if (what >= 10 && isCorner(what - 10)) return corners.get(what - 10).lives.size();
        if (what >= 20 && what < 28) return programs[what - 20].length;
        return -1;
    }
}
