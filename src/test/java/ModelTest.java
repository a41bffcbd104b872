import java.util.ArrayList;
import java.util.List;
import java.util.Random;

/** Long runs of calls, made by fixed seeds, on HullTank and on Model: all answers must be alike. */
public final class ModelTest {
    private final Random random;
    private final HullTank tank = new HullTank();
    private final Model model = new Model();
    private final List<String> calls = new ArrayList<>();
    private final boolean large;
    // Laws that wear all corners a little at each pull, and lives to match: then odds are seldom nothing or all.
    private final boolean gentle;
    private int ways = 1;
    private int wrong;

    private ModelTest(long seed) {
        random = new Random(seed);
        large = random.nextInt(40) == 0;
        gentle = random.nextInt(2) == 0;
    }

    private int upTo(int n) { return random.nextInt(n + 1); }

    private boolean oneIn(int n) { return random.nextInt(n) == 0; }

    private static final int[] WILD = {-1, -2, -3, Integer.MIN_VALUE, Integer.MAX_VALUE, 1 << 30, -(1 << 30), 0, 1, 7, 8, 9, 10,
        16, 17, 40, 41, 60, 61, 99, 100, 101, 160, 161, 200, 201, 1000, 1001, 2000, 2001, 10000, 10001, 65535, 65536, 1000000, 1000001};

    /** From least to greatest, now and then something else. */
    private int some(int least, int greatest) {
        if (oneIn(60)) return WILD[random.nextInt(WILD.length)];
        if (oneIn(60)) return oneIn(2) ? least - 1 : greatest + 1;
        if (oneIn(12)) return oneIn(2) ? least : greatest;
        return least + upTo(greatest - least);
    }

    private void same(String call, long got, long want) {
        calls.add(call + " = " + got);
        if (got != want) {
            wrong++;
            System.out.println(String.join("\n", calls) + "   <- due is " + want);
        }
    }

    private void same(String call, boolean got, boolean want) { same(call, got ? 1 : 0, want ? 1 : 0); }

    private void feedText(String text) {
        for (int from = 0; from < text.length(); from += 20) feed(Texts.words(text, from));
    }

    private void feed(int[] w) {
        same("feed(" + w[0] + ", " + w[1] + ", " + w[2] + ", " + w[3] + ", " + w[4] + ")",
            tank.feed(w[0], w[1], w[2], w[3], w[4]), model.feed(w[0], w[1], w[2], w[3], w[4]));
    }

    private void emptyTape() {
        for (int i = 0; i < 2 && tank.count(7) > 0; i++) same("program(0, 1)", tank.program(7, 1), model.program(7, 1));
    }

    // ---- texts

    private String number() {
        switch (upTo(7)) {
            case 0: return "0";
            case 1: return "" + upTo(99999);
            case 2: return "99999";
            case 3: return "" + upTo(300);
            default: return "" + upTo(9);
        }
    }

    private String factor(int depth) {
        if (depth > 0 && oneIn(6)) return "[" + sum(depth - 1) + "]";
        return oneIn(2) ? number() : "" + "prtkcnqhlw".charAt(upTo(9));
    }

    private String term(int depth) {
        StringBuilder s = new StringBuilder(factor(depth));
        while (oneIn(3)) s.append("*/%".charAt(upTo(2))).append(factor(depth));
        return s.toString();
    }

    private String sum(int depth) {
        StringBuilder s = new StringBuilder(term(depth));
        while (oneIn(3)) s.append("+-".charAt(upTo(1))).append(term(depth));
        return s.toString();
    }

    private String piece(int depth) {
        if (depth > 0 && oneIn(6)) return "!" + piece(depth - 1);
        if (depth > 0 && oneIn(6)) return "(" + choice(depth - 1) + ")";
        if (oneIn(3)) return "1=1";
        return sum(depth) + "<>=".charAt(upTo(2)) + sum(depth);
    }

    private String choice(int depth) {
        StringBuilder s = new StringBuilder(piece(depth));
        while (oneIn(4)) s.append("&|".charAt(upTo(1))).append(piece(depth));
        return s.toString();
    }

    private String clause() {
        String[] plain = {"qp*r/t(p>0)", "dq(1=1)", "g1(1=1)", "dq/7+1(1=1)", "gl/3+1(h>0)", "qp(r>9)", "dw/9+c(n%3<2)", "d300(q>9)", "d7+n%3(1=1)"};
        if (oneIn(2)) return plain[upTo(plain.length - 1)];
        int depth = upTo(6);
        return "qdg".charAt(upTo(2)) + sum(Math.min(depth, 2)) + "(" + choice(depth) + ")";
    }

    private String gentleLaw() {
        String[] wears = {"d1+c(1=1)", "dp%3+c(1=1)", "dq/5+1(1=1)", "dn%4(c<9)", "d2(q>h);d1(1=1)", "d1+w/20(1=1)", "dp/9*[k+1](p>9);dt%4(1=1)"};
        String[] grows = {"gl(1=1)", "g1+n%3(1=1)", "gw/50+1(h>q|1=1)", "gq/9(q<h);g1(c=c)"};
        return "qp*2/[c+1](1=1);" + wears[upTo(wears.length - 1)] + ";" + grows[upTo(grows.length - 1)];
    }

    private String lawText() {
        if (gentle && !oneIn(6)) return gentleLaw();
        StringBuilder s = new StringBuilder(clause());
        int clauses = oneIn(20) ? 13 : upTo(5);
        for (int i = 0; i < clauses; i++) s.append(';').append(oneIn(3) ? "d1(1=1)" : clause());
        return s.toString();
    }

    private String programText() {
        StringBuilder s = new StringBuilder();
        int parts = oneIn(15) ? 9 : 1 + upTo(4);
        int most = gentle ? 9 : oneIn(4) ? 900 : oneIn(2) ? 100 : 9;
        for (int i = 0; i < parts; i++) {
            s.append(i > 0 ? ";" : "").append(upTo(99));
            if (oneIn(2)) s.append("*").append(oneIn(30) ? 0 : 1 + upTo(most));
        }
        return s.toString();
    }

    private String spoilt(String text, String signs) {
        if (!oneIn(5)) return text;
        StringBuilder s = new StringBuilder(text);
        int at = upTo(s.length());
        char sign = oneIn(20) ? (char) upTo(255) : signs.charAt(upTo(signs.length() - 1));
        switch (upTo(2)) {
            case 0: s.insert(at, sign); break;
            case 1: if (at < s.length()) s.deleteCharAt(at); break;
            default: if (at < s.length()) s.setCharAt(at, sign);
        }
        return s.toString();
    }

    private void tellLaw() {
        emptyTape();
        String text = spoilt(lawText(), "qdgprtkcnhlw0123456789()[]!<>=&|+-*/%;");
        if (text.length() > 180) text = text.substring(0, 180);
        feedText(text);
        int n = oneIn(30) ? some(1, 160) : Math.min(text.length(), 160);
        same("law(" + n + ") " + text, tank.law(n), model.law(n));
    }

    private void tellProgram() {
        emptyTape();
        String text = spoilt(programText(), "0123456789*;*;x");
        feedText(text);
        int n = oneIn(30) ? some(1, 60) : Math.min(text.length(), 60);
        int k = some(0, 2);
        same("program(" + k + ", " + n + ") " + text, tank.program(k, n), model.program(k, n));
    }

    // ---- calls

    private int someCorner() { return some(0, Math.max(0, tank.count(0) - 1)); }

    private int someHull() { return some(0, Math.max(0, tank.count(1) - 1)); }

    /** Few enough for the same to be asked again under another law, program or piece. */
    private int somePressure() { return oneIn(3) ? some(0, 99) : 9 * upTo(2); }

    private int someFlights() { return oneIn(gentle ? 12 : 3) ? some(0, 2000) : some(0, oneIn(2) ? 20 : 200); }

    private void addLife() {
        int c = someCorner(), life = gentle ? some(1, 100) : oneIn(4) ? some(1, 1000000) : some(1, oneIn(2) ? 30 : 3000), weight = some(1, 5);
        int have = Math.max(1, tank.count(10 + Math.max(0, Math.min(c, 7))));
        if (!large && ways / have * (have + 1) > 300) return;
        int i = tank.life(c, life, weight);
        if (i > 0) ways = ways / i * (i + 1);
        same("life(" + c + ", " + life + ", " + weight + ")", i, model.life(c, life, weight));
    }

    private void checkHull() {
        emptyTape();
        int h = someHull();
        int n = oneIn(4) ? some(0, 16) : tank.count(0);
        int[] words = new int[50];
        for (int c = 0; c < 8; c++) {
            words[3 * c] = c;
            words[3 * c + 1] = tank.cornerIs(h, c, 0);
            words[3 * c + 2] = tank.cornerIs(h, c, 1);
        }
        if (oneIn(2)) words[upTo(23)] += 1 + upTo(3);
        int fed = Math.max(5, (3 * n + 4) / 5 * 5);
        for (int from = 0; from < Math.min(fed, 50); from += 5) {
            feed(new int[] {words[from], words[from + 1], words[from + 2], words[from + 3], words[from + 4]});
        }
        same("check(" + h + ", " + n + ")", tank.check(h, n), model.check(h, n));
    }

    private void callHulls() {
        int h = someHull(), c = someCorner(), p = somePressure(), what = some(0, 2);
        switch (upTo(5)) {
            case 0: {
                int digits = oneIn(9) ? some(0, 65535) : 0;
                for (int i = 0; i < tank.count(0); i++) digits |= upTo(Math.max(0, tank.count(10 + i) - 1)) << 2 * i;
                if (!oneIn(3) && tank.count(1) > 0) return;
                same("hull(" + digits + ")", tank.hull(digits), model.hull(digits));
                break;
            }
            case 1:
            case 2: {
                int times = oneIn(3) ? some(1, 2000) : some(1, 30);
                same("flown(" + h + ", " + p + ", " + times + ")", tank.flown(h, p, times), model.flown(h, p, times));
                break;
            }
            case 3: same("hullIs(" + h + ", " + what + ")", tank.hullIs(h, what), model.hullIs(h, what)); break;
            case 4: same("cornerIs(" + h + ", " + c + ", " + what + ")", tank.cornerIs(h, c, what), model.cornerIs(h, c, what)); break;
            default: checkHull();
        }
    }

    private void callOdds() {
        int k = some(0, 2), p = somePressure(), n = someFlights(), thousandths = some(1, 1000);
        int piece = some(1, Math.max(1, (1 << tank.count(0)) - 1)), c = someCorner(), i = some(0, 3);
        switch (upTo(8)) {
            case 0: {
                int what = some(0, 1);
                same("runs(" + k + ", " + c + ", " + i + ", " + what + ")", tank.runs(k, c, i, what), model.runs(k, c, i, what));
                break;
            }
            case 1:
                for (int what : new int[] {-1, 8, c}) {
                    same("odds(" + k + ", " + p + ", " + n + ", " + what + ")", tank.odds(k, p, n, what), model.odds(k, p, n, what));
                }
                break;
            case 2:
                for (int what = 0; what < 2; what++) {
                    same("left(" + k + ", " + p + ", " + n + ", " + what + ")", tank.left(k, p, n, what), model.left(k, p, n, what));
                }
                break;
            case 3: same("likely(" + piece + ", " + k + ", " + p + ", " + thousandths + ")",
                tank.likely(piece, k, p, thousandths), model.likely(piece, k, p, thousandths)); break;
            case 4: same("off(" + piece + ", " + k + ", " + p + ")", tank.off(piece, k, p), model.off(piece, k, p)); break;
            case 5: {
                int cost = some(1, oneIn(2) ? 3 : 10000);
                same("trial(" + piece + ", " + k + ", " + p + ", " + n + ", " + cost + ")",
                    tank.trial(piece, k, p, n, cost), model.trial(piece, k, p, n, cost));
                break;
            }
            case 6:
                for (int what = 0; what < 2; what++) same("says(" + i + ", " + what + ")", tank.says(i, what), model.says(i, what));
                break;
            case 7: same("cheapest(" + thousandths + ")", tank.cheapest(thousandths), model.cheapest(thousandths)); break;
            default: {
                int most = some(0, 200), lost = some(0, oneIn(2) ? 1000000 : 2000), idle = some(0, oneIn(2) ? 1000 : 5);
                same("fly(" + k + ", " + p + ", " + most + ", " + lost + ", " + idle + ")",
                    tank.fly(k, p, most, lost, idle), model.fly(k, p, most, lost, idle));
            }
        }
    }

    private void callStories() {
        int s = some(0, Math.max(0, tank.count(3) - 1)), f = some(0, Math.max(0, tank.count(4) - 1));
        switch (upTo(7)) {
            case 0: {
                int prior = some(1, oneIn(2) ? 3 : 100);
                same("story(" + prior + ")", tank.story(prior), model.story(prior));
                break;
            }
            case 1: if (oneIn(3)) same("find()", tank.find(), model.find()); break;
            case 2: {
                int ten = some(0, 10);
                same("tells(" + f + ", " + s + ", " + ten + ")", tank.tells(f, s, ten), model.tells(f, s, ten));
                break;
            }
            case 3: {
                int is = some(-1, 1);
                same("seen(" + f + ", " + is + ")", tank.seen(f, is), model.seen(f, is));
                break;
            }
            case 4: {
                int which = some(-1, 5);
                same("weighs(" + which + ")", tank.weighs(which), model.weighs(which));
                break;
            }
            case 5: same("moves()", tank.moves(), model.moves()); break;
            case 6: {
                int cell = some(0, 39), weight = some(0, oneIn(2) ? 3 : 100);
                same("cell(" + s + ", " + cell + ", " + weight + ")", tank.cell(s, cell, weight), model.cell(s, cell, weight));
                break;
            }
            default: {
                int k = some(1, 4), w = some(1, oneIn(2) ? 10 : 4);
                if (k == 4 && w < 3 && !oneIn(5)) return;
                for (int what = -1; what <= k && what < 5; what++) {
                    same("nets(" + k + ", " + w + ", " + what + ")", tank.nets(k, w, what), model.nets(k, w, what));
                }
            }
        }
    }

    private void callBed() {
        int i = some(0, Math.max(0, tank.count(5) - 1)), j = some(0, Math.max(0, tank.count(5) - 1)), what = some(0, 1);
        switch (upTo(3)) {
            case 0: {
                int from = some(-20, 20), to = some(Math.max(-20, Math.min(from, 20)), 20), v = some(1, oneIn(2) ? 50 : 4);
                same("wind(" + v + ", " + from + ", " + to + ")", tank.wind(v, from, to), model.wind(v, from, to));
                break;
            }
            case 1: {
                int place = some(0, oneIn(4) ? 100000 : 300), fall = some(0, oneIn(3) ? 1000 : oneIn(2) ? 1 : 9);
                same("lies(" + place + ", " + fall + ")", tank.lies(place, fall), model.lies(place, fall));
                break;
            }
            case 2: same("span(" + i + ", " + what + ")", tank.span(i, what), model.span(i, what)); break;
            default: same("order(" + i + ", " + j + ")", tank.order(i, j), model.order(i, j));
        }
    }

    private void callOther() {
        int c = someCorner(), what = some(0, oneIn(2) ? 30 : 8), p = somePressure();
        switch (upTo(2)) {
            case 0: same("count(" + what + ")", tank.count(what), model.count(what)); break;
            case 1: same("pull(" + c + ", " + p + ", 0)", tank.pull(c, p, 0), model.pull(c, p, 0)); break;
            default: same("pull(" + c + ", " + p + ", " + (what % 2) + ")", tank.pull(c, p, what % 2), model.pull(c, p, what % 2));
        }
    }

    private void addCorner() {
        int kind = some(0, 3), radius = some(1, 50), thick = some(1, 50), reach = some(1, oneIn(2) ? 20 : 10000);
        if (gentle) reach = Math.min(reach, 50);
        same("corner(" + kind + ", " + radius + ", " + thick + ", " + reach + ")",
            tank.corner(kind, radius, thick, reach), model.corner(kind, radius, thick, reach));
    }

    private int run() {
        int corners = upTo(large ? 7 : 4);
        for (int i = 0; i < corners; i++) addCorner();
        int lives = upTo(large ? 24 : 9);
        for (int i = 0; i < lives; i++) addLife();
        tellLaw();
        tellProgram();
        int most = large ? 120 : 400;
        while (calls.size() < most && wrong == 0) {
            int what = upTo(99);
            if (what < 2) addCorner();
            else if (what < 6) addLife();
            else if (what < 16) tellLaw();
            else if (what < 26) tellProgram();
            else if (what < 42) callHulls();
            else if (what < 65) callOdds();
            else if (what < 83) callStories();
            else if (what < 93) callBed();
            else callOther();
        }
        return wrong;
    }

    public static void main(String[] args) {
        int runs = args.length > 0 ? Integer.parseInt(args[0]) : 600;
        long from = args.length > 1 ? Long.parseLong(args[1]) : 1;
        int failed = 0;
        for (int i = 0; i < runs && failed < 3; i++) {
            if (new ModelTest(from + i).run() > 0) failed++;
        }
        System.out.println(runs + " runs, " + failed + " not as due");
        if (failed > 0) System.exit(1);
    }
}
