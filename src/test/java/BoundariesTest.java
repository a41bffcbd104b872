import java.util.Arrays;
import java.util.List;

/**
 * The document sentence by sentence: each boundary that it names, just within it and just beyond it; what is empty and
 * what is full; refused calls and what later calls show then; 32 bits that wrap around in a law.
 */
public final class BoundariesTest {
    /** One call; a boolean counts 1 or 0. */
    private interface Call { long on(HullTank x); }

    private interface Maker { HullTank make(); }

    private static String sentence = "";
    private static int asked;
    private static int wrong;

    private static void due(String what, long got, long want) {
        asked++;
        if (got != want) {
            wrong++;
            System.out.println(sentence + ": " + what + " answered " + got + ", due is " + want);
        }
    }

    private static int one(boolean b) { return b ? 1 : 0; }

    /** Puts a text on an empty tape, blanks behind it. */
    private static int put(HullTank x, String text) {
        if (x.count(7) > 0) x.law(1);
        Texts.feed(x, text);
        return text.length();
    }

    private static int law(HullTank x, String text) { int n = put(x, text); return x.law(n); }

    private static int program(HullTank x, int k, String text) { int n = put(x, text); return x.program(k, n); }

    private static String times(String part, int n) { return part.repeat(n); }

    // ---- objects to ask

    private static HullTank fresh() { return new HullTank(); }

    /** One corner of kind 2, radius 7, thick 5, reach 1, without lives. */
    private static HullTank single() {
        HullTank x = new HullTank();
        x.corner(2, 7, 5, 1);
        return x;
    }

    /** Something of everything, but no hulls. */
    private static HullTank some() {
        HullTank x = new HullTank();
        x.corner(1, 10, 2, 3);
        x.corner(3, 5, 4, 1);
        x.corner(0, 50, 1, 1);
        x.life(0, 30, 1);
        x.life(0, 70, 2);
        x.life(1, 50, 3);
        law(x, "qp*r/t(1=1);dq/10+n%2(p>0);g1(h>0)");
        program(x, 0, "5*4");
        program(x, 1, "9*60");
        x.trial(3, 0, 6, 9, 40);
        x.trial(1, 2, 9, 20, 30);
        x.story(7);
        x.story(5);
        x.story(3);
        x.find();
        x.find();
        x.find();
        x.tells(0, 0, 9);
        x.tells(1, 1, 2);
        x.tells(2, 2, 10);
        x.seen(0, 1);
        x.cell(0, 3, 9);
        x.cell(1, 4, 90);
        x.cell(2, 39, 7);
        x.wind(3, -4, 6);
        x.lies(100, 5);
        x.lies(77, 2);
        x.lies(5, 0);
        tapeOfForty(x);
        return x;
    }

    /** The like with hulls: 0 flies, 1 is lost, 2 is new. */
    private static HullTank withHulls() {
        HullTank x = some();
        x.hull(0);
        x.hull(1);
        x.hull(0);
        x.flown(0, 9, 4);
        x.flown(1, 9, 2000);
        return x;
    }

    /** Of everything as much as there can be; hulls alone are left out if there shall be none. */
    private static HullTank full(boolean hulls) {
        HullTank x = new HullTank();
        for (int c = 0; c < 8; c++) {
            x.corner(c % 4, 50 - c, c + 1, 10000 - c);
            for (int i = 0; i < 4; i++) x.life(c, 1000000 - 10 * c - i, 5 - i);
        }
        law(x, times("d9999(c=1);", 11) + "d99999(1=1)");
        for (int k = 0; k < 8; k++) program(x, k, "9;8;7;6;5;4;3;" + k);
        for (int i = 0; i < 8; i++) x.trial(255 >> i, i, i, 10 * i, 10000 - i);
        for (int s = 0; s < 6; s++) x.story(100 - s);
        for (int f = 0; f < 10; f++) x.find();
        for (int i = 0; i < 10; i++) x.lies(100000 - i, 1000 - i);
        for (int h = 0; h < 10 && hulls; h++) x.hull(h);
        tapeOfForty(x);
        return x;
    }

    /** The tape shows at last whether it has stayed: then its first forty bytes are a law, by which q is 26. */
    private static void tapeOfForty(HullTank x) {
        put(x, "q" + times("1+", 16) + "10(1=1)");
    }

    /** All that later calls show, the tape at last, which must be as it was told. */
    private static long[] view(HullTank x) {
        long[] seen = new long[400];
        int n = 0;
        for (int what = 0; what < 28; what++) seen[n++] = x.count(what);
        for (int c = 0; c < seen[0]; c++) {
            seen[n++] = x.pull(c, 9, 0);
            seen[n++] = x.pull(c, 9, 1);
            for (int i = 0; i < seen[10 + c]; i++) seen[n++] = x.runs(1, c, i, 1);
            seen[n++] = x.odds(0, 9, 40, c);
        }
        for (int k = 0; k < 3; k++) {
            seen[n++] = x.odds(k, 9, 9, -1);
            seen[n++] = x.odds(k, 9, 30, 8);
            seen[n++] = x.left(k, 7, 30, 0);
            seen[n++] = x.likely(3, k, 9, 400);
            seen[n++] = x.fly(k, 9, 50, 100, 1);
        }
        for (int h = 0; h < seen[1]; h++) {
            seen[n++] = x.hullIs(h, 0);
            seen[n++] = x.hullIs(h, 1);
            for (int what = 0; what < 3; what++) seen[n++] = x.cornerIs(h, h % 3, what);
        }
        for (int i = 0; i < seen[2]; i++) {
            seen[n++] = x.says(i, 0);
            seen[n++] = x.says(i, 1);
        }
        seen[n++] = x.cheapest(1);
        for (int s = -1; s < 6; s++) seen[n++] = x.weighs(s);
        seen[n++] = x.moves();
        for (int what = -1; what < 2; what++) seen[n++] = x.nets(2, 3, what);
        for (int i = 0; i < seen[5]; i++) {
            seen[n++] = x.span(i, 0);
            seen[n++] = x.span(i, 1);
            seen[n++] = x.order(i, 0);
        }
        seen[n++] = x.law(40);
        seen[n++] = x.pull(0, 0, 0);
        return seen;
    }

    // ---- refused calls

    private static Maker maker;
    private static long refusal;

    /** Such a call answers as a refused one does, and all that later calls show is as without it. */
    private static void refused(String what, Call call) {
        HullTank x = maker.make();
        due(what, call.on(x), refusal);
        long[] want = view(maker.make());
        long[] got = view(x);
        asked++;
        if (!Arrays.equals(got, want)) {
            wrong++;
            System.out.println(sentence + ": " + what + " changed something: " + Arrays.mismatch(got, want));
        }
    }

    private static void refusedBy(String words, Maker from, long answer) {
        sentence = words;
        maker = from;
        refusal = answer;
    }

    private static final int LEAST = Integer.MIN_VALUE;
    private static final int MOST = Integer.MAX_VALUE;

    private static void refusedMakers() {
        refusedBy("corner: no such ones", BoundariesTest::some, -1);
        refused("kind -1", x -> x.corner(-1, 1, 1, 1));
        refused("kind 4", x -> x.corner(4, 1, 1, 1));
        refused("radius 0", x -> x.corner(0, 0, 1, 1));
        refused("radius 51", x -> x.corner(0, 51, 1, 1));
        refused("thick 0", x -> x.corner(0, 1, 0, 1));
        refused("thick 51", x -> x.corner(0, 1, 51, 1));
        refused("reach 0", x -> x.corner(0, 1, 1, 0));
        refused("reach 10001", x -> x.corner(0, 1, 1, 10001));
        refused("all of them least", x -> x.corner(LEAST, LEAST, LEAST, LEAST));
        refused("all of them most", x -> x.corner(MOST, MOST, MOST, MOST));
        refusedBy("corner: 8 are there", () -> full(false), -1);
        refused("a ninth", x -> x.corner(0, 1, 1, 1));
        refusedBy("corner: a HULL is", BoundariesTest::withHulls, -1);
        refused("a fourth", x -> x.corner(0, 1, 1, 1));

        refusedBy("life: no such ones", BoundariesTest::some, -1);
        refused("corner -1", x -> x.life(-1, 1, 1));
        refused("corner 3 of 3", x -> x.life(3, 1, 1));
        refused("corner 8", x -> x.life(8, 1, 1));
        refused("life 0", x -> x.life(0, 0, 1));
        refused("life -1", x -> x.life(0, -1, 1));
        refused("life 1000001", x -> x.life(0, 1000001, 1));
        refused("weight 0", x -> x.life(0, 1, 0));
        refused("weight 6", x -> x.life(0, 1, 6));
        refusedBy("life: four are there", () -> full(false), -1);
        for (int c = 0; c < 8; c++) {
            int corner = c;
            refused("a fifth of " + c, x -> x.life(corner, 1, 1));
        }
        refusedBy("life: a HULL is", BoundariesTest::withHulls, -1);
        refused("a third", x -> x.life(0, 1, 1));
        refused("a first", x -> x.life(2, 1, 1));

        refusedBy("hull: no such ones", BoundariesTest::some, -1);
        refused("corner 0's third of two lives", x -> x.hull(2));
        refused("corner 0's fourth", x -> x.hull(3));
        refused("corner 1's second of one", x -> x.hull(1 << 2));
        refused("corner 2 has none", x -> x.hull(1 << 4));
        refused("corner 3 is not there", x -> x.hull(1 << 6));
        refused("corner 7 is not there", x -> x.hull(3 << 14));
        refused("a ninth digit", x -> x.hull(1 << 16));
        refused("a sixteenth", x -> x.hull(1 << 30));
        refused("-1", x -> x.hull(-1));
        refused("least", x -> x.hull(LEAST));
        refused("most", x -> x.hull(MOST));
        refusedBy("hull: 10 are there", () -> full(true), -1);
        refused("an eleventh", x -> x.hull(0));
        refusedBy("hull: no CORNERS", BoundariesTest::fresh, -1);
        refused("0", x -> x.hull(0));
    }

    private static void refusedFlights() {
        refusedBy("flown: no such ones", BoundariesTest::withHulls, -1);
        refused("hull -1", x -> x.flown(-1, 1, 1));
        refused("hull 3 of 3", x -> x.flown(3, 1, 1));
        refused("hull 10", x -> x.flown(10, 1, 1));
        refused("pressure -1", x -> x.flown(0, -1, 1));
        refused("pressure 100", x -> x.flown(0, 100, 1));
        refused("0 times", x -> x.flown(0, 1, 0));
        refused("-1 times", x -> x.flown(0, 1, -1));
        refused("2001 times", x -> x.flown(0, 1, 2001));
        refused("most times", x -> x.flown(0, 1, MOST));
        sentence = "flown: it is LOST";
        refused("hull 1", x -> x.flown(1, 1, 1));
        refused("hull 1 by 0", x -> x.flown(1, 0, 2000));
        refusedBy("flown: more than 100000 in all", () -> {
            HullTank x = some();
            x.hull(0);
            for (int i = 0; i < 49; i++) x.flown(0, 0, 2000);
            x.flown(0, 0, 1990);
            return x;
        }, -1);
        refused("99990 and 11", x -> x.flown(0, 0, 11));
        refused("99990 and 11, if it were lost by 10", x -> x.flown(0, 99, 11));
        refused("99990 and 2000", x -> x.flown(0, 0, 2000));

        refusedBy("trial: no such ones", BoundariesTest::withHulls, -1);
        refused("an empty piece", x -> x.trial(0, 0, 0, 0, 1));
        refused("piece -1", x -> x.trial(-1, 0, 0, 0, 1));
        refused("a fourth corner of 3", x -> x.trial(8, 0, 0, 0, 1));
        refused("it and others", x -> x.trial(15, 0, 0, 0, 1));
        refused("least", x -> x.trial(LEAST + 1, 0, 0, 0, 1));
        refused("program -1", x -> x.trial(1, -1, 0, 0, 1));
        refused("program 8", x -> x.trial(1, 8, 0, 0, 1));
        refused("pressure -1", x -> x.trial(1, 0, -1, 0, 1));
        refused("pressure 100", x -> x.trial(1, 0, 100, 0, 1));
        refused("-1 flights", x -> x.trial(1, 0, 0, -1, 1));
        refused("4 and 1997 pulls", x -> x.trial(1, 0, 0, 1997, 1));
        refused("2001 flights", x -> x.trial(1, 2, 0, 2001, 1));
        refused("most flights", x -> x.trial(1, 0, 0, MOST, 1));
        refused("cost 0", x -> x.trial(1, 0, 0, 0, 0));
        refused("cost 10001", x -> x.trial(1, 0, 0, 0, 10001));
        refusedBy("trial: 8 are there", () -> full(true), -1);
        refused("a ninth", x -> x.trial(1, 0, 0, 0, 1));
        refusedBy("trial: no corners", BoundariesTest::fresh, -1);
        refused("piece 1", x -> x.trial(1, 0, 0, 0, 1));
    }

    private static void refusedTapes() {
        refusedBy("feed: more than 200", () -> {
            HullTank x = some();
            for (int i = 0; i < 8; i++) x.feed(i, i, i, i, i);
            return x;
        }, -1);
        refused("an eleventh twenty", x -> x.feed(0, 0, 0, 0, 0));
        refusedBy("law: no such n, the tape stays", BoundariesTest::withHulls, -1);
        refused("n 0", x -> x.law(0));
        refused("n -1", x -> x.law(-1));
        refused("least", x -> x.law(LEAST));
        sentence = "law: it has not so many, the tape stays";
        refused("41 of 40", x -> x.law(41));
        refused("160 of 40", x -> x.law(160));
        refused("161", x -> x.law(161));
        refused("most", x -> x.law(MOST));
        refusedBy("law: n above 160, the tape stays", () -> full(true), -1);
        refused("161", x -> x.law(161));
        refusedBy("law: n above 160 of 180, the tape stays", () -> {
            HullTank x = some();
            for (int i = 0; i < 7; i++) x.feed(i, i, i, i, i);
            return x;
        }, -1);
        refused("161", x -> x.law(161));
        refused("180", x -> x.law(180));

        refusedBy("program: no such ones, the tape stays", BoundariesTest::withHulls, -1);
        refused("program -1", x -> x.program(-1, 1));
        refused("program 8", x -> x.program(8, 1));
        refused("program 8, n 0", x -> x.program(8, 0));
        refused("n 0", x -> x.program(0, 0));
        refused("n -1", x -> x.program(0, -1));
        sentence = "program: it has not so many, the tape stays";
        refused("41 of 40", x -> x.program(0, 41));
        refused("60 of 40", x -> x.program(0, 60));
        refused("most", x -> x.program(0, MOST));
        refusedBy("program: n above 60 of 80, the tape stays", () -> {
            HullTank x = some();
            x.feed(0, 0, 0, 0, 0);
            x.feed(0, 0, 0, 0, 0);
            return x;
        }, -1);
        refused("61", x -> x.program(0, 61));
        refused("80", x -> x.program(0, 80));

        refusedBy("check: no such HULL, the tape stays", BoundariesTest::withHulls, -2);
        refused("hull -1", x -> x.check(-1, 1));
        refused("hull 3 of 3", x -> x.check(3, 1));
        refused("hull 3 of 3, 0 threes", x -> x.check(3, 0));
        refused("hull 10", x -> x.check(10, 1));
        sentence = "check: it has not so many, the tape stays";
        refused("4 threes of 40 bytes", x -> x.check(0, 4));
        refused("-1 threes", x -> x.check(0, -1));
        refused("most", x -> x.check(0, MOST));
        refused("12 n wraps to 8", x -> x.check(0, 357913942));
        refused("12 n wraps to 4", x -> x.check(0, 715827883));
        refused("12 n wraps to 0", x -> x.check(0, 1 << 30));
        refused("3 n wraps to 1", x -> x.check(0, -1431655765));
    }

    private static void refusedStories() {
        refusedBy("story: no such PRIOR", BoundariesTest::withHulls, -1);
        refused("0", x -> x.story(0));
        refused("-1", x -> x.story(-1));
        refused("101", x -> x.story(101));
        refusedBy("story: six are there", () -> full(true), -1);
        refused("a seventh", x -> x.story(1));
        sentence = "find: 10 are there";
        refused("an eleventh", x -> x.find());
        sentence = "lies: 10 are there";
        refused("an eleventh", x -> x.lies(0, 0));

        refusedBy("tells: no such ones", BoundariesTest::withHulls, 0);
        refused("find -1", x -> one(x.tells(-1, 0, 1)));
        refused("find 3 of 3", x -> one(x.tells(3, 0, 1)));
        refused("find 10", x -> one(x.tells(10, 0, 1)));
        refused("story -1", x -> one(x.tells(0, -1, 1)));
        refused("story 3 of 3", x -> one(x.tells(0, 3, 1)));
        refused("story 6", x -> one(x.tells(0, 6, 1)));
        refused("-1 of ten", x -> one(x.tells(0, 0, -1)));
        refused("11 of ten", x -> one(x.tells(0, 0, 11)));
        sentence = "seen: no such ones";
        refused("find -1", x -> one(x.seen(-1, 0)));
        refused("find 3 of 3", x -> one(x.seen(3, 0)));
        refused("find 10", x -> one(x.seen(10, 0)));
        refused("is -2", x -> one(x.seen(0, -2)));
        refused("is 2", x -> one(x.seen(0, 2)));
        sentence = "cell: no such ones";
        refused("story -1", x -> one(x.cell(-1, 0, 1)));
        refused("story 3 of 3", x -> one(x.cell(3, 0, 1)));
        refused("story 6", x -> one(x.cell(6, 0, 1)));
        refused("cell -1", x -> one(x.cell(0, -1, 1)));
        refused("cell -1, of the story before", x -> one(x.cell(1, -1, 1)));
        refused("cell 40", x -> one(x.cell(0, 40, 1)));
        refused("weight -1", x -> one(x.cell(0, 3, -1)));
        refused("weight 101", x -> one(x.cell(0, 3, 101)));
        refusedBy("without any", BoundariesTest::fresh, 0);
        refused("tells", x -> one(x.tells(0, 0, 0)));
        refused("seen", x -> one(x.seen(0, 0)));
        refused("cell", x -> one(x.cell(0, 0, 0)));

        refusedBy("wind: no such ones", BoundariesTest::withHulls, 0);
        refused("speed 0", x -> one(x.wind(0, 0, 0)));
        refused("speed -1", x -> one(x.wind(-1, 0, 0)));
        refused("speed 51", x -> one(x.wind(51, 0, 0)));
        refused("least -21", x -> one(x.wind(1, -21, 0)));
        refused("greatest 21", x -> one(x.wind(1, 0, 21)));
        refused("both 21", x -> one(x.wind(1, 21, 21)));
        refused("both -21", x -> one(x.wind(1, -21, -21)));
        refused("least above greatest", x -> one(x.wind(1, 1, 0)));
        refusedBy("lies: no such ones", BoundariesTest::withHulls, -1);
        refused("place -1", x -> x.lies(-1, 0));
        refused("place 100001", x -> x.lies(100001, 0));
        refused("fall -1", x -> x.lies(0, -1));
        refused("fall 1001", x -> x.lies(0, 1001));
    }

    /** Calls that only ask: they are refused, and change nothing either. */
    private static void refusedQuestions() {
        refusedBy("no such ones", BoundariesTest::withHulls, -1);
        Call[] calls = {
            x -> x.pull(-1, 1, 0), x -> x.pull(3, 1, 0), x -> x.pull(8, 1, 0), x -> x.pull(0, -1, 0), x -> x.pull(0, 100, 0),
            x -> x.pull(0, 1, -1), x -> x.pull(0, 1, 2),
            x -> x.hullIs(-1, 0), x -> x.hullIs(3, 0), x -> x.hullIs(10, 0), x -> x.hullIs(0, -1), x -> x.hullIs(0, 2),
            x -> x.cornerIs(-1, 0, 0), x -> x.cornerIs(3, 0, 0), x -> x.cornerIs(10, 0, 0), x -> x.cornerIs(0, -1, 0),
            x -> x.cornerIs(0, 3, 0), x -> x.cornerIs(0, 8, 0), x -> x.cornerIs(0, 0, -1), x -> x.cornerIs(0, 0, 3),
            x -> x.runs(-1, 0, 0, 0), x -> x.runs(8, 0, 0, 0), x -> x.runs(0, -1, 0, 0), x -> x.runs(0, 3, 0, 0), x -> x.runs(0, 8, 0, 0),
            x -> x.runs(0, 0, -1, 0), x -> x.runs(0, 0, 2, 0), x -> x.runs(0, 1, 1, 0), x -> x.runs(0, 2, 0, 0), x -> x.runs(0, 0, 4, 0),
            x -> x.runs(0, 0, 0, -1), x -> x.runs(0, 0, 0, 2),
            x -> x.odds(-1, 0, 0, -1), x -> x.odds(8, 0, 0, -1), x -> x.odds(0, -1, 0, -1), x -> x.odds(0, 100, 0, -1),
            x -> x.odds(0, 0, -1, -1), x -> x.odds(0, 0, 1997, -1), x -> x.odds(2, 0, 2001, -1), x -> x.odds(0, 0, MOST, -1),
            x -> x.odds(0, 0, 0, -2), x -> x.odds(0, 0, 0, 3), x -> x.odds(0, 0, 0, 7), x -> x.odds(0, 0, 0, 9),
            x -> x.left(-1, 0, 0, 0), x -> x.left(8, 0, 0, 0), x -> x.left(0, -1, 0, 0), x -> x.left(0, 100, 0, 0),
            x -> x.left(0, 0, -1, 0), x -> x.left(0, 0, 1997, 0), x -> x.left(2, 0, 2001, 0), x -> x.left(0, 0, MOST, 0),
            x -> x.left(0, 0, 0, -1), x -> x.left(0, 0, 0, 2),
            x -> x.likely(0, 0, 0, 1), x -> x.likely(-1, 0, 0, 1), x -> x.likely(8, 0, 0, 1), x -> x.likely(LEAST, 0, 0, 1),
            x -> x.likely(1, -1, 0, 1), x -> x.likely(1, 8, 0, 1), x -> x.likely(1, 0, -1, 1), x -> x.likely(1, 0, 100, 1),
            x -> x.likely(1, 0, 0, 0), x -> x.likely(1, 0, 0, -1), x -> x.likely(1, 0, 0, 1001),
            x -> x.says(-1, 0), x -> x.says(2, 0), x -> x.says(8, 0), x -> x.says(0, -1), x -> x.says(0, 2),
            x -> x.cheapest(0), x -> x.cheapest(-1), x -> x.cheapest(1001),
            x -> x.weighs(-2), x -> x.weighs(3), x -> x.weighs(6),
            x -> x.span(-1, 0), x -> x.span(3, 0), x -> x.span(10, 0), x -> x.span(0, -1), x -> x.span(0, 2),
            x -> x.order(-1, 0), x -> x.order(3, 0), x -> x.order(0, -1), x -> x.order(0, 3), x -> x.order(10, 10),
            x -> x.nets(0, 1, -1), x -> x.nets(-1, 1, -1), x -> x.nets(5, 1, -1), x -> x.nets(1, 0, -1), x -> x.nets(1, -1, -1),
            x -> x.nets(1, 11, -1), x -> x.nets(1, 1, -2), x -> x.nets(1, 1, 1), x -> x.nets(4, 1, 4), x -> x.nets(65536, 65536, 0),
            x -> x.nets(4, 11, -1), x -> x.nets(5, 8, -1),
            x -> x.fly(-1, 0, 1, 1, 1), x -> x.fly(8, 0, 1, 1, 1), x -> x.fly(0, -1, 1, 1, 1), x -> x.fly(0, 100, 1, 1, 1),
            x -> x.fly(0, 0, -1, 1, 1), x -> x.fly(0, 0, 201, 1, 1), x -> x.fly(0, 0, 1, -1, 1), x -> x.fly(0, 0, 1, 1000001, 1),
            x -> x.fly(0, 0, 1, 1, -1), x -> x.fly(0, 0, 1, 1, 1001),
            x -> x.count(-1), x -> x.count(8), x -> x.count(9), x -> x.count(13), x -> x.count(17), x -> x.count(18), x -> x.count(19),
            x -> x.count(28), x -> x.count(MOST), x -> x.count(LEAST)};
        for (int i = 0; i < calls.length; i++) refused("question " + i, calls[i]);
        refusedBy("off: no such ones", BoundariesTest::withHulls, -100000);
        Call[] offs = {x -> x.off(0, 0, 9), x -> x.off(-1, 0, 9), x -> x.off(8, 0, 9), x -> x.off(LEAST + 1, 0, 9),
            x -> x.off(1, -1, 9), x -> x.off(1, 8, 9), x -> x.off(1, 0, -1), x -> x.off(1, 0, 100)};
        for (int i = 0; i < offs.length; i++) refused("question " + i, offs[i]);
        refusedBy("of several reasons that told last in its line first", BoundariesTest::withHulls, -1);
        // Behind program 1 none is left; piece 2 lies where no wind fits.
        refused("left: none is left, no such what", x -> x.left(1, 0, 0, 2));
        refused("left: none is left, too many", x -> x.left(1, 0, 1941, 0));
        refused("likely: none is left, no such thousandths", x -> x.likely(1, 1, 0, 0));
        refused("fly: none is left, no such greatest", x -> x.fly(1, 0, 201, 1, 1));
        refused("fly: none is left, no such idle", x -> x.fly(1, 0, 1, 1, 1001));
        refused("span: none, no such what", x -> x.span(2, 2));
        refused("program: no such k, a fault", x -> x.program(8, 3));
        refused("law: too few, a fault", x -> x.law(50));
        refusedBy("none is left", BoundariesTest::withHulls, -2);
        refused("left", x -> x.left(1, 0, 0, 0));
        refused("left", x -> x.left(1, 0, 1940, 1));
        refused("likely", x -> x.likely(1, 1, 0, 1));
        refused("fly", x -> x.fly(1, 0, 200, 1, 1));
        refused("span: no T", x -> x.span(2, 0));
        refused("span: no T", x -> x.span(2, 1));
    }

    // ---- within the bounds

    private static void cornersAndLives() {
        sentence = "a KIND (0 to 3), RADIUS (1 to 50), THICK (1 to 50), REACH (1 to 10000)";
        HullTank x = new HullTank();
        due("least", x.corner(0, 1, 1, 1), 0);
        due("most", x.corner(3, 50, 50, 10000), 1);
        due("between", x.corner(2, 25, 26, 5000), 2);
        law(x, "qk*1000+t*50+r(1=1)");
        due("as told", x.pull(0, 0, 0), 51);
        due("as told", x.pull(1, 0, 0), 3000 + 2500 + 50);
        due("as told", x.pull(2, 0, 0), 2000 + 1300 + 25);
        sentence = "REACH or more then: it RUNS";
        x.life(0, 1, 1);
        x.life(1, 1, 1);
        x.life(2, 1, 1);
        law(x, "d1(1=1);g9998(c=1);g4998(c=2)");
        program(x, 0, "1*2");
        due("1, too", x.runs(0, 0, 0, 1), 1);
        due("9999 of 10000", x.runs(0, 1, 0, 1), 0);
        due("4999 of 5000", x.runs(0, 2, 0, 1), 0);
        law(x, "d1(1=1);g9999(c=1);g4999(c=2)");
        due("10000 of 10000", x.runs(0, 1, 0, 1), 2);
        due("5000 of 5000", x.runs(0, 2, 0, 1), 2);
        law(x, "d1(1=1);g10000(c=1);g5000(c=2)");
        due("10001 of 10000", x.runs(0, 1, 0, 1), 2);
        due("5001 of 5000", x.runs(0, 2, 0, 1), 2);
        sentence = "up to four LIVES: a LIFE (1 to 1000000) and a WEIGHT (1 to 5)";
        HullTank y = single();
        due("none", y.odds(0, 0, 0, -1), 1);
        due("the first", y.life(0, 1, 1), 0);
        due("1", y.odds(0, 0, 0, -1), 1);
        due("the second", y.life(0, 1000000, 5), 1);
        due("1 and 5", y.odds(0, 0, 0, -1), 6);
        due("the third", y.life(0, 999999, 2), 2);
        due("the fourth", y.life(0, 100000, 4), 3);
        due("and 2 and 4", y.odds(0, 0, 0, -1), 12);
        due("four", y.count(10), 4);
        law(y, "d99999(1=1)");
        program(y, 0, "0*99");
        int[] by = {1, 11, 11, 2};
        for (int i = 0; i < 4; i++) due("life " + i, y.runs(0, 0, i, 1), by[i]);
        law(y, "d100000(1=1)");
        due("a sixth digit", y.pull(0, 0, 1), 99999);
        law(y, "d50000*2(1=1)");
        int[] then = {1, 10, 10, 1};
        for (int i = 0; i < 4; i++) due("life " + i, y.runs(0, 0, i, 1), then[i]);
        sentence = "if it is LIFE or more then, the CRACK's length is 1";
        HullTank z = new HullTank();
        z.corner(0, 1, 1, 10);
        z.life(0, 6, 1);
        z.hull(0);
        law(z, "d5(n=0);d1(n>1)");
        z.flown(0, 0, 1);
        due("5 of 6", z.cornerIs(0, 0, 1), 0);
        z.flown(0, 0, 1);
        due("5 of 6", z.cornerIs(0, 0, 1), 0);
        z.flown(0, 0, 1);
        due("6 of 6", z.cornerIs(0, 0, 1), 1);
        due("its wear", z.cornerIs(0, 0, 0), 6);
        HullTank v = new HullTank();
        v.corner(0, 1, 1, 10);
        v.life(0, 6, 1);
        v.hull(0);
        law(v, "d5(n=0);d99999(n=1)");
        v.flown(0, 0, 2);
        due("far more", v.cornerIs(0, 0, 1), 1);
        due("its wear", v.cornerIs(0, 0, 0), 100004);
        sentence = "WEAR is more by d (1000000 at most)";
        HullTank w = new HullTank();
        w.corner(0, 1, 1, 10);
        w.life(0, 1000000, 1);
        w.hull(0);
        law(w, "d99999(n<10);d9(n=10);d1(n=11);d50000*2(1=1)");
        w.flown(0, 0, 11);
        due("999999", w.cornerIs(0, 0, 0), 999999);
        due("no crack yet", w.cornerIs(0, 0, 1), 0);
        w.flown(0, 0, 1);
        due("1000000", w.cornerIs(0, 0, 0), 1000000);
        due("a crack", w.cornerIs(0, 0, 1), 1);
        HullTank u = new HullTank();
        u.corner(0, 1, 1, 10);
        u.life(0, 1000000, 1);
        u.hull(0);
        law(u, "d99999(n<10);d9(n=10);d2(1=1)");
        u.flown(0, 0, 12);
        due("1000001", u.cornerIs(0, 0, 0), 1000000);
    }

    private static void clauses() {
        sentence = "THE LAW: at first none";
        HullTank x = single();
        due("no clauses", x.count(6), 0);
        due("q", x.pull(0, 99, 0), 0);
        due("d", x.pull(0, 99, 1), 0);
        sentence = "CLAUSES (12 at most)";
        due("1", law(x, "q1(1=1)"), 1);
        due("11", law(x, times("q1(1=1);", 10) + "q1(1=1)"), 11);
        due("12", law(x, times("q1(1=1);", 11) + "q1(1=1)"), 12);
        due("a 13th, q", law(x, times("q1(1=1);", 12) + "q1(1=1)"), -4096);
        due("a 13th, d", law(x, times("q1(1=1);", 12) + "d1(1=1)"), -4096);
        due("a 13th, g, at its end", law(x, times("q1(1=1);", 12) + "g"), -4096);
        due("what can't stand there", law(x, times("q1(1=1);", 12) + "p"), -1096);
        due("a fault ahead of it", law(x, times("q1(1=1);", 11) + "q1(1=1;q1(1=1)"), -1094);
        due("the one before stays", x.count(6), 12);
        sentence = "a TEXT of at most 160 bytes";
        due("least: none of one byte", law(x, "q"), -1001);
        due("6 bytes", law(x, "q1(1=1"), -1006);
        due("7 bytes", law(x, "q1(1=1)"), 1);
        due("159 bytes", law(x, "q" + times("1+", 75) + "10(1=1)"), 1);
        due("75 and 10", x.pull(0, 0, 0), 85);
        due("160 bytes", law(x, "q" + times("1+", 76) + "00(1=1)"), 1);
        due("76", x.pull(0, 0, 0), 76);
        put(x, "q" + times("1+", 76) + "000(1=1)");
        due("161 bytes", x.law(161), -1);
        due("160 of them", x.law(160), -1160);
        due("the one before stays", x.pull(0, 0, 0), 76);
        due("the end of 160 bytes", law(x, "q" + times("1+", 76) + "00(1=1"), -1159);
        sentence = "the first n bytes alone";
        due("a seventh byte of more", lawOf(x, "q1(1=1)2", 7), 1);
        due("an eighth", lawOf(x, "q1(1=1)2", 8), -1007);
        sentence = "(below: 0; above: the most; none: 0)";
        String[] sums = {"0-1", "0", "1", "9999", "5000*2", "5000*2+1", "99999", "99999+1", "99999+2", "0-99999*20000"};
        int[] q = {0, 0, 1, 9999, 10000, 10000, 10000, 10000, 10000, 0};
        int[] d = {0, 0, 1, 9999, 10000, 10001, 99999, 100000, 100000, 0};
        for (int i = 0; i < sums.length; i++) {
            law(x, "q" + sums[i] + "(1=1);d" + sums[i] + "(1=1)");
            due("q " + sums[i], x.pull(0, 0, 0), q[i]);
            due("d " + sums[i], x.pull(0, 0, 1), d[i]);
            HullTank y = new HullTank();
            y.corner(0, 1, 1, 10000);
            y.life(0, 1, 1);
            y.hull(0);
            law(y, "d1(1=1);g" + sums[i] + "(1=1)");
            y.flown(0, 0, 2);
            due("g " + sums[i], y.cornerIs(0, 0, 1), 1 + q[i]);
        }
        law(x, "q5(1=2);d5(1=2)");
        due("none holds", x.pull(0, 0, 0), 0);
        due("none holds", x.pull(0, 0, 1), 0);
        sentence = "of the first CLAUSE of a letter whose C holds the E";
        law(x, "q1(p<5);d11(p<5);q2(p<6);d12(p<6);q3(p>4);d13(p>4)");
        int[] qs = {1, 2, 3};
        for (int p = 4; p <= 6; p++) {
            due("q at " + p, x.pull(0, p, 0), qs[p - 4]);
            due("d at " + p, x.pull(0, p, 1), 10 + qs[p - 4]);
        }
        law(x, "q0(1=1);q7(1=1)");
        due("0 of the first, not 7", x.pull(0, 0, 0), 0);
        law(x, "q1/0(1=1);q7(1=1)");
        due("a refused E is 0", x.pull(0, 0, 0), 0);
        law(x, "q9(1/0=1);q7(1=1)");
        due("a refused C does not hold", x.pull(0, 0, 0), 7);
    }

    private static int lawOf(HullTank x, String text, int n) {
        put(x, text);
        return x.law(n);
    }

    private static void digitsOfNumbers() {
        sentence = "a number of one to five digits; 2 a sixth digit, at it";
        HullTank x = single();
        String[] texts = {"q1(1=1)", "q12345(1=1)", "q00000(1=1)", "q123456(1=1)", "q000000(1=1)", "q1234567890(1=1)", "q1+123456(1=1)",
            "q[123456](1=1)", "q1(123456=1)", "q1(1=123456)", "q1(1=12345)", "q1(1=1&123456=1)", "q1(!123456=1)", "q12345", "q123456",
            "q12345p(1=1)", "q1(1=12345"};
        int[] due = {1, 1, 1, -2006, -2006, -2006, -2008, -2007, -2008, -2010, 1, -2012, -2009, -1006, -2006, -1006, -1010};
        for (int i = 0; i < texts.length; i++) due(texts[i], law(x, texts[i]), due[i]);
        due("five digits count", lawThenPull(x, "q12345%10000(1=1)"), 2345);
        due("noughts ahead", lawThenPull(x, "q00007(00001=1)"), 7);
    }

    private static int lawThenPull(HullTank x, String text) {
        due(text, law(x, text), 1);
        return x.pull(0, 9, 0);
    }

    /** Those of the texts asked below that are a law already. */
    private static boolean isWhole(String text) {
        return List.of("qp(p=p)", "qp(p<p)", "qp((p=p))", "qp(!p=p)", "qp(p=[p])").contains(text);
    }

    /** Each sign at each place of a clause: those that can stand there, and that the others are fault 1 at it. */
    private static void whatCanStand() {
        sentence = "FAULT 1: what can't stand there (the end, too)";
        String every = "qdgprtkcnqhlw0123456789+-*/%<>=&|!()[];,. Q_x^~:#";
        String factor = "prtkcnqhlw0123456789[";
        String afterLetter = "+-*/%";
        String[] ahead = {"", "q", "qp", "q7", "qp+", "qp-", "qp*", "qp/", "qp%", "q[", "q[p", "q[p]",
            "qp(", "qp(p", "qp(p<", "qp(p>", "qp(p=", "qp(p<p", "qp(!", "qp((", "qp((p=p", "qp((p=p)", "qp(p=p)", "qp(p=p);", "qp(p=p&", "qp(p=p|",
            "qp(![", "qp(!p", "qp(!p=p", "qp(p+", "qp([p]", "qp(p=[p", "qp(p=[p]", "qp((p"};
        String[] can = {"qdg", factor, afterLetter + "(", afterLetter + "(0123456789", factor, factor, factor, factor, factor, factor,
            afterLetter + "]", afterLetter + "(",
            factor + "!(", afterLetter + "<>=", factor, factor, factor, afterLetter + "&|)", factor + "!(", factor + "!(", afterLetter + "&|)",
            "&|)", ";", "qdg", factor + "!(", factor + "!(",
            factor, afterLetter + "<>=", afterLetter + "&|)", factor, afterLetter + "<>=", afterLetter + "]", afterLetter + "&|)",
            afterLetter + "<>="};
        HullTank x = single();
        int calls = 0;
        for (int i = 0; i < ahead.length; i++) {
            for (int j = 0; j < every.length(); j++) {
                char c = every.charAt(j);
                String text = ahead[i] + c;
                if ((calls += 3) > 500) { x = single(); calls = 0; }
                int told = law(x, text);
                boolean stands = can[i].indexOf(c) >= 0;
                int place = ahead[i].length();
                if (isWhole(text)) due(text, told, 1);
                else due(text, told, -1000 - (stands ? place + 1 : place));
            }
            if (ahead[i].isEmpty()) continue;
            x = single();
            due("the end behind " + ahead[i], law(x, ahead[i]), isWhole(ahead[i]) ? 1 : -1000 - ahead[i].length());
        }
        for (int b = 0; b < 256; b++) {
            HullTank y = single();
            y.feed(b << 24, 0, 0, 0, 0);
            due("byte " + b, y.law(1), b == 'q' || b == 'd' || b == 'g' ? -1001 : -1000);
            y.feed('q' << 24 | 'p' << 16 | b << 8, 0, 0, 0, 0);
            due("qp and byte " + b, y.law(3), "+-*/%(".indexOf(b) >= 0 ? -1003 : -1002);
            y.feed('q' << 24 | b << 16, 0, 0, 0, 0);
            due("q and byte " + b, y.law(2), factor.indexOf(b) >= 0 ? -1002 : -1001);
        }
    }

    private static void depths() {
        sentence = "FAULT 5: a seventh of ( [ ! that are open in one another, at it";
        HullTank x = single();
        due("six [ in the E of a clause", law(x, "q" + times("[", 6) + "1" + times("]", 6) + "(1=1)"), 1);
        due("its value", x.pull(0, 0, 0), 1);
        due("a seventh", law(x, "q" + times("[", 7) + "1" + times("]", 7) + "(1=1)"), -5007);
        due("an eighth [ is behind it", law(x, "q" + times("[", 8)), -5007);
        due("the end there", law(x, "q" + times("[", 6)), -1007);
        due("six in each factor", law(x, "q[[[[[[1]]]]]]*[[[[[[2]]]]]]+[[[[[[3]]]]]](1=1)"), 1);
        due("its value", x.pull(0, 0, 0), 5);
        due("the ( of the clause and five [", law(x, "q1([[[[[1]]]]]=1)"), 1);
        due("and six", law(x, "q1([[[[[[1]]]]]]=1)"), -5008);
        due("on the right", law(x, "q1(1=[[[[[1]]]]])"), 1);
        due("on the right", law(x, "q1(1=[[[[[[1]]]]]])"), -5010);
        due("and five (", law(x, "q1((((((1=1))))))"), 1);
        due("and six", law(x, "q1(((((((1=1)))))))"), -5008);
        due("and five !", law(x, "q1(!!!!!1=2)"), 1);
        due("it holds", x.pull(0, 0, 0), 1);
        due("and six", law(x, "q1(!!!!!!1=1)"), -5008);
        due("( and !", law(x, "q1(!(!(!1=1)))"), 1);
        due("( and ! and (", law(x, "q1(!(!(!(1=1))))"), -5008);
        due("( and ! and [", law(x, "q1(!(!(![1]=1)))"), -5008);
        due("( and ! and [ on the right", law(x, "q1(!(!(!1=[1])))"), -5010);
        due("a ! that has ended", law(x, "q1(!(!(!1=1&[1]=1)))"), 1);
        due("a ! that has ended", law(x, "q1(!(!(!1=1|(1=1))))"), 1);
        due("five ! that have ended", law(x, "q1(!!!!!1=1&!!!!!1=1|!!!!!1=1)"), 1);
        due("a ( that has ended", law(x, "q1(((((1=1)&(1=1)))))"), 1);
        due("a ( in one that is not", law(x, "q1(((((1=1)&((1=1))))))"), 1);
        due("a seventh in it", law(x, "q1(((((1=1)&(((1=1"), -5014);
        due("of the next clause again six", law(x, "q[[[[[[1]]]]]](1=1);d[[[[[[1]]]]]]((((((1=1))))))"), 2);
        due("a seventh there", law(x, "q[[[[[[1]]]]]](1=1);d[[[[[[[1"), -5027);
        due("where it can't stand it is 1", law(x, "q1(((((((p"), -5008);
        due("where it can't stand it is 1", law(x, "q[[[[[[("), -1007);
        due("where it can't stand it is 1", law(x, "q[[[[[[!"), -1007);
        due("where it can't stand it is 1", law(x, "q1([[[[[("), -1008);
        due("where it can't stand it is 1", law(x, "q1((((((1[1"), -1009);
        sentence = "FAULTS, the first from the left";
        due("5 ahead of 2", law(x, "q[[[[[[[123456"), -5007);
        due("2 ahead of 5", law(x, "q123456([[[[[[["), -2006);
        due("1 ahead of 4", law(x, "q(;" + times("q1(1=1);", 13)), -1001);
        due("4 ahead of all behind it", law(x, times("q1(1=1);", 12) + "q123456([[[[[[["), -4096);
        sentence = "a FAULT: the TEXT before stays, the tape is empty";
        law(x, "q9(1=1)");
        String[] faults = {"x", "q123456", "q[[[[[[[", times("q1(1=1);", 13)};
        for (String text : faults) {
            due(text, one(law(x, text) < -1000 || text.equals("x")), 1);
            due("the tape", x.count(7), 0);
            due("the law", x.pull(0, 0, 0), 9);
            due("its clauses", x.count(6), 1);
        }
    }

    // ---- 32 bits

    private static HullTank sums = single();
    private static int sumsAsked;

    /** A whole number of 32 bits as a sum in brackets: its high half times 65536, and its low half. */
    private static String told(int value) {
        int high = value >> 16;
        return "[" + (high < 0 ? "[0-" + -high + "]" : "" + high) + "*65536+" + (value & 65535) + "]";
    }

    private static void is(String sum, int value) {
        if (++sumsAsked % 25 == 0) sums = single();
        due(sum + " read", law(sums, "q1([" + sum + "]=" + told(value) + ");q2(1=1)"), 2);
        due(sum + " is " + value, sums.pull(0, 9, 0), 1);
        law(sums, "q" + sum + "(1=1)");
        due(sum + " pulls", sums.pull(0, 9, 0), Math.max(0, Math.min(10000, value)));
        law(sums, "d" + sum + "(1=1)");
        due(sum + " wears", sums.pull(0, 9, 1), Math.max(0, Math.min(100000, value)));
    }

    private static void wraps() {
        sentence = "All is reckoned with 32 bits, as the machine does";
        is("32768*65535+32767", Integer.MAX_VALUE);
        is("32768*65535+32768", Integer.MIN_VALUE);
        is("32768*65535+32769", Integer.MIN_VALUE + 1);
        is("32768*65536", Integer.MIN_VALUE);
        is("32768*65536-1", Integer.MAX_VALUE);
        is("0-32768*65536", Integer.MIN_VALUE);
        is("0-32768*65536-1", Integer.MAX_VALUE);
        is("65536*65536", 0);
        is("65536*65536+5", 5);
        is("65535*65537", -1);
        is("65537*65537", 131073);
        is("46340*46340", 2147395600);
        is("46341*46341", -2147479015);
        is("99999*99999", 1409865409);
        is("99999*99999*99999", 99999 * 99999 * 99999);
        is("99999*99999+99999*99999", 1409865409 + 1409865409);
        is("0-99999*42950", -99999 * 42950);
        is("32768*65536/[0-1]", Integer.MIN_VALUE);
        is("32768*65536%[0-1]", 0);
        is("32768*65536/2", -1073741824);
        is("32768*65536%10", -8);
        is("[0-7]/2", -3);
        is("[0-7]%2", -1);
        is("7/[0-2]", -3);
        is("7%[0-2]", 1);
        is("[0-7]/[0-2]", 3);
        is("[0-7]%[0-2]", -1);
        is("0/7", 0);
        is("0%7", 0);
        is("1/99999", 0);
        is("p*p*p*p*p*p*p*p*p*p", 9 * 9 * 9 * 9 * 9 * 9 * 9 * 9 * 9 * 9);
        is("p*99999*99999/r", 9 * 99999 * 99999 / 7);
        sentence = "from the left on; a FACTOR ahead of a TERM";
        is("100-10-1", 89);
        is("100-[10-1]", 91);
        is("100/10/5", 2);
        is("100/[10/5]", 50);
        is("7*5%4", 3);
        is("7*[5%4]", 7);
        is("100%7*3/2", 3);
        is("2+3*4-5%3", 12);
        is("[2+3]*[4-5]%3", -2);
        is("1-2*3-4/2", -7);
        sentence = "< > = of 32 bits";
        HullTank x = single();
        String most = told(Integer.MAX_VALUE), least = told(Integer.MIN_VALUE);
        String[] holds = {least + "<" + most, most + ">" + least, most + "=" + most, least + "=" + least, most + "+1<0", most + "+1=" + least,
            least + "-1>0", least + "-1=" + most, least + "<0", most + ">0", "0-" + least + "<0", "65536*65536=0"};
        String[] not = {most + "<" + least, least + ">" + most, most + "=" + least, most + "<" + most, most + ">" + most, least + "<" + least,
            most + "+1>0", least + "-1<0"};
        for (String c : holds) { due(c, law(x, "q1(" + c + ")"), 1); due(c, x.pull(0, 0, 0), 1); }
        for (String c : not) { due(c, law(x, "q1(" + c + ")"), 1); due(c, x.pull(0, 0, 0), 0); }
        sentence = "what wraps around in q, d and g is cut then";
        HullTank y = new HullTank();
        y.corner(0, 1, 1, 10000);
        y.life(0, 5, 1);
        y.hull(0);
        law(y, "q46341*46341(p=1);q46340*46340(p=2);d65536*65536+3(p=3);d5(p=4);g46341*46341(p=5);g65536*65536+9(p=6)");
        y.flown(0, 1, 1);
        due("below 0", y.cornerIs(0, 0, 2), 0);
        y.flown(0, 2, 1);
        due("above", y.cornerIs(0, 0, 2), 10000);
        y.flown(0, 3, 1);
        due("wear", y.cornerIs(0, 0, 0), 3);
        y.flown(0, 4, 1);
        due("wear", y.cornerIs(0, 0, 0), 8);
        y.flown(0, 5, 1);
        due("the crack", y.cornerIs(0, 0, 1), 1);
        y.flown(0, 6, 1);
        due("the crack", y.cornerIs(0, 0, 1), 10);
    }

    private static void refusedSums() {
        sentence = "what is divided by 0 is REFUSED: the whole C does not hold, the whole E is 0";
        HullTank x = single();
        String[] zero = {"1/0", "1%0", "0/0", "0%0", "5+1/0", "1/0+5", "5*[1/0]", "[1%0]*0", "1/[5-5]", "1%n", "1/[65536*65536]", "0-1/0", "7/0/7", "p/q"};
        for (String e : zero) {
            law(x, "q7(1=1);d" + e + "(1=1);d7(1=1)");
            // In a d the q is 7: p / q is not refused there.
            due("d" + e, x.pull(0, 9, 1), e.equals("p/q") ? 1 : 0);
            law(x, "q" + e + "(1=1);q7(1=1)");
            due("q" + e, x.pull(0, 9, 0), 0);
            String[] cs = {e + "=0", e + "<1", "0=" + e, "!" + e + "=0", "!(" + e + "=0)", "(" + e + "=0)|1=1", e + "=0|1=1", "1=1&" + e + "=0",
                "1=2|" + e + "=0", "1=2|" + e + "=0|1=1", "(1=1&" + e + "=0)|1=1", "!!(1=1&" + e + "=0)"};
            for (String c : cs) {
                law(x, "q1(" + c + ");q5(1=1)");
                due(c, x.pull(0, 9, 0), 5);
            }
            String[] unasked = {"1=1|" + e + "=0", "!1=1&" + e + "=0|1=1", "(1=1|" + e + "=0)", "!(1=2&" + e + "=0)", "1=1|(1=1&" + e + "=0)",
                "1=2&" + e + "=0&1=1|1=1", "1=1|1=1&" + e + "=0"};
            for (String c : unasked) {
                law(x, "q1(" + c + ");q5(1=1)");
                due("as much as matters: " + c, x.pull(0, 9, 0), 1);
            }
            x = single();
        }
        HullTank y = new HullTank();
        y.corner(0, 1, 1, 100);
        y.life(0, 1, 1);
        y.hull(0);
        law(y, "d1(1=1);g9/n(n>0);g9/[n-1](1=1)");
        y.flown(0, 0, 2);
        due("g 9 / 1", y.cornerIs(0, 0, 1), 10);
        law(y, "g9/[n-2](1=1);g7(1=1)");
        y.flown(0, 0, 1);
        due("g 9 / 0", y.cornerIs(0, 0, 1), 10);
        law(y, "g9(1/[n-3]=1);g7(1=1)");
        y.flown(0, 0, 1);
        due("a refused C of g", y.cornerIs(0, 0, 1), 17);
    }

    /** Each letter in each of q, d and g: what it is at the third pull, with a crack in g. */
    private static void letters() {
        sentence = "a letter: p r t k c n q h l w";
        String letters = "prtkcnqhlw";
        // Pulls by 4, 9, 6: q is pressure times 10; wear 100 a pull till 200, then a crack, which grows by 3.
        int[] inD = {6, 7, 5, 2, 1, 2, 60, 90, 0, 200};
        int[] inG = {6, 7, 5, 2, 1, 3, 60, 90, 1, 300};
        int[] inQ = {6, 7, 5, 2, 1, 2, 0, 90, 0, 200};
        for (int i = 0; i < letters.length(); i++) {
            char c = letters.charAt(i);
            HullTank x = lettersTank(1000);
            law(x, "qp*10(1=1);d100(1=1)");
            x.flown(0, 4, 1);
            x.flown(0, 9, 1);
            law(x, "qp*10(1=1);d" + c + "(1=1)");
            x.flown(0, 6, 1);
            due("d" + c, x.cornerIs(0, 1, 0) - 200, inD[i]);
            HullTank y = lettersTank(300);
            law(y, "qp*10(1=1);d100(1=1)");
            y.flown(0, 4, 1);
            y.flown(0, 9, 1);
            y.flown(0, 6, 1);
            due("a crack", y.cornerIs(0, 1, 1), 1);
            law(y, "qp*10(1=1);g" + c + "(1=1)");
            y.flown(0, 6, 1);
            due("g" + c, y.cornerIs(0, 1, 1) - 1, inG[i]);
            due("no wear with a crack", y.cornerIs(0, 1, 0), 300);
            HullTank z = lettersTank(1000);
            law(z, "qp*10(1=1);d100(1=1)");
            z.flown(0, 4, 1);
            z.flown(0, 9, 1);
            law(z, "q" + c + "*10+1(1=1);dq(1=1)");
            z.flown(0, 6, 1);
            due("q" + c, z.cornerIs(0, 1, 0) - 200, inQ[i] * 10 + 1);
            // In a C the same as in an E.
            HullTank v = lettersTank(1000);
            law(v, "qp*10(1=1);d100(1=1)");
            v.flown(0, 4, 1);
            v.flown(0, 9, 1);
            law(v, "q7(" + c + "=" + inQ[i] + ");dq(1=1)");
            v.flown(0, 6, 1);
            due("q7(" + c + "=..)", v.cornerIs(0, 1, 0) - 200, 7);
        }
    }

    private static HullTank lettersTank(int life) {
        HullTank x = new HullTank();
        x.corner(0, 1, 1, 1);
        x.corner(2, 7, 5, 10000);
        x.life(1, life, 1);
        x.hull(0);
        return x;
    }

    private static void programs() {
        sentence = "A PROGRAM: a TEXT of at most 60 bytes";
        HullTank x = single();
        due("one byte", program(x, 0, "0"), 1);
        due("59 bytes", program(x, 0, times("01*0001;", 7) + "1*1"), 8);
        due("60 bytes", program(x, 0, times("01*0001;", 7) + "01*2"), 9);
        put(x, times("01*0001;", 7) + "01*02");
        due("61 bytes", x.program(0, 61), -1);
        due("60 of them", x.program(0, 60), -3059);
        due("that before stays", x.count(20), 9);
        sentence = "PARTS (8 at most)";
        due("8", program(x, 0, "1;1;1;1;1;1;1;1"), 8);
        due("a ninth", program(x, 0, "1;1;1;1;1;1;1;1;1"), -4016);
        due("a tenth behind it", program(x, 0, "1;1;1;1;1;1;1;1;1;1"), -4016);
        due("no digit", program(x, 0, "1;1;1;1;1;1;1;1;*"), -1016);
        due("the end", program(x, 0, "1;1;1;1;1;1;1;1;"), -1016);
        due("ahead of 2", program(x, 0, "1;1;1;1;1;1;1;1;111"), -4016);
        due("ahead of 3", program(x, 0, "1;1;1;1;1;1;1;1;1*0"), -4016);
        due("ahead of 3", program(x, 0, "1*1993;1;1;1;1;1;1;1;1"), -4021);
        due("2 in the eighth is further left", program(x, 0, "1;1;1;1;1;1;1;111;1"), -2016);
        due("3 in the eighth is further left", program(x, 0, "1;1;1;1;1;1;1;1*0;1"), -3016);
        sentence = "a PRESSURE (one or two digits)";
        due("one", program(x, 0, "9"), 1);
        due("two", program(x, 0, "99"), 1);
        due("a third", program(x, 0, "999"), -2002);
        due("a third of three noughts", program(x, 0, "000"), -2002);
        due("a third, and so on", program(x, 0, "9999*0"), -2002);
        sentence = "how many times (one to four digits, 1 to 2000; else once)";
        due("once", program(x, 0, "9*1"), 1);
        due("2000", program(x, 0, "9*2000"), 2000);
        due("four digits", program(x, 0, "9*0001"), 1);
        due("a fifth", program(x, 0, "9*00001"), -2006);
        due("a fifth behind another part", program(x, 0, "9;9*00001"), -2008);
        due("0", program(x, 0, "9*0"), -3002);
        due("0000", program(x, 0, "99*0000"), -3003);
        due("2001", program(x, 0, "9*2001"), -3002);
        due("9999", program(x, 0, "99*9999"), -3003);
        due("2 is asked ahead of 3", program(x, 0, "9*20010"), -2006);
        due("2 is asked ahead of 3", program(x, 0, "9*00000"), -2006);
        due("that before stays", x.count(20), 1);
        sentence = "2000 PULLS together at most";
        due("1999 and 1", program(x, 0, "9*1999;8"), 2000);
        due("1999 and 1 time", program(x, 0, "9*1999;8*1"), 2000);
        due("1999 and 2 times", program(x, 0, "9*1999;8*2"), -3009);
        due("2000 and one alone", program(x, 0, "9*2000;8"), -3007);
        due("2000 and one of two digits", program(x, 0, "9*2000;88"), -3007);
        due("2000 and one time", program(x, 0, "9*2000;8*1"), -3009);
        due("2 of a pressure ahead of it", program(x, 0, "9*2000;888"), -2009);
        due("2 of times ahead of it", program(x, 0, "9*2000;8*00001"), -2013);
        due("1000, 999 and 1", program(x, 0, "9*1000;8*0999;7"), 2000);
        due("1000, 1000 and 1", program(x, 0, "9*1000;8*1000;7"), -3014);
        due("1000, 1001", program(x, 0, "9*1000;8*1001"), -3009);
        due("eight of 250", program(x, 0, times("9*250;", 7) + "9*250"), 2000);
        due("one more", program(x, 0, times("9*250;", 7) + "9*251"), -3044);
        due("that before stays", x.count(20), 2000);
        due("another", x.count(21), 0);
        for (int k = 0; k < 8; k++) due("program " + k, program(x, k, "1*" + (k + 1)), k + 1);
        for (int k = 0; k < 8; k++) due("program " + k, x.count(20 + k), k + 1);
        programSigns();
    }

    private static void programSigns() {
        sentence = "a PROGRAM's FAULT 1: what can't stand there (the end, too)";
        String[] ahead = {"", "5", "55", "5*", "5*1", "5*0001", "5;", "5*1;"};
        String digits = "0123456789";
        String[] can = {digits, digits + "*;", "*;", digits, digits + ";", ";", digits, digits};
        for (int i = 0; i < ahead.length; i++) {
            HullTank x = single();
            for (int b = 32; b < 127; b++) {
                char c = (char) b;
                int told = program(x, 3, ahead[i] + c);
                boolean stands = can[i].indexOf(c) >= 0, digit = digits.indexOf(c) >= 0;
                int place = ahead[i].length();
                if (digit && !stands) due(ahead[i] + c, told, -2000 - place);
                else if (!stands) due(ahead[i] + c, told, -1000 - place);
                else if (!digit) due(ahead[i] + c, told, -1000 - place - 1);
                else if (ahead[i].equals("5*") && c == '0') due(ahead[i] + c, told, -3002);
                else due(ahead[i] + c, one(told > 0), 1);
                if (b % 40 == 0) x = single();
            }
            if (i > 0) {
                boolean whole = digits.indexOf(ahead[i].charAt(ahead[i].length() - 1)) >= 0;
                int told = program(x, 3, ahead[i]);
                if (whole) due("the end behind " + ahead[i], one(told > 0), 1);
                else due("the end behind " + ahead[i], told, -1000 - ahead[i].length());
            }
        }
        for (int b = 0; b < 256; b++) {
            HullTank x = single();
            x.feed(b << 24, 0, 0, 0, 0);
            due("byte " + b, x.program(0, 1), b >= '0' && b <= '9' ? 1 : -1000);
        }
    }

    private static void tape() {
        sentence = "Twenty bytes come behind the tape, NONE if that would be more than 200";
        HullTank x = single();
        due("empty", x.count(7), 0);
        due("empty: law", x.law(1), -1);
        due("empty: program", x.program(0, 1), -1);
        for (int i = 1; i <= 9; i++) due("feed " + i, x.feed(0, 0, 0, 0, 0), 20 * i);
        due("180", x.count(7), 180);
        due("200", x.feed(0, 0, 0, 0, 0), 200);
        due("more", x.feed(0, 0, 0, 0, 0), -1);
        due("more again", x.feed(1, 1, 1, 1, 1), -1);
        due("200", x.count(7), 200);
        x.law(160);
        due("empty then, not 40 left", x.count(7), 0);
        due("from the start again", x.feed('q' << 24 | '8' << 16 | '(' << 8 | '1', '=' << 24 | '1' << 16 | ')' << 8, 0, 0, 0), 20);
        due("20 of 20 can be read", x.law(20), -1007);
        x.feed('q' << 24 | '8' << 16 | '(' << 8 | '1', '=' << 24 | '1' << 16 | ')' << 8, 0, 0, 0);
        due("behind it", x.feed(0, 0, 0, 0, 0), 40);
        due("the first seven", x.law(7), 1);
        due("8", x.pull(0, 0, 0), 8);
        sentence = "the highest of each int first";
        String text = "q" + times("1+", 9) + "2+2*3*5*7/2-6(1=1)";
        due("of five ints and the next", law(x, text), 1);
        due("9 and 2 and 105 less 6", x.pull(0, 0, 0), 9 + 2 + 2 * 3 * 5 * 7 / 2 - 6);
    }

    private static void hulls() {
        sentence = "A HULL by LIVES as digits of four (CORNER 0 in the lowest place)";
        HullTank x = new HullTank();
        for (int c = 0; c < 8; c++) {
            x.corner(0, 1, 1, 1);
            for (int i = 0; i < 4; i++) x.life(c, 10 * c + i + 1, 1);
        }
        int[] digits = {0, 3, 1 << 2, 3 << 2, 1 << 14, 3 << 14, 65535, 0x1B1B, 0xE4E4, 2};
        for (int h = 0; h < 10; h++) due("hull " + h, x.hull(digits[h]), h);
        law(x, "d1(1=1)");
        for (int h = 0; h < 10; h++) {
            due("flown " + h, x.flown(h, 0, 2000), (digits[h] & 3) + 1);
            due("lost by " + h, x.hullIs(h, 1), 0);
        }
        sentence = "all CORNERS at each; of several the lowest CORNER";
        HullTank z = new HullTank();
        for (int c = 0; c < 8; c++) {
            z.corner(0, 1, 1, 1);
            z.life(c, 5, 1);
        }
        for (int h = 0; h < 8; h++) {
            z.hull(0);
            law(z, "q9(1=1);d1(!c<" + h + ")");
            due("five", z.flown(h, 0, 9), 5);
            due("the lowest that runs", z.hullIs(h, 1), h);
            for (int c = 0; c < 8; c += 7) {
                due("each is worn", z.cornerIs(h, c, 0), c < h ? 0 : 5);
                due("each has a crack", z.cornerIs(h, c, 1), c < h ? 0 : 1);
                due("each is pulled", z.cornerIs(h, c, 2), 9);
            }
        }
        sentence = "FLOWN: so many PULLS (1 to 2000; 100000 in all at most)";
        HullTank v = single();
        v.hull(0);
        v.hull(0);
        due("1", v.flown(0, 0, 1), 1);
        due("2000", v.flown(0, 99, 2000), 2000);
        for (int i = 0; i < 48; i++) v.flown(0, 50, 2000);
        due("98001", v.hullIs(0, 0), 98001);
        due("100001", v.flown(0, 0, 2000), -1);
        due("100000", v.flown(0, 0, 1999), 1999);
        due("100000", v.hullIs(0, 0), 100000);
        due("100001", v.flown(0, 0, 1), -1);
        due("of each hull for itself", v.flown(1, 0, 2000), 2000);
        sentence = "CORNERS that have none: it has none, and nothing happens to it";
        HullTank w = new HullTank();
        w.corner(0, 1, 1, 1);
        w.corner(0, 1, 1, 1);
        w.life(1, 3, 1);
        w.hull(0);
        law(w, "q8(1=1);d1(1=1)");
        due("three", w.flown(0, 0, 9), 3);
        for (int what = 0; what < 3; what++) due("corner 0", w.cornerIs(0, 0, what), 0);
        due("lost by corner 1", w.hullIs(0, 1), 1);
    }

    private static HullTank sure(int... lives) {
        HullTank x = new HullTank();
        for (int c = 0; c < lives.length; c++) {
            x.corner(0, 1, 1, 1);
            x.life(c, lives[c], 1);
        }
        law(x, "d1(1=1)");
        return x;
    }

    private static void odds() {
        sentence = "BY n FLIGHTS (0 to 2000) behind a PROGRAM (2000 PULLS together at most)";
        HullTank x = sure(2000);
        due("0", x.odds(0, 0, 0, 8), 0);
        due("1999", x.odds(0, 0, 1999, 8), 0);
        due("2000", x.odds(0, 99, 2000, 8), 1);
        due("2001", x.odds(0, 0, 2001, 8), -1);
        due("left 1999", x.left(0, 0, 1999, 0), 0);
        due("left 2000", x.left(0, 0, 2000, 0), 1);
        due("left 2001", x.left(0, 0, 2001, 0), -1);
        due("likely 2000", x.likely(1, 0, 0, 1), 2000);
        due("likely 2000", x.likely(1, 0, 99, 1000), 2000);
        program(x, 1, "5*1500");
        due("1500 and 499", x.odds(1, 0, 499, 8), 0);
        due("1500 and 500", x.odds(1, 0, 500, 8), 1);
        due("1500 and 501", x.odds(1, 0, 501, 8), -1);
        due("1500 and 501, all", x.odds(1, 0, 501, -1), -1);
        due("1500 and 501, first", x.odds(1, 0, 501, 0), -1);
        due("left", x.left(1, 0, 500, 1), 1);
        due("left", x.left(1, 0, 501, 1), -1);
        due("likely behind it", x.likely(1, 1, 0, 1), 500);
        due("off", x.off(1, 1, 0), 500 - 2000);
        due("trial", x.trial(1, 1, 0, 501, 1), -1);
        due("trial", x.trial(1, 1, 0, 500, 1), 0);
        due("says", x.says(0, 0), 1);
        due("trial of 1999", x.trial(1, 0, 0, 1999, 1), 1);
        due("says", x.says(1, 0), 0);
        due("trial of 2000", x.trial(1, 0, 99, 2000, 1), 2);
        due("says", x.says(2, 0), 1);
        due("trial of 2001", x.trial(1, 0, 99, 2001, 1), -1);
        program(x, 2, "5*1999");
        due("1999 and 1", x.odds(2, 0, 1, 8), 1);
        due("likely behind 1999", x.likely(1, 2, 0, 1), 1);
        due("1999 alone", x.odds(2, 0, 0, 8), 0);
        program(x, 3, "5*2000");
        due("2000 alone", x.odds(3, 0, 0, 8), 1);
        due("2000 and 1", x.odds(3, 0, 1, 8), -1);
        due("left: none", x.left(3, 0, 0, 0), -2);
        due("left: too many", x.left(3, 0, 1, 0), -1);
        due("likely: none is left", x.likely(1, 3, 0, 1), -2);
        due("off: none is left", x.off(1, 3, 0), -100000);
        HullTank y = sure(2001);
        due("2001 is beyond all", y.odds(0, 0, 2000, 8), 0);
        due("likely: 2000 PULLS do not do", y.likely(1, 0, 0, 1), -2);
        due("off: one of them there is not", y.off(1, 0, 0), -100000);
        program(y, 0, "5*2000");
        due("likely behind 2000", y.likely(1, 0, 0, 1), -2);
        due("left", y.left(0, 0, 0, 0), 0);
        due("left", y.left(0, 0, 0, 1), 1);
        sentence = "FIRST: ahead of all others (by one and the same PULL: the lowest)";
        HullTank z = sure(5, 4, 5, 4);
        int[] first = {0, 1, 0, 0};
        for (int c = 0; c < 4; c++) {
            due("by 3", z.odds(0, 0, 3, c), 0);
            due("by 4", z.odds(0, 0, 4, c), first[c]);
            due("by 5", z.odds(0, 0, 5, c), first[c]);
        }
        due("corner 4 of 4", z.odds(0, 0, 5, 4), -1);
        sentence = "THE ODDS of eight CORNERS, and of none";
        HullTank w = sure(1, 2, 3, 4, 5, 6, 7, 8);
        due("first 7", w.odds(0, 0, 9, 7), 0);
        due("first 0", w.odds(0, 0, 9, 0), 1);
        due("what 8 is LOST", w.odds(0, 0, 1, 8), 1);
        due("what 9", w.odds(0, 0, 1, 9), -1);
        for (int c = 0; c < 8; c++) due("corner " + c + " alone", w.likely(1 << c, 0, 0, 1000), c + 1);
        due("all", w.likely(255, 0, 0, 1000), 1);
        due("the last four", w.likely(240, 0, 0, 1000), 5);
        due("256", w.likely(256, 0, 0, 1000), -1);
        due("off", w.off(128, 0, 0), 7);
        due("off", w.off(256, 0, 0), -100000);
        HullTank v = fresh();
        due("all of no corners", v.odds(0, 0, 0, -1), 1);
        due("lost", v.odds(0, 0, 2000, 8), 0);
        due("first", v.odds(0, 0, 0, 0), -1);
        due("left", v.left(0, 0, 2000, 0), 0);
        due("left", v.left(0, 0, 2000, 1), 1);
        due("likely", v.likely(1, 0, 0, 1), -1);
        due("fly", v.fly(0, 0, 200, 1000000, 1), 200);
        due("moves", v.moves(), -1);
        due("cheapest", v.cheapest(1), -1);
    }

    private static void thousandths() {
        sentence = "not below so many thousandths (1 to 1000)";
        HullTank x = new HullTank();
        for (int c = 0; c < 3; c++) x.corner(0, 1, 1, 1);
        // 1 of 10 by 1; 1 of 20 by 1 of both corners: 10 ways by corner 0, 20 by corner 1.
        x.life(0, 1, 1);
        x.life(0, 2, 4);
        x.life(0, 3, 5);
        x.life(1, 9, 5);
        x.life(1, 8, 5);
        x.life(1, 7, 5);
        x.life(1, 5, 5);
        law(x, "d1(1=1)");
        due("1", x.likely(1, 0, 0, 1), 1);
        due("100", x.likely(1, 0, 0, 100), 1);
        due("101", x.likely(1, 0, 0, 101), 2);
        due("500", x.likely(1, 0, 0, 500), 2);
        due("501", x.likely(1, 0, 0, 501), 3);
        due("999", x.likely(1, 0, 0, 999), 3);
        due("1000", x.likely(1, 0, 0, 1000), 3);
        due("250", x.likely(2, 0, 0, 250), 5);
        due("251", x.likely(2, 0, 0, 251), 7);
        due("750", x.likely(2, 0, 0, 750), 8);
        due("751", x.likely(2, 0, 0, 751), 9);
        due("1000", x.likely(2, 0, 0, 1000), 9);
        program(x, 0, "0");
        // Of those not lost by it: 4 of 9 by one more.
        due("444 of 9 left", x.likely(1, 0, 0, 444), 1);
        due("445 of 9 left", x.likely(1, 0, 0, 445), 2);
        program(x, 0, "0*2");
        due("all of 5 left", x.likely(1, 0, 0, 1000), 1);
        program(x, 0, "0*3");
        due("none is left", x.likely(1, 0, 0, 1000), -2);
        due("of corner 1 all are left", x.likely(2, 0, 0, 250), 2);
        due("of both none", x.likely(3, 0, 0, 250), -2);
        due("of one without lives", x.likely(4, 0, 0, 1), -2);
        sentence = "THE TRIAL: not below so many thousandths, of least COST, of like ones the lowest";
        HullTank y = new HullTank();
        y.corner(0, 1, 1, 1);
        y.life(0, 1, 1);
        y.life(0, 2, 4);
        y.life(0, 3, 5);
        law(y, "d1(1=1)");
        due("none", y.cheapest(1), -1);
        y.trial(1, 0, 0, 0, 1);
        due("it says nothing", y.cheapest(1), -1);
        y.trial(1, 0, 0, 3, 10000);
        due("cost 10000", y.cheapest(1), 1);
        due("1000 of 1000", y.cheapest(1000), 1);
        y.trial(1, 0, 0, 2, 9999);
        due("cost 9999", y.cheapest(1), 2);
        due("500", y.cheapest(500), 2);
        due("501", y.cheapest(501), 1);
        y.trial(1, 0, 0, 1, 9999);
        due("of like ones the lowest", y.cheapest(1), 2);
        y.trial(1, 0, 0, 1, 9998);
        due("100", y.cheapest(100), 4);
        due("101", y.cheapest(101), 2);
        y.trial(1, 0, 0, 2, 1);
        due("cost 1", y.cheapest(1), 5);
        due("cost 1", y.cheapest(500), 5);
        due("0 thousandths", y.cheapest(0), -1);
        due("1001 thousandths", y.cheapest(1001), -1);
        sentence = "without a common divisor";
        long[][] says = {{0, 1}, {1, 1}, {1, 2}, {1, 10}, {1, 10}, {1, 2}};
        for (int i = 0; i < 6; i++) {
            due("trial " + i, y.says(i, 0), says[i][0]);
            due("trial " + i, y.says(i, 1), says[i][1]);
        }
        due("trial 6 of 6", y.says(6, 0), -1);
        y.trial(1, 0, 0, 1, 9999);
        due("trial 6", y.says(6, 1), 10);
        y.trial(1, 0, 0, 1, 9999);
        due("trial 7", y.says(7, 1), 10);
        due("trial 8", y.says(8, 1), -1);
    }

    /** What was asked before by another program, trial, pressure or law doesn't show in what is asked now. */
    private static void askedBefore() {
        sentence = "HOW FAR OFF: LIKELY (500 thousandths)";
        HullTank x = new HullTank();
        int[][] weights = {{2, 5}, {1, 1, 5}, {1, 1, 5, 4}};
        // 1 is lost by 1 with 2 of 7, 1 of 7 and 2 of 11: 539 ways, 269 lost: 499 thousandths and not 500.
        int[] soon = {1, 1, 2};
        for (int c = 0; c < 3; c++) {
            x.corner(0, 1, 1, 1);
            for (int i = 0; i < weights[c].length; i++) x.life(c, i < soon[c] ? 1 : 5 + i, weights[c][i]);
        }
        law(x, "d1(1=1)");
        due("all", x.odds(0, 0, 1, -1), 539);
        due("lost by 1", x.odds(0, 0, 1, 8), 269);
        due("499 thousandths", x.likely(7, 0, 0, 499), 1);
        due("500 thousandths", x.likely(7, 0, 0, 500), 6);
        due("the hull by 6, the piece by 6", x.off(1, 0, 0), 0);
        due("behind a program the piece by 5", programOff(x), -1);

        sentence = "a TRIAL keeps its PROGRAM; without one there are no PULLS";
        HullTank y = sure(6, 6);
        for (int i = 0; i < 8; i++) {
            program(y, i, "5*" + (i + 1));
            due("trial", y.trial(2, i, 0, 1999 - i, 1), i);
        }
        for (int i = 0; i < 8; i++) program(y, i, "5*" + (8 - i));
        law(y, "d1(p=5);d2(1=1)");
        for (int i = 0; i < 8; i++) {
            // Trial i has 5 i + 1 times and then 0: lost behind it by half of what is not worn.
            for (int k = 0; k < 8; k++) {
                int behind = 8 - k >= 6 ? -2 : (6 - (8 - k) + 1) / 2;
                due("likely " + k, y.likely(2, k, 0, 1), behind);
                due("says " + i, y.says(i, 0), 1);
                due("likely " + k, y.likely(2, k, 0, 1), behind);
                due("off " + k, y.off(1, k, 0), behind < 0 ? -100000 : behind - 3);
            }
        }
        HullTank z = sure(9, 9);
        program(z, 7, "0*8");
        for (int i = 0; i < 8; i++) due("trial", z.trial(2, i == 1 ? 7 : 0, i == 1 ? 0 : 1, i == 1 ? 0 : 4, 9 - i), i);
        program(z, 7, "1*3");
        law(z, "d2(p=1);d1(1=1)");
        for (int i = 0; i < 8; i++) {
            due("likely", z.likely(3, 7, 0, 1), 3);
            due("says", z.says(i, 0), 0);
            due("off", z.off(1, 7, 0), 3 - 9);
            due("says", z.says(i, 0), 0);
        }
        due("none says", z.cheapest(1), -1);
        HullTank r = sure(9, 9);
        program(r, 7, "0*8");
        r.trial(1, 0, 1, 4, 9);
        r.trial(2, 7, 0, 0, 8);
        program(r, 7, "1*3");
        law(r, "d2(p=1);d1(1=1)");
        due("likely by the program now", r.likely(2, 7, 0, 1), 3);
        due("none says by those then", r.cheapest(1), -1);
        HullTank t = sure(9, 4);
        for (int i = 0; i < 7; i++) t.trial(1, 0, 1, 0, 1);
        program(t, 0, "1*3");
        t.trial(2, 0, 0, 1997, 1);
        law(t, "d2(p=1);d1(1=1)");
        due("trial 7: of 4 by 1 1", t.says(7, 0), 1);
        due("the hull by 4, the piece by 3 and 3", t.off(1, 0, 0), 3 - 4);

        sentence = "CORNERS with four LIVES, one asked ahead of the other";
        for (int first = 1; first <= 3; first++) {
            HullTank u = new HullTank();
            u.corner(0, 1, 1, 1);
            u.corner(0, 1, 1, 1);
            for (int i = 0; i < 4; i++) { u.life(0, 10 + i, 1); u.life(1, 5 + i, 1); }
            law(u, "d1(1=1)");
            due("piece " + first, u.likely(first, 0, 0, 1), first == 1 ? 10 : 5);
            due("all", u.likely(3, 0, 0, 1), 5);
            due("corner 0", u.likely(1, 0, 0, 1000), 13);
            due("corner 1", u.likely(2, 0, 0, 1000), 8);
        }

        sentence = "in place of the one before";
        HullTank v = sure(1);
        law(v, "d1(p=9)");
        program(v, 0, "1*2;9*5;9");
        program(v, 1, "1*2;1*5;9");
        program(v, 0, "1");
        due("no pull by 9", v.odds(0, 1, 50, 8), 0);
        due("no pull by 9", v.likely(1, 0, 1, 1), -2);
        program(v, 0, "1;9*0");
        program(v, 0, "1;1;9x");
        due("nor behind a fault", v.odds(0, 1, 50, 8), 0);
        due("the other has it", v.runs(1, 0, 0, 1), 8);
        sentence = "THE TRIAL: the first one, too";
        HullTank w = sure(1, 2);
        w.trial(1, 0, 0, 1, 5);
        w.trial(2, 0, 0, 1, 4);
        w.trial(2, 0, 0, 2, 6);
        due("trial 0", w.cheapest(1), 0);
        w.trial(2, 0, 0, 2, 5);
        due("trial 0, of like ones the lowest", w.cheapest(1000), 0);
    }

    /** Behind one pull that wears a corner by 1: the piece by 5 more, the hull without it by 6. */
    private static int programOff(HullTank x) {
        program(x, 7, "0");
        return x.off(1, 7, 0);
    }

    /** Many pulls in one call, by letters that are others at each, or at some. */
    private static void manyPulls() {
        sentence = "a letter: as it is at each PULL of one call";
        String[] laws = {"qn*10(1=1);d1(1=1);g1(1=1)", "qh+3(1=1);d1(1=1);g1(1=1)", "ql*5(1=1);d1(1=1);g1(1=1)", "qw*5(1=1);d1(1=1);g1(1=1)",
            "q1(1=1);dn+1(1=1);gn(1=1)", "qh+1(1=1);dh+1(1=1);gh(1=1)", "q1(1=1);d1+l(1=1);gl(1=1)", "q1(1=1);d1+w(1=1);gw(1=1)",
            "q3(n<4);q9(n<5);q1(1=1);d1(h<9);d2(1=1);g1(h<10)", "q7(l=0);q8(l=1);q9(1=1);d1(1=1);gl(1=1)", "q1(1=1);d1(w<2);d9(1=1);g5(w>0)"};
        // 8 pulls; life 4, reach 10000: wear, crack, the most then.
        int[][] due = {{4, 5, 70}, {4, 5, 24}, {4, 5, 20}, {4, 5, 20},
            {6, 1 + 3 + 4 + 5 + 6 + 7, 1}, {1 + 1 + 2, 1 + 2 + 0, 0}, {4, 16, 1}, {1 + 2 + 4, 1 + 7 * 5, 1},
            {4, 5, 9}, {4, 16, 9}, {11, 26, 1}};
        due[5] = new int[] {1 + 2 + 3, 1 + 3 + 4 + 5 + 6 + 7, 8};
        for (int i = 0; i < laws.length; i++) {
            for (int together = 0; together < 2; together++) {
                HullTank x = new HullTank();
                x.corner(0, 1, 1, 10000);
                x.life(0, 4, 1);
                x.hull(0);
                due(laws[i], law(x, laws[i]), laws[i].replaceAll("[^;]", "").length() + 1);
                for (int j = 0; j < (together == 0 ? 1 : 8); j++) x.flown(0, 5, together == 0 ? 8 : 1);
                for (int what = 0; what < 3; what++) due(laws[i] + " what " + what, x.cornerIs(0, 0, what), due[i][what]);
                program(x, 0, "5*8");
                HullTank y = new HullTank();
                y.corner(0, 1, 1, due[i][1]);
                y.life(0, 4, 1);
                law(y, laws[i]);
                program(y, 0, "5*8");
                due(laws[i] + " runs", y.runs(0, 0, 0, 1), 8);
                due(laws[i] + " lost", y.odds(1, 5, 8, 8), 1);
                due(laws[i] + " not lost", y.odds(1, 5, 7, 8), 0);
            }
        }
    }

    private static void pressures() {
        sentence = "PULL by a PRESSURE (0 to 99)";
        HullTank x = single();
        x.life(0, 1, 1);
        law(x, "qp(1=1);d1(p=99)");
        due("pull 0", x.pull(0, 0, 0), 0);
        due("pull 99", x.pull(0, 99, 0), 99);
        due("odds 0", x.odds(0, 0, 1, 8), 0);
        due("odds 99", x.odds(0, 99, 1, 8), 1);
        due("left 0", x.left(0, 0, 1, 0), 0);
        due("left 99", x.left(0, 99, 1, 0), 1);
        due("likely 0", x.likely(1, 0, 0, 1), -2);
        due("likely 99", x.likely(1, 0, 99, 1), 1);
        due("off 0", x.off(1, 0, 0), -100000);
        due("off 99", x.off(1, 0, 99), 0);
        due("trial 0", x.trial(1, 0, 0, 1, 1), 0);
        due("trial 99", x.trial(1, 0, 99, 1, 1), 1);
        due("says 0", x.says(0, 0), 0);
        due("says 99", x.says(1, 0), 1);
        due("fly 0", x.fly(0, 0, 9, 1000, 1), 9);
        due("fly 99", x.fly(0, 99, 9, 1000, 1), 0);
        program(x, 0, "0");
        due("program 0", x.runs(0, 0, 0, 1), 0);
        program(x, 0, "99");
        due("program 99", x.runs(0, 0, 0, 1), 1);
        x.hull(0);
        due("flown 0", x.flown(0, 0, 1), 1);
        due("still flies", x.hullIs(0, 1), -1);
        due("flown 99", x.flown(0, 99, 1), 1);
        due("lost", x.hullIs(0, 1), 0);
    }

    private static void stories() {
        sentence = "STORIES 0 to 5: a PRIOR (1 to 100)";
        HullTank x = new HullTank();
        due("1", x.story(1), 0);
        due("100", x.story(100), 1);
        due("weighs", x.weighs(0), 1);
        due("weighs", x.weighs(1), 100);
        due("together", x.weighs(-1), 101);
        due("2 of 2", x.weighs(2), -1);
        for (int s = 2; s < 6; s++) due("story " + s, x.story(50), s);
        due("the last", x.weighs(5), 50);
        due("a seventh", x.story(50), -1);
        due("together", x.weighs(-1), 301);
        sentence = "FINDS 0 to 9: in how many of ten (0 to 10; 5 at first)";
        for (int f = 0; f < 10; f++) due("find " + f, x.find(), f);
        due("an eleventh", x.find(), -1);
        due("not known at first", x.weighs(1), 100);
        due("seen", one(x.seen(9, 1)), 1);
        due("5 at first", x.weighs(1), 500);
        due("0", one(x.tells(9, 1, 0)), 1);
        due("0 of ten", x.weighs(1), 0);
        due("not seen", one(x.seen(9, 0)), 1);
        due("10 of ten", x.weighs(1), 1000);
        due("10", one(x.tells(9, 1, 10)), 1);
        due("0 of ten", x.weighs(1), 0);
        due("seen", one(x.seen(9, 1)), 1);
        due("10 of ten", x.weighs(1), 1000);
        due("of another story 5", x.weighs(5), 250);
        due("not known", one(x.seen(9, -1)), 1);
        due("as at first", x.weighs(1), 100);
        due("the last of both", one(x.tells(9, 5, 1)), 1);
        x.seen(9, 1);
        due("1 of ten", x.weighs(5), 50);
        x.seen(9, 0);
        due("9 of ten", x.weighs(5), 450);
        sentence = "MOVES: were it SEEN, the greatest, and, were it not";
        HullTank u = new HullTank();
        u.story(1);
        u.find();
        u.find();
        u.tells(1, 0, 0);
        due("5 and 5, 0 and 10: alike", u.moves(), 0);
        u.tells(1, 0, 10);
        due("5 and 5, 10 and 0: alike", u.moves(), 0);
        sentence = "a STORY that comes behind a FIND: 5 at first";
        HullTank y = new HullTank();
        y.find();
        y.seen(0, 1);
        due("no story", y.weighs(-1), 0);
        y.story(4);
        due("5 of ten", y.weighs(0), 20);
        sentence = "MOVES most";
        HullTank z = new HullTank();
        due("no find, no story", z.moves(), -1);
        z.story(1);
        due("no find", z.moves(), -1);
        for (int f = 0; f < 10; f++) z.find();
        due("of like ones the lowest", z.moves(), 0);
        for (int f = 0; f < 10; f++) {
            due("not known from " + f, z.moves(), f);
            z.seen(f, f % 2);
        }
        due("none is not known", z.moves(), -1);
        z.seen(9, -1);
        due("the last", z.moves(), 9);
        HullTank v = new HullTank();
        v.find();
        due("a find, no story", v.moves(), -1);
        HullTank w = new HullTank();
        w.story(100);
        w.story(100);
        for (int f = 0; f < 10; f++) { w.find(); w.tells(f, 0, 10); w.tells(f, 1, 10); if (f < 9) w.seen(f, 1); }
        due("the greatest there can be", w.moves(), 9);
        w.seen(0, 0);
        due("all is 0: the lowest not known", w.moves(), 9);
    }

    private static void bed() {
        sentence = "at SECOND T (0 to 9999)";
        HullTank x = new HullTank();
        x.lies(0, 0);
        x.lies(9999, 0);
        x.lies(10000, 0);
        x.lies(1, 1);
        x.lies(100000, 1000);
        due("0", x.span(0, 0), 0);
        due("0", x.span(0, 1), 0);
        due("9999", x.span(1, 0), 9999);
        due("10000", x.span(2, 0), -2);
        due("10000", x.span(2, 1), -2);
        x.wind(1, 1, 1);
        due("1 less 1", x.span(3, 0), 0);
        x.wind(1, 2, 2);
        due("1 less 2", x.span(3, 0), -2);
        due("no T of it", x.order(3, 3), 4);
        sentence = "SPEED (1 to 50), WIND (-20 to 20), place (0 to 100000), FALL (0 to 1000)";
        due("50, 20 and 20", one(x.wind(50, 20, 20)), 1);
        due("100000 less 20000, by 50", x.span(4, 0), 1600);
        due("50, -20 and -20", one(x.wind(50, -20, -20)), 1);
        due("100000 and 20000, by 50", x.span(4, 1), 2400);
        due("50, -20 and 20", one(x.wind(50, -20, 20)), 1);
        due("first", x.span(4, 0), 1600);
        due("last", x.span(4, 1), 2400);
        due("12", one(x.wind(12, -20, 20)), 1);
        due("9999 would be 119988: the last of 12 is 117000", x.span(4, 1), 9750);
        due("1", one(x.wind(1, -20, 20)), 1);
        due("far out of time", x.span(4, 0), -2);
        due("10", one(x.wind(10, 0, 1)), 1);
        due("10000 by no wind, 9900 by wind 1", x.span(4, 1), 9900);
        due("9900 alone", x.span(4, 0), 9900);
        sentence = "SPEED 1, WIND 0 to 0 at first";
        HullTank v = new HullTank();
        v.lies(9998, 1000);
        due("first", v.span(0, 0), 9998);
        due("last", v.span(0, 1), 9998);
        sentence = "all whole T for which some whole WIND fits";
        HullTank y = new HullTank();
        y.wind(7, -20, 20);
        y.lies(3, 1);
        // 3 - wind is a multiple of 7, not below 0: winds -18, -11, -4, 3.
        due("first", y.span(0, 0), 0);
        due("last", y.span(0, 1), 3);
        y.wind(7, -17, 2);
        due("first", y.span(0, 0), 1);
        due("last", y.span(0, 1), 2);
        y.wind(7, -3, 2);
        due("none", y.span(0, 0), -2);
        due("none", y.span(0, 1), -2);
        sentence = "OF TWO: with one and the same WIND";
        HullTank z = new HullTank();
        z.lies(50, 10);
        z.lies(60, 10);
        z.lies(50, 0);
        z.lies(40, 5);
        z.lies(5, 100);
        z.wind(5, -3, 3);
        due("ahead for sure", z.order(0, 1), 0);
        due("behind for sure", z.order(1, 0), 1);
        due("not sure", z.order(0, 2), 3);
        z.wind(5, 0, 0);
        due("at one second for sure", z.order(0, 2), 2);
        due("and the other way", z.order(2, 0), 2);
        z.wind(5, 0, 3);
        due("at one second or ahead: not sure", z.order(0, 2), 3);
        z.wind(5, 1, 3);
        due("ahead", z.order(0, 2), 0);
        due("behind", z.order(2, 0), 1);
        z.wind(5, -3, -1);
        due("behind", z.order(0, 2), 1);
        due("40 and 5: ahead by -1", z.order(3, 0), 0);
        z.wind(5, 1, 3);
        due("none fits both", z.order(4, 0), 4);
        due("none fits both", z.order(0, 4), 4);
        z.wind(5, 0, 3);
        due("wind 0 alone fits both", z.order(4, 0), 0);
        due("itself", z.order(4, 4), 2);
        sentence = "OF TWO at SECOND 0";
        HullTank t = new HullTank();
        t.lies(0, 0);
        t.lies(1, 0);
        t.lies(0, 7);
        due("0 and 1", t.order(0, 1), 0);
        due("1 and 0", t.order(1, 0), 1);
        due("0 and 0", t.order(0, 2), 2);
        t.wind(1, 0, 1);
        due("wind 1 does not fit one of them", t.order(0, 2), 2);
        due("at 0 by wind 0", t.order(2, 1), 0);
        t.wind(1, -1, 1);
        due("0 and 0, or 0 and 7", t.order(0, 2), 3);
        sentence = "PIECES 0 to 9";
        HullTank w = new HullTank();
        for (int i = 0; i < 10; i++) due("piece " + i, w.lies(i, i), i);
        due("an eleventh", w.lies(0, 0), -1);
        due("the last", w.span(9, 0), 9);
        due("10", w.span(10, 0), -1);
        due("the last", w.order(8, 9), 0);
        due("10", w.order(9, 10), -1);
    }

    private static void nets() {
        sentence = "CELLS 0 to 39; weights (0 to 100; 0 at first)";
        HullTank x = new HullTank();
        for (int s = 0; s < 6; s++) x.story(1);
        due("0 at first", x.nets(4, 10, -1), 0);
        due("cell 0", one(x.cell(0, 0, 1)), 1);
        due("cell 39", one(x.cell(5, 39, 100)), 1);
        due("worth", x.nets(1, 1, -1), 100);
        due("there", x.nets(1, 1, 0), 39);
        due("both", x.nets(2, 1, -1), 101);
        due("first", x.nets(2, 1, 0), 0);
        due("second", x.nets(2, 1, 1), 39);
        due("none on the other", x.nets(2, 10, 0), 0);
        due("none on the other", x.nets(2, 10, 1), 30);
        due("0 again", one(x.cell(5, 39, 0)), 1);
        due("worth", x.nets(2, 1, -1), 1);
        due("of like ones the least row", x.nets(2, 1, 1), 1);
        sentence = "of k rows (1 to 4) of w CELLS each (1 to 10)";
        HullTank y = new HullTank();
        y.story(1);
        for (int i = 0; i < 40; i++) y.cell(0, i, i + 1);
        for (int k = 1; k <= 4; k++) {
            for (int w = 1; w <= 10; w++) {
                int from = 40 - k * w;
                int worth = 0;
                for (int i = from; i < 40; i++) worth += i + 1;
                due("the last " + k + " of " + w, y.nets(k, w, -1), worth);
                for (int what = 0; what < k; what++) due("its rows", y.nets(k, w, what), from + what * w);
                due("none more", y.nets(k, w, k), -1);
            }
            due("w 11", y.nets(k, 11, -1), -1);
            due("w 0", y.nets(k, 0, -1), -1);
        }
        due("k 5", y.nets(5, 8, -1), -1);
        due("k 0", y.nets(0, 8, -1), -1);
        sentence = "none on another, of like ones the least row of first CELLS";
        HullTank z = new HullTank();
        z.story(1);
        due("nothing there", z.nets(3, 4, 0), 0);
        due("nothing there", z.nets(3, 4, 1), 4);
        due("nothing there", z.nets(3, 4, 2), 8);
        z.cell(0, 10, 5);
        due("one cell", z.nets(1, 4, 0), 7);
        due("one cell", z.nets(2, 4, 0), 0);
        due("one cell", z.nets(2, 4, 1), 7);
        due("one cell", z.nets(3, 4, 1), 4);
        due("one cell", z.nets(3, 4, 2), 8);
        z.cell(0, 13, 5);
        due("two cells in one net", z.nets(1, 4, 0), 10);
        due("two cells", z.nets(2, 4, 0), 0);
        due("two cells", z.nets(2, 4, 1), 10);
        due("two nets of 3", z.nets(2, 3, 0), 8);
        due("two nets of 3", z.nets(2, 3, 1), 11);
        z.cell(0, 14, 5);
        due("10 and 13 and 14", z.nets(2, 4, 0), 7);
        due("10 and 13 and 14", z.nets(2, 4, 1), 11);
        sentence = "WORTH: over STORIES, ODDS of it times that weight";
        HullTank v = new HullTank();
        for (int s = 0; s < 6; s++) { v.story(100); for (int c = 0; c < 40; c++) v.cell(s, c, 100); }
        for (int f = 0; f < 10; f++) { v.find(); for (int s = 0; s < 6; s++) v.tells(f, s, 10); v.seen(f, 1); }
        due("the greatest", v.nets(4, 10, -1), 40L * 6 * 100 * 1000000000000L);
        due("from 30", v.nets(4, 10, 3), 30);
        due("one cell", v.nets(1, 1, -1), 6L * 100 * 1000000000000L);
        v.seen(0, 0);
        due("nothing", v.nets(4, 10, -1), 0);
        HullTank w = new HullTank();
        due("no stories", w.nets(4, 10, -1), 0);
        due("no stories", w.nets(1, 1, 0), 0);
    }

    private static void fly() {
        sentence = "FLY: n from 0 to a greatest (0 to 200)";
        HullTank x = sure(201);
        due("0", x.fly(0, 0, 0, 1, 1), 0);
        due("1", x.fly(0, 0, 1, 1, 1), 1);
        due("199", x.fly(0, 0, 199, 1, 1), 199);
        due("200", x.fly(0, 0, 200, 1, 1), 200);
        due("201", x.fly(0, 0, 201, 1, 1), -1);
        HullTank y = sure(200);
        due("lost by the last: 1 or 1, the fewest", y.fly(0, 0, 200, 1, 1), 199);
        due("lost by the last: 2 or 1", y.fly(0, 0, 200, 2, 1), 199);
        due("lost by the last: 1 or 2", y.fly(0, 0, 200, 1, 2), 200);
        sentence = "COST (0 to 1000000), and for each FLIGHT not flown so much (0 to 1000)";
        HullTank z = sure(1);
        due("0 and 0: the fewest", z.fly(0, 0, 200, 0, 0), 0);
        due("0 and 1", z.fly(0, 0, 200, 0, 1), 200);
        due("1 and 0", z.fly(0, 0, 200, 1, 0), 0);
        due("200 and 1: alike, the fewest", z.fly(0, 0, 200, 200, 1), 0);
        due("199 and 1", z.fly(0, 0, 200, 199, 1), 200);
        due("200000 and 1000: alike", z.fly(0, 0, 200, 200000, 1000), 0);
        due("199999 and 1000", z.fly(0, 0, 200, 199999, 1000), 200);
        due("1000000 and 1000", z.fly(0, 0, 200, 1000000, 1000), 0);
        due("1000001", z.fly(0, 0, 200, 1000001, 1000), -1);
        due("1001", z.fly(0, 0, 200, 1000000, 1001), -1);
        sentence = "of those that are left behind a PROGRAM";
        HullTank v = new HullTank();
        v.corner(0, 1, 1, 1);
        v.life(0, 1, 5);
        v.life(0, 3, 1);
        v.life(0, 9, 1);
        law(v, "d1(1=1)");
        program(v, 0, "0");
        // Left are 1 that is lost by 2 more and 1 by 8 more; idle counts 2 a flight not flown.
        due("4 idle or 5 lost", v.fly(0, 0, 3, 5, 1), 1);
        due("4 idle or 4 lost: alike", v.fly(0, 0, 3, 4, 1), 1);
        due("4 idle or 3 lost", v.fly(0, 0, 3, 3, 1), 3);
        program(v, 0, "0*9");
        due("none is left", v.fly(0, 0, 3, 3, 1), -2);
        due("none is left, 0 flights", v.fly(0, 0, 0, 3, 1), -2);
        sentence = "2000 PULLS in all at most";
        HullTank w = sure(5000);
        program(w, 0, "0*1800");
        due("1800 and 200", w.fly(0, 0, 200, 1, 1), 200);
        program(w, 0, "0*1801");
        due("1801 and 199", w.fly(0, 0, 199, 1, 1), 199);
        due("1801 and 200", w.fly(0, 0, 200, 1, 1), -1);
        program(w, 0, "0*2000");
        due("2000 and 0", w.fly(0, 0, 0, 1, 1), 0);
        due("2000 and 1", w.fly(0, 0, 1, 1, 1), -1);
        sentence = "the greatest costs there can be";
        HullTank u = new HullTank();
        for (int c = 0; c < 8; c++) { u.corner(0, 1, 1, 1); for (int i = 0; i < 4; i++) u.life(c, c == 0 ? 1 + i : 5000, 5); }
        law(u, "d1(1=1)");
        // Each flight up to the fourth loses a quarter: 250000 against 1000 a flight; 200000 idle in all.
        due("idle all of them", u.fly(0, 0, 200, 1000000, 1000), 0);
        due("as dear: a quarter of 796000 for 199 flights", u.fly(0, 0, 200, 199999, 1000), 200);
    }

    private static void check() {
        sentence = "CHECK: threes of numbers: all, by numbers";
        HullTank x = new HullTank();
        for (int c = 0; c < 8; c++) { x.corner(0, 1, 1, 10000); x.life(c, 1000000, 1); }
        x.hull(0);
        law(x, "d1000*[c+1](1=1)");
        x.flown(0, 0, 7);
        int[] row = new int[25];
        for (int c = 0; c < 8; c++) { row[3 * c] = c; row[3 * c + 1] = 7000 * (c + 1); }
        due("right", checked(x, row, 8), -1);
        due("the tape is empty then", x.count(7), 0);
        for (int n = 0; n < 8; n++) due(n + " threes: some are lacking", checked(x, row, n), 3 * n);
        for (int i = 0; i < 24; i++) {
            row[i]++;
            due("number " + i + " is not so", checked(x, row, 8), i);
            row[i] -= 2;
            due("number " + i + " is not so", checked(x, row, 8), i);
            row[i]++;
        }
        row[23] = 9;
        due("the first one that is not so", checked(x, row, 7), 21);
        row[20] = 9;
        row[19] = 8;
        due("the first one that is not so", checked(x, row, 8), 19);
        sentence = "CHECK: more threes than CORNERS";
        HullTank y = new HullTank();
        y.corner(0, 1, 1, 1);
        y.hull(0);
        due("one", checked(y, new int[5], 1), -1);
        due("a second", checked(y, new int[] {0, 0, 0, 1, 0, 0, 0, 0, 0, 0}, 2), 3);
        y.feed(0, 0, 0, 0, 0);
        due("20 bytes: one three", y.check(0, 2), -2);
        due("the tape stays", y.count(7), 20);
        due("one", y.check(0, 1), -1);
        due("empty", y.count(7), 0);
        due("an empty tape", y.check(0, 1), -2);
        due("an empty tape, 0 threes: all are lacking", y.check(0, 0), 0);
        for (int i = 0; i < 10; i++) y.feed(0, 0, 0, 0, 0);
        due("17 threes of 200 bytes", y.check(0, 17), -2);
        due("the tape stays", y.count(7), 200);
        due("16 threes", y.check(0, 16), 3);
        due("empty", y.count(7), 0);
        sentence = "CHECK: four bytes each";
        int[] wrong = {1, 1 << 8, 1 << 16, 1 << 24, 1 << 31, -1, Integer.MAX_VALUE};
        for (int w : wrong) {
            due("a corner", checked(y, new int[] {w, 0, 0, 0, 0}, 1), 0);
            due("its wear", checked(y, new int[] {0, w, 0, 0, 0}, 1), 1);
            due("its crack", checked(y, new int[] {0, 0, w, 0, 0}, 1), 2);
            due("not asked", checked(y, new int[] {0, 0, 0, w, w}, 1), -1);
        }
    }

    private static int checked(HullTank x, int[] row, int n) {
        for (int i = 0; i + 5 <= row.length; i += 5) x.feed(row[i], row[i + 1], row[i + 2], row[i + 3], row[i + 4]);
        int told = x.check(0, n);
        due("the tape is empty then", x.count(7), 0);
        return told;
    }

    private static void counts() {
        sentence = "count: empty and full";
        HullTank x = fresh(), y = full(true);
        int[] most = {8, 10, 8, 6, 10, 10, 12, 40};
        for (int what = 0; what < 8; what++) {
            due("none of " + what, x.count(what), 0);
            due("all of " + what, y.count(what), most[what]);
        }
        for (int i = 0; i < 8; i++) {
            due("no such corner " + i, x.count(10 + i), -1);
            due("lives of " + i, y.count(10 + i), 4);
            due("program " + i, x.count(20 + i), 0);
            due("program " + i, y.count(20 + i), 8);
        }
        int[] none = {-1, 8, 9, 18, 19, 28, 29, 100, Integer.MAX_VALUE, Integer.MIN_VALUE};
        for (int what : none) {
            due("count(" + what + ")", x.count(what), -1);
            due("count(" + what + ")", y.count(what), -1);
        }
        sentence = "A new object: nothing of another's";
        HullTank z = fresh();
        due("nothing", one(Arrays.equals(view(x), view(z))), 1);
        full(true);
        due("nothing", one(Arrays.equals(view(fresh()), view(fresh()))), 1);
    }

    public static void main(String[] args) {
        refusedMakers();
        refusedFlights();
        refusedTapes();
        refusedStories();
        refusedQuestions();
        cornersAndLives();
        clauses();
        digitsOfNumbers();
        whatCanStand();
        depths();
        wraps();
        refusedSums();
        letters();
        programs();
        tape();
        hulls();
        odds();
        thousandths();
        askedBefore();
        manyPulls();
        pressures();
        stories();
        bed();
        nets();
        fly();
        check();
        counts();
        System.out.println(asked + " asked, " + wrong + " not as due");
        if (wrong > 0) System.exit(1);
    }
}
