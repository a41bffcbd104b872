/** For each promise: ordinary calls, the edges that the document names, and wrong ones; answers reckoned by hand. */
public final class PromisesTest {
    private static String promise = "";
    private static int asked;
    private static int wrong;

    private static void due(String what, long got, long want) {
        asked++;
        if (got != want) {
            wrong++;
            System.out.println(promise + ": " + what + " answered " + got + ", due is " + want);
        }
    }

    private static void yes(String what, boolean got) { due(what, got ? 1 : 0, 1); }

    private static void no(String what, boolean got) { due(what, got ? 1 : 0, 0); }

    /** Puts a text on an empty tape, blanks behind it. */
    private static int put(HullTank x, String text) {
        if (x.count(7) > 0) x.program(7, 1);
        Texts.feed(x, text);
        return text.length();
    }

    private static int law(HullTank x, String text) { int n = put(x, text); return x.law(n); }

    private static int program(HullTank x, int k, String text) { int n = put(x, text); return x.program(k, n); }

    private static String times(String part, int n) {
        StringBuilder s = new StringBuilder();
        for (int i = 0; i < n; i++) s.append(part);
        return s.toString();
    }

    /** One corner: kind 3, radius 7, thick 5, reach 4, of number 1 (there is one before it). */
    private static HullTank oneCorner() {
        HullTank x = new HullTank();
        x.corner(0, 1, 1, 1);
        x.corner(3, 7, 5, 4);
        return x;
    }

    /** Three corners with lives 3 or 6 (weights 1, 2), 6 or 3 (3, 1), none; wear 1 at each pull, cracks run at once. */
    private static HullTank threeCorners() {
        HullTank x = new HullTank();
        for (int i = 0; i < 3; i++) x.corner(0, 1, 1, 1);
        x.life(0, 3, 1);
        x.life(0, 6, 2);
        x.life(1, 6, 3);
        x.life(1, 3, 1);
        law(x, "d1(1=1)");
        return x;
    }

    private static void newObject() {
        promise = "1 a new object";
        HullTank x = new HullTank();
        for (int what = 0; what < 8; what++) due("count(" + what + ")", x.count(what), 0);
        for (int k = 0; k < 8; k++) due("count of program " + k, x.count(20 + k), 0);
        due("weighs(NONE)", x.weighs(-1), 0);
        due("says(0, 0)", x.says(0, 0), -1);
        x.lies(7, 1000);
        due("SPEED 1, WIND 0", x.span(0, 0), 7);
        due("SPEED 1, WIND 0", x.span(0, 1), 7);
        due("NONE", HullTank.NONE, -1);
    }

    private static void corner() {
        promise = "2 corner";
        HullTank x = new HullTank();
        due("kind -1", x.corner(-1, 1, 1, 1), -1);
        due("kind 4", x.corner(4, 1, 1, 1), -1);
        due("radius 0", x.corner(0, 0, 1, 1), -1);
        due("radius 51", x.corner(0, 51, 1, 1), -1);
        due("thick 0", x.corner(0, 1, 0, 1), -1);
        due("thick 51", x.corner(0, 1, 51, 1), -1);
        due("reach 0", x.corner(0, 1, 1, 0), -1);
        due("reach 10001", x.corner(0, 1, 1, 10001), -1);
        due("none was made", x.count(0), 0);
        due("greatest", x.corner(3, 50, 50, 10000), 0);
        for (int i = 1; i < 8; i++) due("corner " + i, x.corner(0, 1, 1, 1), i);
        due("a ninth", x.corner(0, 1, 1, 1), -1);
        HullTank y = oneCorner();
        y.hull(0);
        due("behind a hull", y.corner(0, 1, 1, 1), -1);
    }

    private static void life() {
        promise = "3 life";
        HullTank x = oneCorner();
        due("no such corner", x.life(2, 1, 1), -1);
        due("corner -1", x.life(-1, 1, 1), -1);
        due("life 0", x.life(0, 0, 1), -1);
        due("life 1000001", x.life(0, 1000001, 1), -1);
        due("weight 0", x.life(0, 1, 0), -1);
        due("weight 6", x.life(0, 1, 6), -1);
        due("none was made", x.count(10), 0);
        due("greatest", x.life(0, 1000000, 5), 0);
        due("of another corner", x.life(1, 1, 1), 0);
        for (int i = 1; i < 4; i++) due("life " + i, x.life(0, 1, 1), i);
        due("a fifth", x.life(0, 1, 1), -1);
        due("ways", x.odds(0, 0, 0, -1), 8);
        x.hull(0);
        due("behind a hull", x.life(1, 1, 1), -1);
    }

    private static void feed() {
        promise = "4 feed";
        HullTank x = oneCorner();
        due("the highest byte first", x.feed(0x64312831, 0x3D312900, 0, 0, -1), 20);
        due("d1(1=1)", x.law(7), 1);
        due("the tape is empty then", x.count(7), 0);
        for (int i = 1; i <= 10; i++) due("feed", x.feed(-1, -1, -1, -1, -1), 20 * i);
        due("more than 200", x.feed(0, 0, 0, 0, 0), -1);
        due("it stays", x.count(7), 200);
        due("a byte of 255 can't stand", x.law(1), -1000);
    }

    private static void law() {
        promise = "5 law";
        HullTank x = oneCorner();
        put(x, "d3(1=1)");
        due("n 0", x.law(0), -1);
        due("n 161", x.law(161), -1);
        due("n 21 of 20", x.law(21), -1);
        due("n -1", x.law(-1), -1);
        due("the tape stays", x.count(7), 20);
        due("a blank behind it", x.law(8), -1007);
        due("empty behind a fault", x.count(7), 0);
        due("d3", law(x, "d3(1=1)"), 1);
        due("worn", x.pull(1, 0, 1), 3);
        due("a fault", law(x, "d4(1=1);"), -1008);
        due("the one before stays", x.pull(1, 0, 1), 3);
        due("count stays", x.count(6), 1);
        due("in place of it", law(x, "d5(1=1);q1(1=1)"), 2);
        due("worn", x.pull(1, 0, 1), 5);
        String full = times("q1(1=1);", 11) + times("q1(1=1)", 1);
        due("twelve clauses", law(x, full), 12);
        due("a thirteenth", law(x, full + ";q"), -4096);
        due("what can't be one", law(x, full + ";x"), -1096);
        due("the end there", law(x, full + ";"), -1096);
        due("160 bytes", law(x, "q" + times("1+", 76) + "11(1=1)"), 1);
        put(x, "q" + times("1+", 76) + "111(1=1)");
        due("161 bytes", x.law(161), -1);
        due("the tape stays", x.count(7), 180);
        HullTank y = threeCorners();
        y.hull(1);
        law(y, "q3(1=1);d2(1=1)");
        y.flown(0, 7, 1);
        law(y, "q4(1=1);d1(1=1)");
        y.flown(0, 7, 1);
        due("the new one counts", y.cornerIs(0, 0, 0), 3);
        due("the new one counts", y.cornerIs(0, 0, 2), 4);
        due("the new one counts", y.odds(0, 7, 3, 8), 6);
        law(y, "d2(1=1)");
        due("the new one counts", y.odds(0, 7, 3, 8), 12);
    }

    private static void faults() {
        promise = "5 law's faults";
        HullTank x = oneCorner();
        String[] texts = {"p", "q", "q(", "q1", "q1)", "q1(", "q1()", "q1(1", "q1(1)", "q1(1=", "q1(1=)", "q1(1=1", "q1(1=1)x",
            "q1(1=1);", "q1+(1=1)", "q+1(1=1)", "q-1(1=1)", "q[1(1=1)", "q[](1=1)", "q1](1=1)", "qpp(1=1)", "q1p(1=1)", "qp1(1=1)",
            "q1(1=1&)", "q1(1=1||1=1)", "q1(!)", "q1(1!=1)", "q1(1<=1)", "q1(1=1=1)", "q1((1=1)", "q1((1)=1)", "q1([1]=1)2", "Q1(1=1)", "q1(1=1)q"};
        int[] places = {0, 1, 1, 2, 2, 3, 3, 4, 4, 5, 5, 6, 7,
            8, 3, 1, 1, 3, 2, 2, 2, 2, 2,
            7, 7, 4, 4, 5, 6, 8, 5, 9, 0, 7};
        for (int i = 0; i < texts.length; i++) due(texts[i], law(x, texts[i]), -1000 - places[i]);
        due("five digits", law(x, "q12345(99999=00000)"), 1);
        due("a sixth", law(x, "q123456(1=1)"), -2006);
        due("a sixth in C", law(x, "q1(123456=1)"), -2008);
        due("a sixth, not a digit", law(x, "q12345x(1=1)"), -1006);
        due("six in the sum", law(x, "q[[[[[[1]]]]]](1=1)"), 1);
        due("a seventh", law(x, "q[[[[[[[1"), -5007);
        due("six in the condition", law(x, "q1((((((1=1))))))"), 1);
        due("a seventh", law(x, "q1(((((((1"), -5008);
        due("( ! [ together", law(x, "q1(!(!![[1"), -5008);
        due("( ! [ together", law(x, "q1(!(![1]=[1]))"), 1);
        due("a ! ends with its piece", law(x, "q1(!1=1&!1=1&!1=1&!1=1&!1=1&!1=1&!1=1)"), 1);
        due("a ! is open in its sums", law(x, "q1(!1=[[[[[1"), -5010);
        due("ended ones don't count", law(x, "q[1]+[1]+[1]+[1]+[1]+[1]+[1]([1]=[1]|(1=1)|(1=1))"), 1);
        due("the first from the left", law(x, "q1(x;q1234567"), -1003);
    }

    private static void sums() {
        promise = "the law's sums";
        HullTank x = oneCorner();
        String[] sums = {"2+3*4", "20-5-4", "100/7/2", "100%7*3", "2*[3+4]", "9-[5-4]", "1-2", "p", "r", "t", "k", "c", "n", "q", "h", "l", "w",
            "p*100000", "99999", "7/0", "7%0", "0*[1/0]", "[0-7]/2+10", "[0-7]%4+10", "99999*99999", "99999*99999%1000", "50000*50000/99999+20000"};
        int[] due = {14, 11, 7, 6, 14, 8, 0, 9, 7, 5, 3, 1, 0, 0, 0, 0, 0,
            -1, 10000, 0, 0, 0, 7, 7, 10000, 409, 2051};
        for (int i = 0; i < sums.length; i++) {
            int clauses = law(x, "q" + sums[i] + "(1=1)");
            if (due[i] < 0) due(sums[i], clauses, -2008);
            else due(sums[i], x.pull(1, 9, 0), due[i]);
        }
        law(x, "q99999(1=1);d99999+99999(1=1)");
        due("q at most", x.pull(1, 9, 0), 10000);
        due("d at most", x.pull(1, 9, 1), 100000);
        law(x, "q11(1=1);dq*2(1=1)");
        due("q in d", x.pull(1, 9, 1), 22);
        law(x, "q77(q=0);d1(q=77)");
        due("q is 0 in q", x.pull(1, 9, 0), 77);
        due("q is reckoned in d", x.pull(1, 9, 1), 1);
        law(x, "g5(1=1)");
        due("none of this letter", x.pull(1, 9, 0), 0);
        due("none of this letter", x.pull(1, 9, 1), 0);
    }

    private static void conditions() {
        promise = "the law's conditions";
        HullTank x = oneCorner();
        String[] cs = {"1<2", "2<2", "3>2", "2>2", "2=2", "1=2", "!1=2", "!!1=2", "1=1|1=2", "1=2|1=2|1=1", "1=1&1=2", "1=1&1=1",
            "1=1|1=2&1=2", "(1=1|1=2)&1=2", "!1=1|1=1", "!(1=1|1=1)", "!1=2&1=2", "1/0=1", "!1/0=1", "1=1|1/0=1", "1/0=1|1=1", "1=2&1/0=1|1=1",
            "1=1&1/0=1|1=1", "1=2|1/0=1|1=1", "!(1=2&1/0=1)", "1=1|(1/0=1)", "(1/0=1|1=1)|1=1", "0-1<0", "99999*99999<0", "c=1&k=3&r=7&t=5&p=9", "1%0=0"};
        // Asked from the left and as far as it matters; what is refused lets the whole C not hold.
        String due = "101010101101" + "1010000101" + "001101010";
        for (int i = 0; i < cs.length; i++) {
            due(cs[i] + " read", law(x, "q1(" + cs[i] + ")"), 1);
            due(cs[i], x.pull(1, 9, 0), due.charAt(i) - '0');
        }
        law(x, "q5(p>5);d7(1=1);q6(p>3);q7(1/0=1);q8(1=1)");
        due("the first that holds", x.pull(1, 6, 0), 5);
        due("the first that holds", x.pull(1, 4, 0), 6);
        due("behind a refused one", x.pull(1, 3, 0), 8);
        law(x, "q1/0(1=1);q5(1=1)");
        due("a refused E is 0", x.pull(1, 3, 0), 0);
    }

    private static void program() {
        promise = "6 program";
        HullTank x = new HullTank();
        put(x, "8");
        due("k 8", x.program(8, 1), -1);
        due("k -1", x.program(-1, 1), -1);
        due("n 0", x.program(0, 0), -1);
        due("n 61", x.program(0, 61), -1);
        due("n 21 of 20", x.program(0, 21), -1);
        due("the tape stays", x.count(7), 20);
        due("one pull", x.program(7, 1), 1);
        due("empty then", x.count(7), 0);
        due("program 7", x.count(27), 1);
        String[] texts = {"08", "99*0001", "0;0;0", "5*2000", "5*1999;7", "1;2;3;4;5;6;7;8",
            "", "x", "5x", "5;", ";5", "5*", "5*x", "5**2", "5*2*2", "5*2;", "5 ",
            "123", "5;123", "5*12345", "5*00000",
            "5*0", "5*0000", "5*2001", "5*9999", "5*1999;7*2", "5*2000;7", "5*2000;77", "5*2000;7x", "5*2000;123", "5*0x", "5*2000;7*",
            "1;2;3;4;5;6;7;8;9", "1;2;3;4;5;6;7;8;123", "1;2;3;4;5;6;7;8*1993;9", "1;2;3;4;5;6;7;8;x", "1;2;3;4;5;6;7;8;"};
        int[] due = {1, 1, 3, 2000, 2000, 8,
            -1, -1000, -1001, -1002, -1000, -1002, -1002, -1002, -1003, -1004, -1001,
            -2002, -2004, -2006, -2006,
            -3002, -3002, -3002, -3002, -3009, -3007, -3007, -3007, -2009, -3002, -1009,
            -4016, -4016, -4021, -1016, -1016};
        for (int i = 0; i < texts.length; i++) due(texts[i], program(x, 0, texts[i]), due[i]);
        due("in place of it", program(x, 0, "3*4;5"), 5);
        due("a fault", program(x, 0, "3*x"), -1002);
        due("the one before stays", x.count(20), 5);
        due("60 bytes", program(x, 1, times("01*0001;", 7) + "01*1"), 8);
        put(x, times("01*0001;", 7) + "01*01");
        due("61 bytes", x.program(1, 61), -1);
        due("the tape stays", x.count(7), 80);
        HullTank y = threeCorners();
        program(y, 0, "1*2");
        program(y, 0, "1*3");
        due("the new one counts", y.runs(0, 0, 0, 1), 3);
    }

    private static void pull() {
        promise = "7 pull";
        HullTank x = oneCorner();
        due("no law", x.pull(0, 5, 0), 0);
        law(x, "qp*r+c+n+h(1=1);dq*2+w+l(1=1);g9(1=1)");
        due("pulled", x.pull(1, 99, 0), 694);
        due("worn", x.pull(1, 99, 1), 1388);
        due("pressure 0", x.pull(1, 0, 0), 1);
        due("no such corner", x.pull(2, 1, 0), -1);
        due("corner -1", x.pull(-1, 1, 0), -1);
        due("pressure 100", x.pull(0, 100, 0), -1);
        due("pressure -1", x.pull(0, -1, 0), -1);
        due("what 2", x.pull(0, 1, 2), -1);
        due("what -1", x.pull(0, 1, -1), -1);
        x.hull(0);
        x.flown(0, 9, 9);
        due("without pulls ahead", x.pull(1, 99, 0), 694);
    }

    private static void hull() {
        promise = "8 hull";
        HullTank x = new HullTank();
        due("no corners", x.hull(0), -1);
        x = threeCorners();
        due("a digit for no life", x.hull(1 << 4), -1);
        due("a digit for no corner", x.hull(1 << 6), -1);
        due("a third life", x.hull(2), -1);
        due("below 0", x.hull(-1), -1);
        due("beyond all corners", x.hull(1 << 16), -1);
        due("least", x.hull(Integer.MIN_VALUE), -1);
        due("lives 1 and 0", x.hull(1), 0);
        due("lives 0 and 1", x.hull(4), 1);
        x.flown(0, 1, 9);
        x.flown(1, 1, 9);
        due("6 and 6", x.hullIs(0, 0), 6);
        due("3 and 3", x.hullIs(1, 0), 3);
        for (int i = 2; i < 10; i++) due("hull " + i, x.hull(0), i);
        due("an eleventh", x.hull(0), -1);
        HullTank y = new HullTank();
        for (int i = 0; i < 8; i++) { y.corner(0, 1, 1, 1); for (int j = 0; j < 4; j++) y.life(i, 10 + j, 1); }
        due("all digits 3", y.hull(65535), 0);
        law(y, "d1(c=7)");
        due("the eighth corner's fourth life", y.flown(0, 0, 99), 13);
        due("by it", y.hullIs(0, 1), 7);
    }

    private static void flown() {
        promise = "9 flown";
        HullTank x = threeCorners();
        x.hull(1);
        due("no such hull", x.flown(1, 1, 1), -1);
        due("hull -1", x.flown(-1, 1, 1), -1);
        due("pressure 100", x.flown(0, 100, 1), -1);
        due("pressure -1", x.flown(0, -1, 1), -1);
        due("times 0", x.flown(0, 1, 0), -1);
        due("times 2001", x.flown(0, 1, 2001), -1);
        due("none of these", x.hullIs(0, 0), 0);
        due("all of them", x.flown(0, 99, 5), 5);
        due("lost by the first", x.flown(0, 0, 5), 1);
        due("lost", x.flown(0, 0, 1), -1);
        HullTank y = oneCorner();
        y.hull(0);
        for (int i = 0; i < 49; i++) y.flown(0, 1, 2000);
        due("up to 99999", y.flown(0, 1, 1999), 1999);
        due("more than 100000", y.flown(0, 1, 2), -1);
        due("it stays", y.hullIs(0, 0), 99999);
        due("100000", y.flown(0, 1, 1), 1);
        due("more than 100000", y.flown(0, 1, 1), -1);
    }

    private static void pulls() {
        promise = "9 flown: what a pull does";
        HullTank x = new HullTank();
        x.corner(0, 1, 1, 8);
        x.corner(1, 1, 1, 10000);
        x.life(0, 10, 1);
        x.life(1, 1000000, 1);
        law(x, "qp(1=1);d4(k=0);d99999+9(1=1);g3(h>8)");
        x.hull(0);
        x.flown(0, 5, 2);
        due("wear", x.cornerIs(0, 0, 0), 8);
        due("no crack", x.cornerIs(0, 0, 1), 0);
        x.flown(0, 4, 1);
        due("wear beyond the life", x.cornerIs(0, 0, 0), 12);
        due("a crack of 1", x.cornerIs(0, 0, 1), 1);
        due("the most", x.cornerIs(0, 0, 2), 5);
        x.flown(0, 9, 1);
        due("h ahead of now is 5", x.cornerIs(0, 0, 1), 1);
        x.flown(0, 1, 1);
        due("h is 9 now", x.cornerIs(0, 0, 1), 4);
        due("no wear with a crack", x.cornerIs(0, 0, 0), 12);
        due("length 7", x.flown(0, 1, 1), 1);
        due("it runs at 10", x.flown(0, 50, 7), 1);
        due("length as it ran", x.cornerIs(0, 0, 1), 10);
        due("the most as it ran", x.cornerIs(0, 0, 2), 50);
        due("lost by 0", x.hullIs(0, 1), 0);
        due("the other is pulled too", x.cornerIs(0, 1, 2), 50);
        HullTank y = new HullTank();
        y.corner(0, 1, 1, 2);
        y.life(0, 1000000, 1);
        law(y, "d99999+1(1=1)");
        y.hull(0);
        due("flown", y.flown(0, 1, 9), 9);
        due("ahead of it", y.cornerIs(0, 0, 1), 0);
        y.flown(0, 1, 5);
        due("1000000 is enough", y.cornerIs(0, 0, 1), 1);
        HullTank z = new HullTank();
        z.corner(0, 1, 1, 2);
        z.life(0, 1000000, 1);
        law(z, "d99998(1=1)");
        z.hull(0);
        z.flown(0, 1, 10);
        due("999980", z.cornerIs(0, 0, 0), 999980);
        z.flown(0, 1, 1);
        due("1000000 at most", z.cornerIs(0, 0, 0), 1000000);
        law(z, "gn(1=1);d5(1=1)");
        z.flown(0, 1, 1);
        due("a law may change", z.cornerIs(0, 0, 1), 12);
        due("n is what there was ahead", z.hullIs(0, 0), 12);
    }

    private static void hullIs() {
        promise = "10 hullIs";
        HullTank x = threeCorners();
        x.hull(4);
        x.hull(1);
        due("pulls", x.hullIs(0, 0), 0);
        due("not lost", x.hullIs(0, 1), -1);
        x.flown(0, 0, 9);
        due("pulls", x.hullIs(0, 0), 3);
        due("of several the lowest", x.hullIs(0, 1), 0);
        due("the other hull flies", x.hullIs(1, 0), 0);
        due("what 2", x.hullIs(0, 2), -1);
        due("what -1", x.hullIs(0, -1), -1);
        due("no such hull", x.hullIs(2, 0), -1);
        due("hull -1", x.hullIs(-1, 0), -1);
        law(x, "d1(c=1)");
        x.flown(1, 0, 9);
        due("by corner 1", x.hullIs(1, 1), 1);
    }

    private static void cornerIs() {
        promise = "11 cornerIs";
        HullTank x = threeCorners();
        law(x, "q2+c(1=1);d1(1=1)");
        x.hull(1);
        x.flown(0, 0, 4);
        due("wear", x.cornerIs(0, 0, 0), 4);
        due("crack", x.cornerIs(0, 0, 1), 0);
        due("most", x.cornerIs(0, 1, 2), 3);
        for (int what = 0; what < 3; what++) due("nothing happens to it", x.cornerIs(0, 2, what), 0);
        due("what 3", x.cornerIs(0, 0, 3), -1);
        due("what -1", x.cornerIs(0, 0, -1), -1);
        due("no such corner", x.cornerIs(0, 3, 0), -1);
        due("corner -1", x.cornerIs(0, -1, 0), -1);
        due("no such hull", x.cornerIs(1, 0, 0), -1);
        due("hull -1", x.cornerIs(-1, 0, 0), -1);
    }

    private static void runs() {
        promise = "12 runs";
        HullTank x = new HullTank();
        x.corner(0, 1, 1, 3);
        x.corner(0, 1, 1, 1);
        x.life(0, 4, 1);
        x.life(0, 1, 1);
        law(x, "dp(1=1);g1(1=1)");
        due("no pulls", x.runs(0, 0, 0, 0), 0);
        program(x, 3, "1*2;0*2;2;0*2");
        due("crack", x.runs(3, 0, 0, 0), 5);
        due("runs", x.runs(3, 0, 0, 1), 7);
        due("crack", x.runs(3, 0, 1, 0), 1);
        due("runs", x.runs(3, 0, 1, 1), 3);
        program(x, 3, "1*2;0*2;2;0");
        due("by none", x.runs(3, 0, 0, 1), 0);
        due("no such life", x.runs(3, 0, 2, 0), -1);
        due("life -1", x.runs(3, 0, -1, 0), -1);
        due("a corner without lives", x.runs(3, 1, 0, 0), -1);
        due("no such corner", x.runs(3, 2, 0, 0), -1);
        due("program 8", x.runs(8, 0, 0, 0), -1);
        due("program -1", x.runs(-1, 0, 0, 0), -1);
        due("what 2", x.runs(3, 0, 0, 2), -1);
        due("what -1", x.runs(3, 0, 0, -1), -1);
    }

    private static void odds() {
        promise = "13 odds";
        HullTank x = threeCorners();
        // Corner 0 runs by 3 (1) or 6 (2), corner 1 by 6 (3) or 3 (1): 12 ways.
        due("all", x.odds(0, 0, 0, -1), 12);
        due("lost by 2", x.odds(0, 0, 2, 8), 0);
        due("lost by 3", x.odds(0, 0, 3, 8), 6);
        due("first 0 by 3", x.odds(0, 0, 3, 0), 4);
        due("first 1 by 3", x.odds(0, 0, 3, 1), 2);
        due("lost by 6", x.odds(0, 0, 6, 8), 12);
        due("first 0 by 6", x.odds(0, 0, 6, 0), 10);
        due("first 1 by 6", x.odds(0, 0, 6, 1), 2);
        due("first 2", x.odds(0, 0, 6, 2), 0);
        due("no such corner", x.odds(0, 0, 6, 3), -1);
        due("what 9", x.odds(0, 0, 6, 9), -1);
        due("what -2", x.odds(0, 0, 6, -2), -1);
        program(x, 1, "9*2");
        due("behind a program", x.odds(1, 0, 1, 8), 6);
        due("with it alone", x.odds(1, 0, 0, 8), 0);
        due("2000 together", x.odds(1, 0, 1998, 8), 12);
        due("2001 together", x.odds(1, 0, 1999, 8), -1);
        due("n 2001", x.odds(0, 0, 2001, -1), -1);
        due("n -1", x.odds(0, 0, -1, -1), -1);
        due("pressure 100", x.odds(0, 100, 0, -1), -1);
        due("pressure -1", x.odds(0, -1, 0, -1), -1);
        due("program 8", x.odds(8, 0, 0, -1), -1);
        due("program -1", x.odds(-1, 0, 0, -1), -1);
        law(x, "dp(n<2);d5(1=1)");
        due("n counts the program's pulls", x.odds(1, 0, 0, 8), 12);
        due("n counts the program's pulls", x.odds(0, 1, 2, 8), 0);
        HullTank y = new HullTank();
        due("no corners", y.odds(0, 0, 0, -1), 1);
        due("no corners", y.odds(0, 0, 0, 8), 0);
        for (int i = 0; i < 8; i++) { y.corner(0, 1, 1, 1); for (int j = 0; j < 4; j++) y.life(i, 1 + j, 5); }
        due("all ways of eight", y.odds(0, 0, 0, -1), 25600000000L);
        law(y, "d1(1=1)");
        due("lost by 1", y.odds(0, 0, 1, 8), 25600000000L - 2562890625L);
        due("first 7 by 1", y.odds(0, 0, 1, 7), 5L * 15 * 15 * 15 * 15 * 15 * 15 * 15);
    }

    private static void left() {
        promise = "14 left";
        HullTank x = threeCorners();
        due("above", x.left(0, 0, 3, 0), 1);
        due("below", x.left(0, 0, 3, 1), 2);
        due("nothing above", x.left(0, 0, 2, 0), 0);
        due("nothing above", x.left(0, 0, 2, 1), 1);
        x.life(0, 9, 4);
        // Now 28 ways; by 3 those with 3: 4 + 6 = 10; 18 left, of them 18 by 6.
        program(x, 2, "0*3");
        due("of those left", x.left(2, 0, 3, 0), 1);
        x.life(1, 9, 2);
        // 7 times 6 ways; not lost by 3: 6 times 5; not by 6: 4 times 2.
        due("of those left", x.left(2, 0, 3, 0), 11);
        due("of those left", x.left(2, 0, 3, 1), 15);
        program(x, 2, "0*9");
        due("none is left", x.left(2, 0, 0, 0), -2);
        due("none is left, what 2", x.left(2, 0, 0, 2), -1);
        due("what -1", x.left(0, 0, 0, -1), -1);
        due("2000 together", x.left(2, 0, 1991, 0), -2);
        due("2001 together", x.left(2, 0, 1992, 0), -1);
        due("n -1", x.left(0, 0, -1, 0), -1);
        due("pressure 100", x.left(0, 100, 0, 0), -1);
        due("program 8", x.left(8, 0, 0, 0), -1);
    }

    private static void likely() {
        promise = "15 likely";
        HullTank x = threeCorners();
        due("half of all", x.likely(7, 0, 0, 500), 3);
        due("more than half", x.likely(7, 0, 0, 501), 6);
        due("all", x.likely(7, 0, 0, 1000), 6);
        due("corner 0 alone", x.likely(1, 0, 0, 333), 3);
        due("a third is more than 333", x.likely(1, 0, 0, 334), 6);
        due("corner 1 alone", x.likely(2, 0, 0, 250), 3);
        due("corner 1 alone", x.likely(2, 0, 0, 251), 6);
        due("without lives", x.likely(4, 0, 0, 1), -2);
        program(x, 0, "0*3");
        due("behind the program", x.likely(7, 0, 0, 1000), 3);
        due("of those not lost by it", x.likely(1, 0, 0, 1), 3);
        program(x, 0, "0*6");
        due("none is left", x.likely(7, 0, 0, 1), -2);
        law(x, "dp(1=1)");
        due("2000 do not do", x.likely(7, 1, 0, 1), -2);
        due("set of none", x.likely(0, 0, 0, 1), -1);
        due("no such corner", x.likely(8, 0, 0, 1), -1);
        due("below 0", x.likely(-1, 0, 0, 1), -1);
        due("none is left, 0 thousandths", x.likely(7, 0, 0, 0), -1);
        due("1001 thousandths", x.likely(7, 0, 0, 1001), -1);
        due("pressure 100", x.likely(7, 0, 100, 1), -1);
        due("program 8", x.likely(7, 8, 0, 1), -1);
        HullTank y = new HullTank();
        y.corner(0, 1, 1, 1);
        y.life(0, 2000, 1);
        law(y, "d1(1=1)");
        due("2000", y.likely(1, 0, 0, 1), 2000);
        program(y, 0, "1");
        due("2000 in all", y.likely(1, 0, 0, 1), 1999);
        y.life(0, 2001, 1);
        due("half do", y.likely(1, 0, 0, 500), 1999);
        due("2001 would do", y.likely(1, 0, 0, 501), -2);
        program(y, 0, "1*2000");
        due("no flights behind it", y.likely(1, 0, 0, 1000), -2);
        HullTank z = new HullTank();
        z.corner(0, 1, 1, 1);
        z.life(0, 1, 2);
        z.life(0, 2, 1);
        law(z, "d1(1=1)");
        due("two thirds are more than 666", z.likely(1, 0, 0, 666), 1);
        due("but below 667", z.likely(1, 0, 0, 667), 2);
    }

    private static void off() {
        promise = "16 off";
        HullTank x = threeCorners();
        law(x, "dp(1=1)");
        due("corner 0", x.off(1, 0, 1), 3);
        due("all", x.off(7, 0, 1), 0);
        program(x, 0, "3");
        due("behind it", x.off(1, 0, 1), 0);
        due("likely there", x.likely(1, 0, 1, 500), 3);
        program(x, 0, "5");
        due("less", x.off(1, 0, 1), -2);
        due("the piece has none", x.off(4, 0, 1), -100000);
        due("the hull has none", x.off(1, 0, 0), -100000);
        due("no such piece", x.off(8, 0, 1), -100000);
        due("an empty piece", x.off(0, 0, 1), -100000);
        due("program 8", x.off(1, 8, 1), -100000);
        due("program -1", x.off(1, -1, 1), -100000);
        due("pressure 100", x.off(1, 0, 100), -100000);
        due("pressure -1", x.off(1, 0, -1), -100000);
        due("no corners", new HullTank().off(1, 0, 0), -100000);
    }

    private static void trial() {
        promise = "17 trial";
        HullTank x = threeCorners();
        due("an empty piece", x.trial(0, 0, 0, 1, 1), -1);
        due("no such piece", x.trial(8, 0, 0, 1, 1), -1);
        due("program 8", x.trial(1, 8, 0, 1, 1), -1);
        due("pressure 100", x.trial(1, 0, 100, 1, 1), -1);
        due("n -1", x.trial(1, 0, 0, -1, 1), -1);
        due("n 2001", x.trial(1, 0, 0, 2001, 1), -1);
        due("cost 0", x.trial(1, 0, 0, 1, 0), -1);
        due("cost 10001", x.trial(1, 0, 0, 1, 10001), -1);
        program(x, 0, "5*3");
        due("2001 in all", x.trial(1, 0, 0, 1998, 1), -1);
        due("none was made", x.count(2), 0);
        due("2000 in all", x.trial(1, 0, 0, 1997, 10000), 0);
        due("three", x.trial(1, 0, 0, 0, 1), 1);
        due("says", x.says(1, 1), 3);
        program(x, 0, "5*6");
        due("it keeps that", x.says(1, 1), 3);
        law(x, "d2(1=1)");
        due("but not the law", x.says(1, 1), 1);
        for (int i = 2; i < 8; i++) due("trial " + i, x.trial(7, 0, 0, 0, 1), i);
        due("a ninth", x.trial(7, 0, 0, 0, 1), -1);
    }

    private static void says() {
        promise = "18 says";
        HullTank x = threeCorners();
        program(x, 0, "5*2");
        x.trial(1, 0, 7, 1, 1);
        x.trial(7, 0, 7, 1, 1);
        x.trial(7, 0, 7, 4, 1);
        x.trial(4, 0, 7, 4, 1);
        x.trial(7, 0, 7, 0, 1);
        long[][] due = {{1, 3}, {1, 2}, {1, 1}, {0, 1}, {0, 1}};
        for (int i = 0; i < 5; i++) {
            due("above", x.says(i, 0), due[i][0]);
            due("below", x.says(i, 1), due[i][1]);
        }
        due("no such one", x.says(5, 0), -1);
        due("-1", x.says(-1, 0), -1);
        due("what 2", x.says(0, 2), -1);
        due("what -1", x.says(0, -1), -1);
        HullTank y = threeCorners();
        int[] lostBy = {0, 0, 0, 6, 6, 6, 12, 12, 12};
        int[] off = {-100000, -100000, -100000, -2, -1, 0, -2, -1};
        for (int i = 0; i < 8; i++) {
            program(y, i, "5*" + (i + 1));
            y.trial(7, i, 0, 0, 1);
        }
        for (int i = 0; i < 8; i++) program(y, i, "5*" + (8 - i));
        for (int i = 0; i < 8; i++) {
            for (int k = 0; k < 8; k++) {
                due("program " + k + " now", y.odds(k, 0, 0, 8), lostBy[8 - k]);
                due("trial " + i + ", by the program then", 12 * y.says(i, 0) / y.says(i, 1), lostBy[i + 1]);
                due("without a program", y.off(7, k, 0), off[k]);
            }
        }
        x.life(0, 3, 2);
        due("lives as they are now", x.says(0, 0), 3);
        due("lives as they are now", x.says(0, 1), 5);
    }

    private static void cheapest() {
        promise = "19 cheapest";
        HullTank x = threeCorners();
        due("there is none", x.cheapest(1), -1);
        x.trial(4, 0, 0, 9, 1);
        due("it says nothing", x.cheapest(1), -1);
        x.trial(7, 0, 0, 6, 9);
        x.trial(7, 0, 0, 3, 5);
        x.trial(7, 0, 0, 3, 5);
        x.trial(1, 0, 0, 3, 4);
        due("a third", x.cheapest(333), 4);
        due("more than a third, of like ones the lowest", x.cheapest(334), 2);
        due("half", x.cheapest(500), 2);
        due("more than half", x.cheapest(501), 1);
        due("all", x.cheapest(1000), 1);
        law(x, "d1(c=0)");
        x.trial(1, 0, 0, 5, 1);
        x.life(0, 4, 1);
        due("two of four", x.cheapest(500), 5);
        x.life(0, 4, 2);
        due("four of six by 5", x.says(5, 0), 2);
        due("not below 666", x.cheapest(666), 5);
        due("but below 667", x.cheapest(667), 1);
        due("0", x.cheapest(0), -1);
        due("1001", x.cheapest(1001), -1);
    }

    private static void story() {
        promise = "20 story";
        HullTank x = new HullTank();
        due("prior 0", x.story(0), -1);
        due("prior 101", x.story(101), -1);
        due("none was made", x.count(3), 0);
        for (int i = 0; i < 6; i++) due("story " + i, x.story(i == 0 ? 100 : i), i);
        due("a seventh", x.story(1), -1);
        due("weighs", x.weighs(0), 100);
    }

    private static void find() {
        promise = "21 find";
        HullTank x = new HullTank();
        x.story(1);
        for (int i = 0; i < 10; i++) due("find " + i, x.find(), i);
        due("an eleventh", x.find(), -1);
        due("not known at first", x.weighs(0), 1);
        x.seen(9, 1);
        due("five of ten at first", x.weighs(0), 5);
        x.seen(9, 0);
        due("five of ten at first", x.weighs(0), 5);
    }

    private static void tells() {
        promise = "22 tells";
        HullTank x = new HullTank();
        no("no such find", x.tells(0, 0, 5));
        x.find();
        no("no such story", x.tells(0, 0, 5));
        x.story(7);
        x.story(8);
        no("find 1", x.tells(1, 0, 5));
        no("find -1", x.tells(-1, 0, 5));
        no("story 2", x.tells(0, 2, 5));
        no("story -1", x.tells(0, -1, 5));
        no("11 of ten", x.tells(0, 0, 11));
        no("-1 of ten", x.tells(0, 0, -1));
        x.seen(0, 1);
        due("they change nothing", x.weighs(-1), 75);
        yes("10 of ten", x.tells(0, 0, 10));
        yes("0 of ten", x.tells(0, 1, 0));
        due("seen", x.weighs(0), 70);
        due("seen", x.weighs(1), 0);
        x.seen(0, 0);
        due("not seen", x.weighs(0), 0);
        due("not seen", x.weighs(1), 80);
    }

    private static void seen() {
        promise = "23 seen";
        HullTank x = new HullTank();
        no("no such find", x.seen(0, 1));
        x.story(3);
        x.find();
        x.tells(0, 0, 2);
        no("2", x.seen(0, 2));
        no("-2", x.seen(0, -2));
        no("find 1", x.seen(1, 1));
        no("find -1", x.seen(-1, 1));
        due("not known", x.weighs(0), 3);
        yes("seen", x.seen(0, 1));
        due("seen", x.weighs(0), 6);
        yes("not", x.seen(0, 0));
        due("not", x.weighs(0), 24);
        yes("not known", x.seen(0, -1));
        due("not known", x.weighs(0), 3);
    }

    private static void weighs() {
        promise = "24 weighs";
        HullTank x = new HullTank();
        due("no story", x.weighs(0), -1);
        for (int s = 0; s < 6; s++) x.story(100);
        for (int f = 0; f < 10; f++) {
            x.find();
            for (int s = 0; s < 6; s++) x.tells(f, s, 10);
            x.seen(f, 1);
        }
        due("the greatest", x.weighs(5), 1000000000000L);
        due("together", x.weighs(-1), 6000000000000L);
        due("no such one", x.weighs(6), -1);
        due("-2", x.weighs(-2), -1);
        x.seen(3, 0);
        due("nothing", x.weighs(-1), 0);
    }

    private static void moves() {
        promise = "25 moves";
        HullTank x = new HullTank();
        due("none", x.moves(), -1);
        x.find();
        due("no story", x.moves(), -1);
        x.story(10);
        x.story(20);
        due("one", x.moves(), 0);
        x.find();
        due("of like ones the lowest", x.moves(), 0);
        // 0 and 1: 20 * 5 twice; then 1 if 0 of ten by story 1: 10 * 5 and 20 * 10.
        x.tells(1, 1, 0);
        due("find 1: 50 and 200", x.moves(), 1);
        x.find();
        x.tells(2, 0, 10);
        x.tells(2, 1, 1);
        due("find 2: 100 and 180", x.moves(), 2);
        x.seen(2, 1);
        // Then 100 and 20: find 0 500 and 500; find 1 500 and 500.
        due("known ones aside, of like ones the lowest", x.moves(), 0);
        x.seen(0, 0);
        due("known ones aside", x.moves(), 1);
        x.seen(1, 0);
        due("all known", x.moves(), -1);
        x.seen(0, -1);
        x.seen(2, 0);
        x.tells(2, 0, 10);
        x.tells(2, 1, 10);
        due("nothing weighs: the lowest", x.moves(), 0);
        HullTank y = new HullTank();
        y.story(10);
        y.story(20);
        y.find();
        y.find();
        y.tells(0, 0, 0);
        y.tells(0, 1, 10);
        y.tells(1, 0, 10);
        y.tells(1, 1, 0);
        due("200 and 100, 100 and 200", y.moves(), 0);
        y.tells(0, 1, 9);
        due("180 and 100", y.moves(), 1);
        y.tells(1, 1, 1);
        due("180 and 100, 100 and 180", y.moves(), 0);
        HullTank z = new HullTank();
        z.story(1);
        z.find();
        z.find();
        z.tells(1, 0, 10);
        due("5 and 5, 10 and 0", z.moves(), 0);
    }

    private static void wind() {
        promise = "26 wind";
        HullTank x = new HullTank();
        x.lies(40, 2);
        no("speed 0", x.wind(0, 0, 0));
        no("speed 51", x.wind(51, 0, 0));
        no("least -21", x.wind(2, -21, 0));
        no("greatest 21", x.wind(2, 0, 21));
        no("least above greatest", x.wind(2, 1, 0));
        due("nothing changed", x.span(0, 0), 40);
        yes("20", x.wind(50, 20, 20));
        due("0 seconds", x.span(0, 1), 0);
        yes("-20 to 20", x.wind(1, -20, 20));
        due("first", x.span(0, 0), 0);
        due("last", x.span(0, 1), 80);
        yes("-20", x.wind(4, -20, -20));
        due("20 seconds", x.span(0, 0), 20);
    }

    private static void lies() {
        promise = "27 lies";
        HullTank x = new HullTank();
        due("place -1", x.lies(-1, 0), -1);
        due("place 100001", x.lies(100001, 0), -1);
        due("fall -1", x.lies(0, -1), -1);
        due("fall 1001", x.lies(0, 1001), -1);
        due("none was made", x.count(5), 0);
        due("greatest", x.lies(100000, 1000), 0);
        for (int i = 1; i < 10; i++) due("piece " + i, x.lies(0, 0), i);
        due("an eleventh", x.lies(0, 0), -1);
        x.wind(12, -20, -20);
        due("far out: 120000 / 12 is too late", x.span(0, 0), -2);
        x.wind(50, -20, 20);
        due("first", x.span(0, 0), 1600);
        due("last", x.span(0, 1), 2400);
    }

    private static void span() {
        promise = "28 span";
        HullTank x = new HullTank();
        x.lies(9999, 0);
        x.lies(10000, 0);
        x.lies(10, 3);
        due("second 9999", x.span(0, 1), 9999);
        due("second 10000", x.span(1, 0), -2);
        x.wind(5, -9, 9);
        // 10 - 3 wind must be a whole number of fives: winds -5, 0 (and 5: below 0).
        due("first", x.span(2, 0), 2);
        due("last", x.span(2, 1), 5);
        x.wind(5, 1, 4);
        due("none", x.span(2, 0), -2);
        due("none", x.span(2, 1), -2);
        due("what 2", x.span(2, 2), -1);
        due("what -1", x.span(2, -1), -1);
        due("no such one", x.span(3, 0), -1);
        due("-1", x.span(-1, 0), -1);
    }

    private static void order() {
        promise = "29 order";
        HullTank x = new HullTank();
        x.lies(100, 1);
        x.lies(120, 1);
        x.lies(110, 3);
        x.lies(0, 1);
        due("ahead", x.order(0, 1), 0);
        due("behind", x.order(1, 0), 1);
        due("itself", x.order(0, 0), 2);
        x.wind(1, -9, 9);
        due("spans meet, but with one wind it is sure", x.order(0, 1), 0);
        due("not sure", x.order(0, 2), 3);
        x.wind(1, -9, 4);
        due("behind", x.order(2, 0), 1);
        x.wind(1, 5, 5);
        due("at one second", x.order(0, 2), 2);
        due("no wind fits both", x.order(0, 3), 4);
        x.wind(1, 5, 6);
        due("at one second or not", x.order(0, 2), 3);
        due("no such one", x.order(0, 4), -1);
        due("no such one", x.order(4, 0), -1);
        due("-1", x.order(-1, 0), -1);
        x.wind(7, 0, 0);
        due("itself, no wind", x.order(0, 0), 4);
    }

    private static void cell() {
        promise = "30 cell";
        HullTank x = new HullTank();
        no("no story", x.cell(0, 0, 1));
        x.story(2);
        no("cell -1", x.cell(0, -1, 1));
        no("cell 40", x.cell(0, 40, 1));
        no("weight -1", x.cell(0, 0, -1));
        no("weight 101", x.cell(0, 0, 101));
        no("story -1", x.cell(-1, 0, 1));
        no("story 1", x.cell(1, 0, 1));
        due("nothing changed", x.nets(4, 10, -1), 0);
        yes("100", x.cell(0, 39, 100));
        due("worth", x.nets(1, 1, -1), 200);
        due("there", x.nets(1, 1, 0), 39);
        yes("0 again", x.cell(0, 39, 0));
        due("worth", x.nets(1, 1, -1), 0);
        due("there", x.nets(1, 1, 0), 0);
    }

    private static void nets() {
        promise = "31 nets";
        HullTank x = new HullTank();
        due("no story", x.nets(4, 10, -1), 0);
        x.story(1);
        x.story(3);
        x.cell(0, 5, 9);
        x.cell(0, 6, 9);
        x.cell(0, 7, 9);
        x.cell(1, 8, 4);
        x.cell(1, 20, 1);
        due("one of three: 6, 7, 8", x.nets(1, 3, -1), 30);
        due("from 6", x.nets(1, 3, 0), 6);
        due("two of two: 5 6, 7 8", x.nets(2, 2, -1), 39);
        due("from 5", x.nets(2, 2, 0), 5);
        due("from 7", x.nets(2, 2, 1), 7);
        due("two of three", x.nets(2, 3, -1), 39);
        due("the least row", x.nets(2, 3, 0), 3);
        due("the least row", x.nets(2, 3, 1), 6);
        due("all of it", x.nets(4, 10, -1), 42);
        due("the fourth", x.nets(4, 10, 3), 30);
        due("three of one", x.nets(3, 1, -1), 30);
        due("three of one", x.nets(3, 1, 2), 8);
        due("k 0", x.nets(0, 1, -1), -1);
        due("k 5", x.nets(5, 1, -1), -1);
        due("w 0", x.nets(1, 0, -1), -1);
        due("w 11", x.nets(1, 11, -1), -1);
        due("what k", x.nets(2, 1, 2), -1);
        due("what -2", x.nets(2, 1, -2), -1);
        x.find();
        x.tells(0, 0, 0);
        x.seen(0, 1);
        due("by odds", x.nets(1, 3, -1), 60);
        due("by odds", x.nets(1, 3, 0), 6);
    }

    private static void fly() {
        promise = "32 fly";
        HullTank x = threeCorners();
        due("nothing is lost by 2", x.fly(0, 0, 9, 1000, 1), 2);
        due("a lost one costs nothing", x.fly(0, 0, 9, 0, 1), 9);
        due("nothing costs: the fewest", x.fly(0, 0, 9, 0, 0), 0);
        // 12 ways: 6 are lost by 3, 12 by 6. To 5: 6 lost; 9 - 5 idle.
        due("12 idle or 6 lost", x.fly(0, 0, 5, 5, 1), 5);
        due("like ones", x.fly(0, 0, 5, 6, 1), 2);
        due("0", x.fly(0, 0, 0, 6, 1), 0);
        program(x, 0, "0*2");
        due("behind a program", x.fly(0, 0, 9, 1000, 1), 0);
        program(x, 0, "0*3");
        // 6 of 12 are left and are lost by 3 more: 3 times 6 idle above 2, or 6 times the cost.
        due("of those left", x.fly(0, 0, 5, 3, 1), 2);
        due("of those left", x.fly(0, 0, 5, 2, 1), 5);
        program(x, 0, "0*6");
        due("none is left", x.fly(0, 0, 9, 1, 1), -2);
        due("greatest 201", x.fly(0, 0, 201, 1, 1), -1);
        due("greatest -1", x.fly(0, 0, -1, 1, 1), -1);
        due("lost -1", x.fly(0, 0, 1, -1, 1), -1);
        due("lost 1000001", x.fly(0, 0, 1, 1000001, 1), -1);
        due("idle -1", x.fly(0, 0, 1, 1, -1), -1);
        due("idle 1001", x.fly(0, 0, 1, 1, 1001), -1);
        due("pressure 100", x.fly(0, 100, 1, 1, 1), -1);
        due("program 8", x.fly(8, 0, 1, 1, 1), -1);
        law(x, "d1(p>0)");
        program(x, 0, "0*1800");
        due("2000 in all", x.fly(0, 0, 200, 1000000, 1000), 200);
        program(x, 0, "0*1801");
        due("2001 in all", x.fly(0, 0, 200, 1, 1), -1);
    }

    private static void check() {
        promise = "33 check";
        HullTank x = threeCorners();
        due("no hull", x.check(0, 0), -2);
        x.hull(4);
        x.flown(0, 0, 3);
        x.feed(0, 3, 1, 1, 3);
        x.feed(1, 2, 0, 0, 9);
        due("no such hull", x.check(1, 3), -2);
        due("hull -1", x.check(-1, 3), -2);
        due("-1 threes", x.check(0, -1), -2);
        due("4 threes of 40 bytes", x.check(0, 4), -2);
        due("far too many", x.check(0, Integer.MAX_VALUE), -2);
        due("the tape stays", x.count(7), 40);
        due("right", x.check(0, 3), -1);
        due("empty then", x.count(7), 0);
        int[] right = {0, 3, 1, 1, 3, 1, 2, 0, 0, 3};
        for (int i = 0; i < 10; i++) {
            int[] w = right.clone();
            w[i] += 1;
            x.feed(w[0], w[1], w[2], w[3], w[4]);
            x.feed(w[5], w[6], w[7], w[8], w[9]);
            due("number " + i, x.check(0, 3), i < 9 ? i : -1);
        }
        x.feed(0, 3, 1, 1, 3);
        due("one three", x.check(0, 1), 3);
        x.feed(0, 3, 1, 1, 3);
        due("none", x.check(0, 0), 0);
        due("empty then", x.count(7), 0);
        x.feed(0, 3, 1, 1, 3);
        x.feed(1, 2, 0, 0, 3);
        x.feed(0, 0, 0, 0, 0);
        due("a fourth three", x.check(0, 4), 9);
        x.feed(1, 3, 1, 0, 3);
        due("not by numbers", x.check(0, 1), 0);
        for (int i = 0; i < 3; i++) {
            for (int shift = 0; shift < 32; shift += 8) {
                x.feed(i == 0 ? 1 << shift : 0, i == 1 ? 3 ^ 1 << shift : 3, i == 2 ? 1 ^ 1 << shift : 1, 0, 0);
                due("four bytes each", x.check(0, 1), i);
            }
        }
    }

    private static void count() {
        promise = "34 count";
        HullTank x = threeCorners();
        x.hull(0);
        x.hull(0);
        x.trial(1, 0, 0, 0, 1);
        for (int i = 0; i < 4; i++) x.story(1);
        for (int i = 0; i < 5; i++) x.find();
        for (int i = 0; i < 6; i++) x.lies(1, 1);
        law(x, "q1(1=1);q1(1=1)");
        program(x, 6, "1*7");
        x.feed(0, 0, 0, 0, 0);
        int[] due = {3, 2, 1, 4, 5, 6, 2, 20, -1, -1, 2, 2, 0, -1, -1, -1, -1, -1, -1, -1, 0, 0, 0, 0, 0, 0, 7, 0, -1};
        for (int what = 0; what < due.length; what++) due("count(" + what + ")", x.count(what), due[what]);
        due("-1", x.count(-1), -1);
        due("least", x.count(Integer.MIN_VALUE), -1);
        due("greatest", x.count(Integer.MAX_VALUE), -1);
    }

    public static void main(String[] args) {
        newObject();
        corner();
        life();
        feed();
        law();
        faults();
        sums();
        conditions();
        program();
        pull();
        hull();
        flown();
        pulls();
        hullIs();
        cornerIs();
        runs();
        odds();
        left();
        likely();
        off();
        trial();
        says();
        cheapest();
        story();
        find();
        tells();
        seen();
        weighs();
        moves();
        wind();
        lies();
        span();
        order();
        cell();
        nets();
        fly();
        check();
        count();
        System.out.println(asked + " asked, " + wrong + " not as due");
        if (wrong > 0) System.exit(1);
    }
}
