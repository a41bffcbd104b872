import java.lang.management.ManagementFactory;
import java.lang.reflect.Constructor;
import java.lang.reflect.Field;
import java.lang.reflect.Method;
import java.lang.reflect.Modifier;
import java.nio.charset.StandardCharsets;
import java.nio.file.Files;
import java.nio.file.Path;
import java.util.Arrays;
import java.util.Random;
import java.util.TreeSet;

/** What LANGUAGE.md asks of the class, as far as a test can see it: its face, its words, its room, and that nothing is thrown. */
public final class LanguageTest {
    private static int wrong;

    private static final String[] FACE = {
        "int corner(int,int,int,int)", "int life(int,int,int)", "int feed(int,int,int,int,int)", "int law(int)", "int program(int,int)",
        "int pull(int,int,int)", "int hull(int)", "int flown(int,int,int)", "int hullIs(int,int)", "int cornerIs(int,int,int)",
        "int runs(int,int,int,int)", "long odds(int,int,int,int)", "long left(int,int,int,int)", "int likely(int,int,int,int)",
        "int off(int,int,int)", "int trial(int,int,int,int,int)", "long says(int,int)", "int cheapest(int)", "int story(int)", "int find()",
        "boolean tells(int,int,int)", "boolean seen(int,int)", "long weighs(int)", "int moves()", "boolean wind(int,int,int)",
        "int lies(int,int)", "int span(int,int)", "int order(int,int)", "boolean cell(int,int,int)", "long nets(int,int,int)",
        "int fly(int,int,int,int,int)", "int check(int,int)", "int count(int)"};

    private static void need(boolean holds, String what) {
        if (!holds) {
            wrong++;
            System.out.println("not so: " + what);
        }
    }

    private static void face() {
        Class<?> type = HullTank.class;
        need(Modifier.isFinal(type.getModifiers()) && Modifier.isPublic(type.getModifiers()), "public and final");
        TreeSet<String> names = new TreeSet<>();
        TreeSet<String> hidden = new TreeSet<>();
        TreeSet<String> told = new TreeSet<>();
        for (Method m : type.getDeclaredMethods()) {
            if (Modifier.isPrivate(m.getModifiers())) {
                hidden.add(m.getName());
                continue;
            }
            need(Modifier.isPublic(m.getModifiers()) && !Modifier.isStatic(m.getModifiers()), m + " is of the face");
            names.add(m.getName());
            StringBuilder s = new StringBuilder(m.getReturnType() + " " + m.getName() + "(");
            for (Class<?> p : m.getParameterTypes()) s.append(s.charAt(s.length() - 1) == '(' ? "" : ",").append(p);
            told.add(s.append(")").toString());
        }
        need(told.equals(new TreeSet<>(Arrays.asList(FACE))), "the methods are " + told);
        for (Class<?> c : type.getDeclaredClasses()) {
            need(Modifier.isStatic(c.getModifiers()), c + " is static");
            for (Method m : c.getDeclaredMethods()) if (Modifier.isPrivate(m.getModifiers())) hidden.add(m.getName());
            int fields = 0;
            for (Field f : c.getDeclaredFields()) {
                if (Modifier.isStatic(f.getModifiers())) need(Modifier.isFinal(f.getModifiers()), f + " is final");
                else fields++;
            }
            need(fields <= 20, c + " has at most twenty fields");
        }
        need(type.getDeclaredClasses().length <= 11, "at most twelve classes");
        hidden.retainAll(names);
        need(hidden.isEmpty(), "no private method bears a name of the face: " + hidden);
        for (Field f : type.getDeclaredFields()) need(Modifier.isPrivate(f.getModifiers()) || f.getName().equals("NONE"), f + " is private");
        Constructor<?>[] made = type.getDeclaredConstructors();
        need(made.length == 1 && Modifier.isPublic(made[0].getModifiers()) && made[0].getParameterCount() == 0, "one constructor");
    }

    private static void words() throws Exception {
        String source = Files.readString(Path.of("src/main/java/HullTank.java"), StandardCharsets.ISO_8859_1);
        need(source.chars().allMatch(c -> c > 0 && c < 128), "signs are 1 to 127");
        String bare = source.replaceAll("(?s)/\\*.*?\\*/", " ").replaceAll("//[^\n]*", " ")
            .replaceAll("\"[^\"\n]*\"", "0").replaceAll("'[^'\n]'", "0");
        String[] never = {"throw", "throws", "try", "catch", "synchronized", "assert", "import", "package", "protected", "instanceof", "null\\s*==",
            "hashCode", "toString", "Object", "volatile", "native", "super", "System", "Thread", "Random", "float", "double", "Exact"};
        for (String word : never) need(!bare.matches("(?s).*\\b" + word + "\\b.*"), "no " + word);
        for (String sign : new String[] {"->", "::", "@", "try{"}) need(!bare.contains(sign), "no " + sign);
        need(!bare.matches("(?s).*while \\(true\\).*|.*for \\(;;\\).*"), "loops have ends");
        String[] lines = source.split("\n");
        int from = -1;
        for (int i = 0; i < lines.length; i++) {
            if (lines[i].matches("( {4}| {8})(?!if|for|while|switch)[A-Za-z].*\\) \\{")) from = i;
            if (from >= 0 && lines[i].equals(lines[from].replaceAll("[^ ].*", "") + "}")) {
                need(i - from < 60, "short: " + lines[from].trim());
                String in = lines[from].substring(lines[from].indexOf('('));
                need(in.split(",").length <= 7, "at most seven parameters: " + lines[from].trim());
                from = -1;
            }
        }
    }

    private static HullTank prepared() {
        HullTank x = new HullTank();
        for (int c = 0; c < 8; c++) {
            x.corner(c % 4, c + 1, c + 2, 100 * c + 1);
            for (int i = 0; i < 4; i++) x.life(c, 1000 + 700 * i + c, 1 + i);
        }
        String law = "qp*r/t+n%3(1=1);d1+q/50+w/1000(n%5<4|p>9);d1(h>q);gl/9+1(!(w<5&l=9));g[[[[[[1]]]]]](1=1)";
        Texts.feed(x, law);
        need(x.law(law.length()) == 5, "the law is read");
        Texts.feed(x, "9*500;12*300;7*9;1;2;3;4;5");
        x.program(0, 26);
        for (int s = 0; s < 6; s++) x.story(s + 1);
        for (int f = 0; f < 10; f++) x.find();
        for (int i = 0; i < 40; i++) x.cell(i % 6, i, i);
        for (int i = 0; i < 10; i++) x.lies(1000 * i + 7, i);
        x.wind(3, -20, 20);
        return x;
    }

    /** A run's dearest calls make no object; what the machine itself needs for counting is small. */
    private static void room() {
        com.sun.management.ThreadMXBean beans = (com.sun.management.ThreadMXBean) ManagementFactory.getThreadMXBean();
        long id = Thread.currentThread().getId();
        long most = 0;
        for (int round = 0; round < 3; round++) {
            long before = beans.getThreadAllocatedBytes(id);
            HullTank x = prepared();
            for (int i = 0; i < 20; i++) {
                x.likely(255, 0, i, 900);
                x.off(i + 1, 0, i);
                x.odds(0, i, 1000, 8);
                x.fly(0, i, 200, 9, 1);
                x.trial(i + 1, 0, i, 5, i + 1);
                x.cheapest(500);
                x.nets(4, 10 - i % 8, -1);
                x.moves();
                x.hull(i);
                x.flown(0, i, 2000);
                x.order(i % 10, 3);
                Texts.feed(x, "5*2000;7");
                x.program(1, 8);
                Texts.feed(x, "q[[[[[1]]]]](!(!(!1=2)))");
                x.law(24);
            }
            most = beans.getThreadAllocatedBytes(id) - before;
        }
        need(most < 100000, "little is made in a run: " + most + " bytes");
    }

    private static final int[] WILD = {Integer.MIN_VALUE, Integer.MIN_VALUE + 1, Integer.MAX_VALUE, Integer.MAX_VALUE - 1, -2, -1, 0, 1, 2, 3, 4, 5,
        6, 7, 8, 9, 10, 12, 17, 31, 32, 33, 39, 40, 63, 64, 99, 100, 159, 160, 200, 255, 256, 2000, 2001, 65535, 65536, 1 << 28, 1 << 30, -(1 << 28),
        178956971, 357913942, 715827883, 1431655766};

    /** Any arguments in any state: a thrown exception ends the test. */
    private static void wild() throws Exception {
        Random random = new Random(7);
        Method[] methods = Arrays.stream(HullTank.class.getDeclaredMethods()).filter(m -> Modifier.isPublic(m.getModifiers()))
            .sorted(java.util.Comparator.comparing(Method::getName)).toArray(Method[]::new);
        for (int round = 0; round < 60; round++) {
            HullTank x = round % 3 == 0 ? new HullTank() : prepared();
            for (int i = 0; i < 500; i++) {
                Method m = methods[random.nextInt(methods.length)];
                Object[] with = new Object[m.getParameterCount()];
                boolean small = random.nextBoolean();
                for (int j = 0; j < with.length; j++) with[j] = small ? random.nextInt(4) - 1 : WILD[random.nextInt(WILD.length)];
                m.invoke(x, with);
            }
        }
    }

    public static void main(String[] args) throws Exception {
        face();
        words();
        room();
        wild();
        System.out.println(wrong == 0 ? "all as asked" : wrong + " not as asked");
        if (wrong > 0) System.exit(1);
    }
}
