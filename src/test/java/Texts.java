/** Puts texts on the tape of a HullTank. */
final class Texts {
    private Texts() { }

    /** Twenty bytes of a text as five ints, blanks behind its end. */
    static int[] words(String text, int from) {
        int[] w = new int[5];
        for (int i = 0; i < 20; i++) w[i / 4] = w[i / 4] << 8 | (from + i < text.length() ? text.charAt(from + i) : 32);
        return w;
    }

    static void feed(HullTank x, String text) {
        for (int from = 0; from < text.length(); from += 20) {
            int[] w = words(text, from);
            x.feed(w[0], w[1], w[2], w[3], w[4]);
        }
    }
}
