/** Puts texts on the tape of a harbour, which must be empty. */
final class Texts {
    private Texts() {
    }

    static void put(SmallHarbour x, String text) {
        for (int i = 0; i < text.length(); i += 20) {
            x.feed(word(text, i), word(text, i + 4), word(text, i + 8), word(text, i + 12), word(text, i + 16));
        }
        x.end(text.length());
    }

    static int rule(SmallHarbour x, String text, int day) {
        put(x, text);
        return x.rule(day);
    }

    private static int word(String text, int from) {
        int word = 0;
        for (int i = from; i < from + 4; i++) {
            word = word << 8 | (i < text.length() ? text.charAt(i) & 255 : 0);
        }
        return word;
    }
}
