/** Feeds TEXTS. */
final class Texts {
    private Texts() {
    }

    static long word(String bytes) {
        long w = 0;
        for (int i = 0; i < bytes.length(); i++) {
            w = w << 8 | bytes.charAt(i) & 255;
        }
        return w;
    }

    static void feed(StyleRows rows, String text) {
        for (int i = 0; i < text.length(); i += 8) {
            String piece = text.substring(i, Math.min(text.length(), i + 8));
            rows.feed(piece.length(), word(piece));
        }
    }

    static int read(StyleRows rows, String text) {
        feed(rows, text);
        return rows.read();
    }
}
