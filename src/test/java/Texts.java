/** Feeds texts to a WallHarbour. */
final class Texts {
    private Texts() {
    }

    /** Puts a text (of at most 400 characters 0 to 255) on an empty tape. */
    static void feed(WallHarbour x, String text) {
        for (int at = 0; at < text.length(); at += 20) {
            x.feed(word(text, at), word(text, at + 4), word(text, at + 8), word(text, at + 12), word(text, at + 16));
        }
        x.end(text.length());
    }

    static int word(String text, int at) {
        int word = 0;
        for (int i = at; i < at + 4; i++) {
            word = word << 8 | (i < text.length() ? text.charAt(i) : 0);
        }
        return word;
    }

    static int harbour(WallHarbour x, String text) {
        feed(x, text);
        return x.harbour();
    }

    static int law(WallHarbour x, String text) {
        feed(x, text);
        return x.law();
    }

    static WallHarbour with(String... texts) {
        WallHarbour x = new WallHarbour();
        for (String text : texts) {
            harbour(x, text);
        }
        return x;
    }

    /** The first wrong byte of a text of a harbour, read behind what there is already. */
    static int harbourFault(WallHarbour x, String text) {
        feed(x, text);
        try {
            x.harbour();
        } catch (IllegalArgumentException e) {
            return x.fault();
        }
        return x.fault() == WallHarbour.NONE ? WallHarbour.NONE : -2;
    }

    static int lawFault(WallHarbour x, String text) {
        feed(x, text);
        try {
            x.law();
        } catch (IllegalArgumentException e) {
            return x.fault();
        }
        return x.fault() == WallHarbour.NONE ? WallHarbour.NONE : -2;
    }
}
