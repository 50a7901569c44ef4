/** What the tests share: answers that are due, and bodies laid from a text. */
final class Checks {
    private int wrong = 0;
    private int asked = 0;

    void due(String call, long got, long want) {
        asked++;
        if (got != want) {
            wrong++;
            System.out.println(call + " answered " + got + ", due is " + want);
        }
    }

    void end() {
        System.out.println(wrong + " of " + asked + " answers are not as due");
        System.exit(wrong == 0 ? 0 : 1);
    }

    /** Writes a text in place of the one that was, eight bytes at a time. */
    static void put(CatThatTurns cat, String text) {
        cat.wipe();
        for (int at = 0; at < text.length(); at += 8) {
            int n = Math.min(8, text.length() - at);
            long v = 0;
            for (int i = 0; i < n; i++) {
                v = v << 8 | text.charAt(at + i) & 255;
            }
            cat.write(n, v);
        }
    }

    static CatThatTurns laid(String text) {
        CatThatTurns cat = new CatThatTurns();
        put(cat, text);
        if (cat.lay() < 2) {
            throw new IllegalStateException("not laid: " + text);
        }
        return cat;
    }

    static void moves(CatThatTurns cat, int way, int... moves) {
        for (int move : moves) {
            cat.move(way, move);
        }
    }
}
