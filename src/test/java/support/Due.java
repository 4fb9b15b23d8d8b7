/** Counts answers that are not the ones that are due. */
final class Due {
    private final String test;
    private int asked;
    private int wrong;

    Due(String test) {
        this.test = test;
    }

    void same(String call, long got, long want) {
        asked++;
        if (got != want) {
            wrong++;
            if (wrong <= 40) {
                System.out.println(test + ": " + call + " answered " + got + ", due is " + want);
            }
        }
    }

    void same(String call, boolean got, boolean want) {
        same(call, got ? 1 : 0, want ? 1 : 0);
    }

    /** Feeds a text in pieces of 24 signs: how many signs there are on the tape then. */
    static int feed(OneSided x, String text) {
        int there = x.count(9);
        for (int i = 0; i < text.length(); i += 24) {
            there = x.feed(piece(text, i), piece(text, i + 8), piece(text, i + 16));
        }
        return there;
    }

    static int quarter(OneSided x, String text) {
        feed(x, text);
        return x.quarter();
    }

    static int day(OneSided x, String text) {
        feed(x, text);
        return x.day();
    }

    /** A new object with a quarter that has to be without a fault. */
    OneSided made(String text) {
        OneSided x = new OneSided();
        same("quarter of " + text, quarter(x, text), 0);
        return x;
    }

    /** Eight signs as one number, the highest byte first; 0 behind the text's end. */
    static long piece(String text, int from) {
        long bytes = 0;
        for (int i = from; i < from + 8; i++) {
            bytes = bytes << 8 | (i < text.length() ? text.charAt(i) : 0);
        }
        return bytes;
    }

    void end() {
        System.out.println(test + ": " + asked + " answers, " + wrong + " not as due");
        if (wrong != 0) {
            System.exit(1);
        }
    }
}
