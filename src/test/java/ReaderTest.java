import java.util.Random;

/** Texts that are spoilt by draws, read by OneSided and by the naive reader; promises 2, 3 and 4. */
public final class ReaderTest {
    private static final Due DUE = new Due("ReaderTest");
    private static final int ROUNDS = 60000;
    private static final String[] PIECES = {
        "rooms", "door", "to", "open", "for", "holds", "price", "person", "at", "errand", "by", "let", "go",
        "hour", "plain", "turning", "hinge", "blank", "tenant", "soldier", "child", "cat", "not", "and", "or",
        "time", "sort", "cost", "room", "0", "1", "2", "9", "10", "23", "24", "25", "9999", "10000", "0007",
        "(", ")", "<", "=", "+", "-", "*", ";", "a", "abcdefgh", "abcdefghi", "A", "?", "!", " ", "\n", "3x",
        ",", "let 1 ;", "door zz 0 to 1 plain ;", "person yy cat at 0 errand 1 by 3 ;", "not not not", "((("
    };

    public static void main(String[] args) {
        Random random = new Random(7);
        OneSided x = new OneSided();
        int[] kinds = new int[6];
        for (int round = 0; round < ROUNDS; round++) {
            // Three rounds take fewer than 512 calls; what one object read ahead must not be seen.
            x = round % 3 == 0 ? new OneSided() : x;
            Maker maker = new Maker(random);
            Naive naive = maker.quarter(10, random.nextInt(4) == 0 ? 14 : 3, random.nextInt(4) == 0 ? 6 : 2);
            String good = maker.text();
            if (good.length() > 900) {
                continue;
            }
            String spoilt = spoil(random, good);
            int want = NaiveReader.quarterFault(spoilt);
            DUE.same("quarter of " + spoilt, Due.quarter(x, spoilt), want);
            kinds[want % 16]++;
            DUE.same("quarter of " + good, Due.quarter(x, good), 0);
            String day = spoil(random, maker.day(naive, random.nextInt(3) == 0 ? 24 : 4));
            want = NaiveReader.dayFault(day, maker.personNames, maker.doorNames);
            DUE.same("day of " + day, Due.day(x, day), want);
            kinds[want % 16]++;
        }
        for (int kind = 0; kind < 6; kind++) {
            DUE.same("some of kind " + kind, kinds[kind] > 20, true);
        }
        DUE.end();
    }

    private static String spoil(Random random, String text) {
        StringBuilder made = new StringBuilder(text);
        int times = 1 + random.nextInt(3);
        for (int i = 0; i < times; i++) {
            int at = random.nextInt(made.length() + 1);
            int which = random.nextInt(10);
            if (which < 6) {
                made.insert(at, (random.nextBoolean() ? " " : "") + PIECES[random.nextInt(PIECES.length)] + " ");
            } else if (which < 8 && at < made.length()) {
                made.deleteCharAt(at);
            } else if (which == 8) {
                made.setLength(at);
            } else {
                int end = Math.min(made.length(), at + random.nextInt(60));
                made.append(made.substring(at, end));
            }
        }
        return made.length() > 1000 ? made.substring(0, 1000) : made.toString();
    }
}
