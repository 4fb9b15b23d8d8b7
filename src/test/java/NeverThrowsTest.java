import java.util.Random;

/** Any arguments in any state: no call throws, and none that is wrong changes anything. */
public final class NeverThrowsTest {
    private static final Due DUE = new Due("NeverThrowsTest");
    // With the calls that feed a quarter fewer than 512.
    private static final int MOST_CALLS = 440;
    private static final int[] NUMBERS = {
        Integer.MIN_VALUE, -100, -3, -2, -1, 0, 1, 2, 3, 4, 5, 9, 10, 11, 13, 14, 15, 23, 24, 25, 31, 32, 33,
        60, 61, 99, 9999, 10000, 65536, Integer.MAX_VALUE
    };

    private final Random random;
    private final OneSided x = new OneSided();

    private NeverThrowsTest(int seed) {
        random = new Random(seed);
    }

    public static void main(String[] args) {
        for (int seed = 0; seed < 400; seed++) {
            NeverThrowsTest test = new NeverThrowsTest(seed);
            if (seed % 4 != 0) {
                Maker maker = new Maker(test.random);
                maker.quarter(10, 14, 6);
                Due.quarter(test.x, maker.text());
            }
            for (int i = 0; i < MOST_CALLS; i++) {
                test.call(test.random.nextInt(30));
            }
        }
        largest();
        DUE.end();
    }

    private int any() {
        boolean small = random.nextInt(3) != 0;
        return small ? random.nextInt(7) - 1 : NUMBERS[random.nextInt(NUMBERS.length)];
    }

    private boolean flip() {
        return random.nextBoolean();
    }

    private void in(String call, int got, int least, int most) {
        DUE.same(call + ": " + got, got >= least && got <= most, true);
    }

    private void call(int which) {
        switch (which) {
            case 0: in("feed", x.feed(random.nextLong(), random.nextLong(), random.nextLong()), 0, 1000); break;
            case 1: in("quarter", random.nextInt(9) == 0 ? x.quarter() : 0, 0, 16005); break;
            case 2: in("day", x.day(), 0, 16005); break;
            case 3: in("door", x.door(any(), any()), -1, 24); break;
            case 4: in("person", x.person(any(), any()), -1, 24); break;
            case 5: in("leads", x.leads(any(), any(), any(), any()), -1, 9); break;
            case 6: in("go", x.go(any(), any()), -1, 9); break;
            case 7: in("hours", random.nextInt(4) == 0 ? x.hours(any()) : 0, -1, 24); break;
            case 8: x.shut(any(), flip()); break;
            case 9: x.undo(); break;
            case 10: in("judged", x.judged(any()), -2, 23); break;
            case 11: in("soonest", x.soonest(any(), any()), -1, 24); break;
            case 12: in("errand", x.errand(any(), any()), -2, 24); break;
            case 13: in("reach", x.reach(any()), -1, 1023); break;
            case 14: in("stuck", x.stuck(), 0, 63); break;
            case 15: in("ring", x.ring(any(), any(), any()), -1, 1023); break;
            case 16: in("homeless", x.homeless(any(), any(), any()), -1, 1023); break;
            case 17: in("add", x.add(any(), any()), -1, 10); break;
            case 18: in("turn", x.turn(any(), any()), -1, 16383); break;
            case 19: in("cut", x.cut(any(), any(), any(), any()), -1, 16383); break;
            case 20: in("crowd", x.crowd(any(), any(), any()), -1, 3024); break;
            case 21: x.told(any(), any(), flip()); break;
            case 22: in("found", x.found(any()), -1, 16384); break;
            case 23: in("rests", x.rests(any(), any(), any()), -1, 100); break;
            case 24: in("chase", x.chase(any(), any()), -1, 200); break;
            case 25: in("run", x.run(any()), -1, 6); break;
            case 26: in("years", x.years(any(), any(), any()), -1, 360); break;
            case 27: x.mark(any(), flip()); break;
            default: in("count", x.count(any()), -1, 1000);
        }
    }

    /** The longest law, the most doors, the most that crowd: all has an end soon. */
    private static void largest() {
        OneSided x = new OneSided();
        StringBuilder law = new StringBuilder("rooms 2;let time");
        while (law.length() < 998) {
            law.append("+1");
        }
        law.setLength(998);
        law.append(";");
        DUE.same("a law of 999 signs", Due.quarter(x, law.toString()), 0);
        StringBuilder text = new StringBuilder("rooms 10;");
        for (int i = 0; i < 14; i++) {
            int from = i % 10;
            int to = i < 10 ? (i + 1) % 10 : (i + 5) % 10;
            text.append("door ").append((char) ('a' + i)).append(' ').append(from).append(" to ");
            text.append(to).append(" hinge holds 9;");
        }
        for (int i = 0; i < 6; i++) {
            text.append("person p").append((char) ('a' + i)).append(" tenant at 0 errand 9 by 24;");
        }
        DUE.same("the most doors", Due.quarter(x, text.toString()), 0);
        DUE.same("turn none", x.turn(0, 0), 0);
        DUE.same("cut", x.cut(9, 8, 0, 0), 1 << 9);
        DUE.same("crowd", x.crowd(9, 0, 23), 24 * 9);
        DUE.same("found", x.found(0), 16384);
        DUE.same("chase", x.chase(1, 0), -1);
        DUE.same("run", x.run(1), 0);
        DUE.same("years", x.years(9999, 60, 0) > 0, true);
        DUE.same("rests", x.rests(0, 1, -1) >= 0, true);
    }
}
