/** Two objects of the same past: a call on one of them is seen by what differs afterwards. */
final class Twins {
    /** Three doors, two people, a law: short, so that few calls tell all that can be seen. */
    static final String TOLD = "rooms 3;door dd 0 to 1 hinge holds 2;door ee 1 to 0 hinge;door ff 1 to 2 plain;"
        + "person pp tenant at 0 errand 1 by 9;person qq cat at 1 errand 0 by 9;let time < 23;";

    /** A call; true counts 1. */
    interface Call {
        long on(OneSided x);
    }

    /** A call with one number that is to be looked at. */
    interface Asked {
        long with(OneSided x, int number);
    }

    final OneSided one = withPast();
    final OneSided other = withPast();

    /** There is something of each kind that could be spoilt, and a sign or two on the tape. */
    private static OneSided withPast() {
        OneSided x = new OneSided();
        Due.quarter(x, TOLD);
        x.mark(2, false);
        x.hours(1);
        x.go(1, 0);
        x.told(0, 1, true);
        x.mark(1, false);
        x.shut(2, true);
        x.go(0, 0);
        x.told(0, 2, false);
        Due.day(x, "hour;hour;");
        Due.feed(x, "tape");
        return x;
    }

    /** The first thing seen that differs, or NONE: what is now, what is undone, what is on marks. */
    int difference() {
        int seen = 0;
        for (int step = 0; step < 9; step++) {
            for (int i = 0; i < 30; i++) {
                if (look(one, i) != look(other, i)) {
                    return seen;
                }
                seen++;
            }
            if (back(one, step) != back(other, step)) {
                return seen;
            }
            seen++;
        }
        return OneSided.NONE;
    }

    private static int look(OneSided x, int i) {
        if (i < 10) {
            return x.count(i);
        }
        if (i < 16) {
            return x.door((i - 10) / 2, 8 + i % 2);
        }
        if (i < 22) {
            return x.person((i - 16) / 3, 4 + (i - 16) % 3);
        }
        if (i < 25) {
            return x.judged(i - 23);
        }
        return x.found(i - 25);
    }

    private static boolean back(OneSided x, int step) {
        return step < 5 ? x.undo() : x.mark(step - 5, true);
    }
}
