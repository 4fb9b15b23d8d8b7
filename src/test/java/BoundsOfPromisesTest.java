import java.util.List;

/** What each promise says of its bounds: which arguments there are, what all others answer, that these change nothing. */
public final class BoundsOfPromisesTest {
    private static final Sentences DOC = new Sentences("BoundsOfPromisesTest");
    private static final int NONE = OneSided.NONE;
    private static final int NEVER = -2;
    private static final int MOST = Integer.MAX_VALUE;

    public static void main(String[] args) {
        constants();
        calls512();
        newObject();
        feed();
        quarter();
        day();
        door();
        person();
        leads();
        go();
        hours();
        shut();
        undo();
        judged();
        soonest();
        errand();
        reach();
        stuck();
        ring();
        homeless();
        add();
        turn();
        cut();
        crowd();
        told();
        found();
        rests();
        chase();
        run();
        years();
        mark();
        count();
        DOC.allPromised(30);
        DOC.end();
    }

    private static int number(boolean answer) {
        return answer ? 1 : 0;
    }

    /** The twins' quarter at its beginning: doors dd 0 to 1, ee 1 to 0, ff 1 to 2; pp at 0, the cat qq at 1. */
    private static OneSided made() {
        return DOC.made(Twins.TOLD);
    }

    private static void constants() {
        DOC.says("The constants: `NONE = -1`: None.");
        DOC.is("NONE", OneSided.NONE, -1);
    }

    private static void calls512() {
        DOC.says("An object is used for at most 512 calls after it has been made");
        OneSided x = new OneSided();
        x.feed(0x726f6f6d7320323bL, 0x646f6f7220612030L, 0x746f31706c61696eL);
        x.feed(0x3b00000000000000L, 0, 0);
        DOC.is("the third", x.quarter(), 0);
        for (int call = 4; call <= 510; call++) {
            DOC.is("call " + call, x.shut(0, call % 2 == 0), true);
        }
        DOC.is("the 511th", x.count(8), 16);
        DOC.is("the 512th", x.leads(0, 0, 0, 0), NONE);
        OneSided y = new OneSided();
        for (int call = 1; call <= 41; call++) {
            y.feed(0x2020202020202020L, 0x2020202020202020L, 0x2020202020202020L);
        }
        y.feed(0x726f6f6d7320333bL, 0, 0);
        y.feed(0x726f6f6d7320333bL, 0, 0);
        for (int call = 44; call <= 511; call++) {
            DOC.is("call " + call, y.mark(call % 4, call >= 48 && call % 8 < 4), true);
        }
        DOC.is("the 512th reads all 1000", y.quarter(), 1 + 16 * 992);
    }

    private static void newObject() {
        DOC.promises(1, "Rooms 2, nothing else.");
        OneSided x = new OneSided();
        for (int what = 0; what < 10; what++) {
            DOC.is("count " + what, x.count(what), what == 0 ? 2 : 0);
        }
        DOC.is("no door", x.door(0, 0), NONE);
        DOC.is("no person", x.person(0, 0), NONE);
        DOC.is("none leads", x.leads(0, 0, 0, 0), NONE);
        DOC.is("none goes", x.go(0, 0), NONE);
        DOC.is("none is shut", x.shut(0, true), false);
        DOC.is("undo", x.undo(), false);
        DOC.is("judged", x.judged(NONE), NONE);
        DOC.is("judged 0", x.judged(0), NEVER);
        DOC.is("soonest", x.soonest(0, 0), NONE);
        DOC.is("errand", x.errand(0, NONE), NEVER);
        DOC.is("reach", x.reach(0), NONE);
        DOC.is("stuck", x.stuck(), 0);
        DOC.is("room 1", x.ring(1, 0, 0), 2);
        DOC.is("no room 2", x.ring(2, 0, 0), NONE);
        DOC.is("homeless", x.homeless(1, 3, 23), 1);
        DOC.is("add", x.add(0, 0), 2);
        DOC.is("turn", x.turn(0, 0), NONE);
        DOC.is("cut", x.cut(0, 1, 0, 0), 0);
        DOC.is("crowd", x.crowd(0, 1, 23), 0);
        DOC.is("found", x.found(0), 1);
        DOC.is("rests", x.rests(0, 1, NONE), NONE);
        DOC.is("chase", x.chase(0, 1), NONE);
        DOC.is("run", x.run(0), 0);
        DOC.is("run 1", x.run(1), 0);
        DOC.is("years", x.years(0, 1, 0), NONE);
        for (int mark = 0; mark < 4; mark++) {
            DOC.is("mark " + mark, x.mark(mark, true), false);
        }
        DOC.is("hours", x.hours(24), 24);
        DOC.is("told", x.told(1, 0, false), true);
    }

    private static void feed() {
        DOC.promises(2, "Up to 24 signs come behind the TAPE: the bytes of a, b, c, of each the highest first; others than 10 and 32 .. 126, and what is beyond 1,000, are left out: how many there are.");
        OneSided x = new OneSided();
        DOC.is("none of 24", x.feed(0, 0, 0), 0);
        DOC.is("none of 24 that are negative", x.feed(-1, Long.MIN_VALUE, -1), 0);
        DOC.is("one", x.feed(0, 0, ';'), 1);
        DOC.is("it is the first", x.day(), 1);
        DOC.is("all of 24", x.feed(0x726f6f6d73202020L, 0x2020202020200a20L, 0x202020202020353bL), 24);
        DOC.is("in their order", x.quarter(), 0);
        DOC.is("rooms 5", x.count(0), 5);
        DOC.is("some of 24", x.feed(0x72006f006f006d00L, 0x0073007f00200980L, 0xff3600000000003bL), 8);
        DOC.is("they come together", x.quarter(), 0);
        DOC.is("rooms 6", x.count(0), 6);
        for (int call = 1; call <= 41; call++) {
            DOC.is("24 more", x.feed(0x2020202020202020L, 0x2020202020202020L, 0x2020202020202020L), 24 * call);
        }
        DOC.is("to 1000", x.feed(0x726f6f6d7320373bL, 0x2020202020202020L, 0x3b3b3b3b3b3b3b3bL), 1000);
        DOC.is("no more", x.feed(MOST, MOST, 0x3b3b), 1000);
        DOC.is("counted", x.count(9), 1000);
        DOC.is("what is beyond is left out", x.quarter(), 0);
        DOC.is("rooms 7", x.count(0), 7);
    }

    /** Both twins' tapes are read in vain, so that they are empty. */
    private static Twins withoutTape() {
        Twins twins = new Twins();
        twins.one.day();
        twins.other.day();
        return twins;
    }

    private static void quarter() {
        DOC.promises(3, "The TAPE is read as a QUARTER: 0, or its FAULT (all stays then).");
        DOC.is("0", Due.quarter(new OneSided(), "rooms 2;"), 0);
        DOC.is("of the empty one", new OneSided().quarter(), 1);
        String good = "rooms 4;let 0;door xx 3 to 2 turning price 1;person yy child at 3 errand 3 by 1;";
        List<String> wrong = List.of("", "rooms", "rooms 1;", "rooms 11;", good + "x", good + "let 1;", good + "rooms 2;",
            good + "door xx", good + "door zz 0 to 0", good + "door zz 0 to 1 plain", good + "person zz cat at 4");
        for (String text : wrong) {
            Twins twins = withoutTape();
            DOC.is("a fault of " + text, Due.quarter(twins.one, text) > 0, true);
            DOC.is("all stays behind " + text, twins.difference(), NONE);
        }
        Twins twins = withoutTape();
        Due.quarter(twins.one, good + "let 1;");
        for (int i = 0; i < 3 * 4 * 3 * 3; i++) {
            int door = i % 3;
            int sort = i / 3 % 4;
            int room = i / 12 % 3;
            int hour = 11 * (i / 36);
            int due = twins.other.leads(door, sort, room, hour);
            DOC.is("the law and the doors stay", twins.one.leads(door, sort, room, hour), due);
        }
        DOC.is("its names stay", Due.day(twins.one, "go pp dd;go qq ee;go pp ff;"), 0);
        DOC.is("no others", Due.day(twins.one, "go yy xx;"), 2 + 16 * 3);
    }

    private static void day() {
        DOC.promises(4, "The TAPE is read as a DAY, likewise.");
        DOC.is("0", Due.day(made(), "go pp dd;hour;"), 0);
        DOC.is("of the empty one", made().day(), 0);
        List<String> wrong = List.of("x", "hour", "go pp dd;go pp", "hour;hour;hour;go qq xx;", "hour;".repeat(25));
        for (String text : wrong) {
            Twins twins = withoutTape();
            DOC.is("a fault of " + text, Due.day(twins.one, text) > 0, true);
            DOC.is("all stays behind " + text, twins.difference(), NONE);
        }
        OneSided x = made();
        Due.day(x, "go pp dd;");
        Due.day(x, "hour;go qq dd;hour");
        DOC.is("the lines stay", x.count(6), 1);
        DOC.is("pp is judged", x.judged(0), 1);
        DOC.is("qq is not", x.judged(1), 1);
    }

    private static void door() {
        DOC.promises(5, "Of a DOOR, what 0: KIND (0 plain, 1 turning, 2 hinge, 3 blank), 1: first ROOM, 2: second ROOM, 3: from which hour, 4: ahead of which, 5: for which SORT (NONE: all), 6: holds, 7: price, 8: 1 SHUT, 9: how many went through in this hour; NONE: others.");
        OneSided x = DOC.made("rooms 10;door aa 9 to 0 blank open 23 to 24 for cat holds 9 price 9;door bb 0 to 9 plain;"
            + "door cc 8 to 7 turning open 0 to 1 for tenant holds 1 price 0;door dd 1 to 2 hinge;"
            + "person pp tenant at 0 errand 9 by 1;");
        x.go(0, 1);
        x.shut(0, true);
        int[][] due = {{3, 9, 0, 23, 24, 3, 9, 9, 1, 0}, {0, 0, 9, 0, 24, NONE, 1, 0, 0, 1}, {1, 8, 7, 0, 1, 0, 1, 0, 0, 0},
            {2, 1, 2, 0, 24, NONE, 1, 0, 0, 0}};
        for (int door = 0; door < due.length; door++) {
            for (int what = 0; what < 10; what++) {
                DOC.is("door " + door + ", what " + what, x.door(door, what), due[door][what]);
            }
        }
        x.hours(1);
        DOC.is("in this hour", x.door(1, 9), 0);
        for (int what = 0; what < 10; what++) {
            int each = what;
            DOC.refusesBeyond("what " + what + " of door", NONE, 0, 2, (one, door) -> one.door(door, each));
        }
        DOC.refusesBeyond("door 0", NONE, 0, 9, (one, what) -> one.door(0, what));
    }

    private static void person() {
        DOC.promises(6, "Of a PERSON, what 0: SORT, 1: HOME, 2: errand's ROOM, 3: by, 4: where now, 5: 1 the errand is done, 6: 1 went in this hour; NONE: others.");
        OneSided x = DOC.made("rooms 10;door aa 9 to 0 plain;person pp cat at 9 errand 0 by 24;person qq tenant at 0 errand 9 by 1;"
            + "person rr soldier at 5 errand 5 by 12;person ss child at 1 errand 2 by 2;");
        x.go(0, 0);
        int[][] due = {{3, 9, 0, 24, 0, 1, 1}, {0, 0, 9, 1, 0, 0, 0}, {1, 5, 5, 12, 5, 1, 0}, {2, 1, 2, 2, 1, 0, 0}};
        for (int person = 0; person < due.length; person++) {
            for (int what = 0; what < 7; what++) {
                DOC.is("person " + person + ", what " + what, x.person(person, what), due[person][what]);
            }
        }
        x.hours(1);
        DOC.is("in this hour", x.person(0, 6), 0);
        for (int what = 0; what < 7; what++) {
            int each = what;
            DOC.refusesBeyond("what " + what + " of person", NONE, 0, 1, (one, person) -> one.person(person, each));
        }
        DOC.refusesBeyond("person 0", NONE, 0, 6, (one, what) -> one.person(0, what));
    }

    private static void leads() {
        DOC.promises(7, "Into which ROOM a DOOR lets a SORT from a ROOM in an hour (0 to 23); NONE: others, it doesn't.");
        OneSided x = made();
        DOC.is("hour 0", x.leads(0, 0, 0, 0), 1);
        DOC.is("hour 22", x.leads(2, 3, 2, 22), 1);
        DOC.is("hour 23 by the law", x.leads(0, 0, 0, 23), NONE);
        DOC.is("hour 23", DOC.made("rooms 2;door aa 0 to 1 plain;").leads(0, 3, 1, 23), 0);
        DOC.is("whatever the hour now", x.hours(24), 24);
        DOC.is("hour 0 at the end", x.leads(0, 0, 0, 0), 1);
        DOC.refusesBeyond("door", NONE, 0, 2, (one, door) -> one.leads(door, 0, 0, 0));
        DOC.refusesBeyond("sort", NONE, 0, 3, (one, sort) -> one.leads(0, sort, 0, 0));
        DOC.refusesBeyond("room", NONE, 0, 2, (one, room) -> one.leads(0, 3, room, 0));
        DOC.refusesBeyond("hour", NONE, 0, 23, (one, hour) -> one.leads(0, 0, 0, hour));
        DOC.leavesAll("it does", 1, one -> one.leads(0, 0, 0, 0));
    }

    private static void go() {
        DOC.promises(8, "GO: the ROOM then; NONE: others, it can't be.");
        OneSided x = made();
        DOC.is("1", x.go(0, 0), 1);
        DOC.is("0", x.go(1, 1), 0);
        DOC.refusesBeyond("person", NONE, 0, 1, (one, person) -> one.go(person, 0));
        DOC.refusesBeyond("door", NONE, 0, 2, (one, door) -> one.go(0, door));
        DOC.leavesAll("who has gone", NONE, one -> one.go(0, 1));
        DOC.leavesAll("who has gone, too", NONE, one -> one.go(1, 1));
        DOC.leavesAll("at the end", NONE, one -> {
            one.hours(24);
            int room = one.go(0, 1);
            one.undo();
            return room;
        });
        OneSided y = made();
        DOC.is("from elsewhere", y.go(0, 1), NONE);
        y.shut(0, true);
        DOC.is("shut", y.go(0, 0), NONE);
        DOC.is("he hasn't gone", y.person(0, 6), 0);
        DOC.is("nobody went through", y.door(0, 9), 0);
        DOC.is("only the shutting can be undone", y.count(8), 1);
    }

    private static void hours() {
        DOC.promises(9, "So many HOURS (1 to 24): which it is then (24 at most); NONE: others.");
        for (int many = 1; many <= 24; many++) {
            OneSided x = made();
            DOC.is("from 0", x.hours(many), many);
            DOC.is("again", x.hours(many), Math.min(24, 2 * many));
            DOC.is("24 at most", x.hours(24), 24);
            DOC.is("it is so", x.count(3), 24);
        }
        DOC.refusesBeyond("many", NONE, 1, 24, OneSided::hours);
        DOC.leavesAll("0", NONE, one -> one.hours(0));
        OneSided x = made();
        x.hours(23);
        DOC.is("at the end too", x.hours(0), NONE);
        x.hours(1);
        DOC.is("25 at the end", x.hours(25), NONE);
        DOC.is("1 at the end", x.hours(1), 24);
    }

    private static void shut() {
        DOC.promises(10, "SHUT (or open again): true; false: others, it is so.");
        OneSided x = made();
        for (int door = 0; door < 3; door++) {
            DOC.is("it is open", x.shut(door, false), false);
            DOC.is("shut", x.shut(door, true), true);
            DOC.is("it is shut", x.shut(door, true), false);
            DOC.is("so many", x.count(4), door + 1);
        }
        for (int door = 0; door < 3; door++) {
            DOC.is("open again", x.shut(door, false), true);
            DOC.is("it is open again", x.shut(door, false), false);
        }
        DOC.refusesBeyond("shut", 0, 0, 2, (one, door) -> number(one.shut(door, true)));
        DOC.refusesBeyond("open", 0, 0, 2, (one, door) -> number(one.shut(door, false)));
        DOC.leavesAll("it is so", 0, one -> number(one.shut(2, true)));
        DOC.leavesAll("it is so, too", 0, one -> number(one.shut(0, false)));
        OneSided end = DOC.made("rooms 2;door aa 0 to 1 plain;door bb 0 to 1 blank;");
        end.hours(24);
        DOC.is("at the end, a blank one", end.shut(1, true), true);
    }

    private static void undo() {
        DOC.promises(11, "UNDO: true; false: nothing can be.");
        OneSided x = made();
        DOC.is("nothing", x.undo(), false);
        x.hours(1);
        DOC.is("one", x.undo(), true);
        DOC.is("not that again", x.undo(), false);
        DOC.is("hour 0", x.count(3), 0);
        x.hours(1);
        Due.quarter(x, Twins.TOLD);
        DOC.is("nothing of another quarter", x.undo(), false);
        x.mark(0, false);
        x.hours(1);
        x.mark(0, true);
        DOC.is("nothing ahead of a mark", x.undo(), false);
        x.hours(1);
        x.mark(1, true);
        DOC.is("a mark that isn't there changes nothing", x.undo(), true);
        DOC.leavesAll("what was done and undone", 1, one -> {
            one.shut(1, true);
            return number(one.undo());
        });
    }

    private static void judged() {
        DOC.promises(12, "JUDGED, person NONE: the first line that can't be (NONE: all can); else where he is at last; -2: others.");
        OneSided x = made();
        Due.day(x, "go pp dd;go qq dd;hour;go pp ff;");
        DOC.is("all can", x.judged(NONE), NONE);
        DOC.is("pp", x.judged(0), 2);
        DOC.is("qq", x.judged(1), 0);
        Due.day(x, "go pp ff;");
        DOC.is("line 0", x.judged(NONE), 0);
        DOC.refusesBeyond("person", NEVER, -1, 1, OneSided::judged);
        DOC.leavesAll("person 2", NEVER, one -> one.judged(2));
        DOC.leavesAll("person 1", 1, one -> one.judged(1));
        DOC.leavesAll("all", NONE, one -> one.judged(NONE));
    }

    private static void soonest() {
        DOC.promises(13, "SOONEST; NONE: others, not by the end.");
        OneSided x = made();
        DOC.is("now", x.soonest(0, 0), 0);
        DOC.is("0", x.soonest(0, 1), 0);
        DOC.is("1", x.soonest(0, 2), 1);
        x.hours(22);
        DOC.is("22", x.soonest(0, 1), 22);
        DOC.is("not by the end", x.soonest(0, 2), NONE);
        x.hours(2);
        DOC.is("there at the end", x.soonest(0, 0), 24);
        DOC.is("not behind the end", x.soonest(0, 1), NONE);
        DOC.refusesBeyond("person", NONE, 0, 1, (one, person) -> one.soonest(person, 0));
        DOC.refusesBeyond("room", NONE, 0, 2, (one, room) -> one.soonest(0, room));
        DOC.leavesAll("he is there", 1, one -> one.soonest(0, 1));
    }

    private static void errand() {
        DOC.promises(14, "ERRAND, what NONE: the hour; 0: 1 in time, 0 not; 1 + i: the i-th DOOR of the WAY; -2: others, it can't be done, beyond.");
        OneSided x = DOC.made("rooms 2;door aa 0 to 1 plain;door bb 1 to 0 plain;person pp tenant at 0 errand 1 by 1;"
            + "person qq tenant at 1 errand 1 by 24;");
        int[] due = {1, 1, 0, 1, NEVER, NEVER};
        for (int what = -1; what < 5; what++) {
            DOC.is("what " + what, x.errand(0, what), due[what + 1]);
        }
        DOC.is("far beyond", x.errand(0, MOST), NEVER);
        DOC.is("the first door beyond", x.errand(1, 1), NEVER);
        x.hours(22);
        DOC.is("in hour 23", x.errand(0, NONE), 23);
        DOC.is("not in time", x.errand(0, 0), 0);
        DOC.is("the second door", x.errand(0, 2), 1);
        x.hours(1);
        for (int what = -1; what < 4; what++) {
            DOC.is("it can't be done: what " + what, x.errand(0, what), NEVER);
        }
        DOC.refusesBeyond("person", NEVER, 0, 1, (one, person) -> one.errand(person, NONE));
        DOC.refusesBeyond("person in time", NEVER, 0, 1, (one, person) -> one.errand(person, 0));
        DOC.refusesBeyond("person's door", NEVER, 0, 1, (one, person) -> one.errand(person, 1));
        DOC.refusesBeyond("what", NEVER, -1, 1, (one, what) -> one.errand(0, what));
        DOC.leavesAll("the hour", 2, one -> one.errand(0, NONE));
    }

    private static void reach() {
        DOC.promises(15, "REACH, as bits of ROOMS; NONE: others.");
        DOC.is("all", made().reach(0), 7);
        OneSided x = DOC.made("rooms 10;door aa 0 to 9 plain;person pp tenant at 0 errand 9 by 1;");
        DOC.is("the first and the last", x.reach(0), 1 + 512);
        x.hours(24);
        DOC.is("where he is", x.reach(0), 1);
        DOC.refusesBeyond("person", NONE, 0, 1, OneSided::reach);
        DOC.leavesAll("two", 3, one -> one.reach(0));
    }

    private static void stuck() {
        DOC.promises(16, "STUCK, as bits of PEOPLE.");
        OneSided x = made();
        DOC.is("none", x.stuck(), 0);
        x.hours(21);
        DOC.is("none in two hours", x.stuck(), 0);
        x.hours(1);
        DOC.is("both in one", x.stuck(), 3);
        x.hours(2);
        DOC.is("both at the end", x.stuck(), 3);
        DOC.leavesAll("none", 0, OneSided::stuck);
    }

    private static void ring() {
        DOC.promises(17, "RING of a ROOM, as bits; NONE: others.");
        OneSided x = made();
        DOC.is("two", x.ring(0, 0, 0), 3);
        DOC.is("alone", x.ring(2, 0, 22), 4);
        DOC.is("a cat's", x.ring(2, 3, 22), 7);
        DOC.is("hour 23", x.ring(2, 3, 23), 4);
        DOC.refusesBeyond("room", NONE, 0, 2, (one, room) -> one.ring(room, 0, 0));
        DOC.refusesBeyond("sort", NONE, 0, 3, (one, sort) -> one.ring(0, sort, 0));
        DOC.refusesBeyond("hour", NONE, 0, 23, (one, hour) -> one.ring(0, 0, hour));
        DOC.leavesAll("two", 3, one -> one.ring(0, 0, 0));
    }

    private static void homeless() {
        DOC.promises(18, "HOMELESS of a ROOM, as bits; NONE: others.");
        OneSided x = made();
        DOC.is("one", x.homeless(0, 0, 0), 4);
        DOC.is("none", x.homeless(2, 0, 22), 0);
        DOC.is("two", x.homeless(2, 0, 23), 3);
        DOC.is("none for a cat", x.homeless(0, 3, 0), 0);
        DOC.refusesBeyond("room", NONE, 0, 2, (one, room) -> one.homeless(room, 0, 0));
        DOC.refusesBeyond("sort", NONE, 0, 3, (one, sort) -> one.homeless(0, sort, 0));
        DOC.refusesBeyond("hour", NONE, 0, 23, (one, hour) -> one.homeless(0, 0, hour));
        DOC.leavesAll("one", 4, one -> one.homeless(0, 0, 0));
    }

    private static void add() {
        DOC.promises(19, "ADD; NONE: others.");
        OneSided x = made();
        DOC.is("one", x.add(0, 0), 1);
        DOC.is("none", x.add(3, 22), 0);
        DOC.is("three", x.add(2, 23), 3);
        DOC.refusesBeyond("sort", NONE, 0, 3, (one, sort) -> one.add(sort, 0));
        DOC.refusesBeyond("hour", NONE, 0, 23, (one, hour) -> one.add(0, hour));
        DOC.leavesAll("two", 2, one -> one.add(0, 0));
    }

    private static void turn() {
        DOC.promises(20, "TURN, as bits of DOORS (0: none need be); NONE: others, it can't be.");
        OneSided x = made();
        DOC.is("it can't be", x.turn(0, 0), NONE);
        DOC.is("none need be", x.turn(3, 22), 0);
        DOC.is("nor in hour 23", x.turn(3, 23), NONE);
        DOC.is("bit 13", DOC.made(turnThe14th()).turn(0, 0), 1 << 13);
        DOC.refusesBeyond("sort", NONE, 0, 3, (one, sort) -> one.turn(sort, 0));
        DOC.refusesBeyond("hour", NONE, 0, 23, (one, hour) -> one.turn(3, hour));
        DOC.leavesAll("it can't be", NONE, one -> one.turn(0, 0));
    }

    /** Ten blank doors, a way to and fro, and one that would have to lead back. */
    private static String turnThe14th() {
        StringBuilder text = new StringBuilder("rooms 4;");
        for (char name = 'a'; name < 'k'; name++) {
            text.append("door x").append(name).append(" 0 to 1 blank;");
        }
        return text + "door aa 0 to 1 plain;door bb 1 to 2 plain;door cc 2 to 3 plain;door dd 0 to 3 plain;";
    }

    private static void cut() {
        DOC.promises(21, "CUT, as bits of DOORS; NONE: others, the same.");
        OneSided x = made();
        DOC.is("dd", x.cut(0, 1, 0, 0), 1);
        DOC.is("ff", x.cut(1, 2, 0, 22), 4);
        DOC.is("both for a cat", x.cut(0, 1, 3, 22), 3);
        DOC.is("none need be", x.cut(2, 0, 0, 0), 0);
        DOC.is("none in hour 23", x.cut(0, 1, 0, 23), 0);
        for (int room = 0; room < 3; room++) {
            DOC.is("the same", x.cut(room, room, 0, 0), NONE);
        }
        DOC.leavesAll("the same", NONE, one -> one.cut(0, 0, 0, 0));
        DOC.refusesBeyond("from", NONE, 0, 2, (one, from) -> one.cut(from, 1, 0, 0));
        DOC.refusesBeyond("to", NONE, 0, 2, (one, to) -> one.cut(0, to, 0, 0));
        DOC.refusesBeyond("sort", NONE, 0, 3, (one, sort) -> one.cut(0, 1, sort, 0));
        DOC.refusesBeyond("hour", NONE, 0, 23, (one, hour) -> one.cut(0, 1, 0, hour));
        DOC.refusesBeyond("both", NONE, 0, 2, (one, both) -> one.cut(both, both, 0, 0));
        DOC.leavesAll("dd", 1, one -> one.cut(0, 1, 0, 0));
    }

    private static void crowd() {
        DOC.promises(22, "CROWD by an hour (0 to 23); NONE: others, the same, an hour that is over.");
        OneSided x = made();
        DOC.is("hour 0", x.crowd(0, 1, 0), 2);
        DOC.is("hour 22", x.crowd(0, 1, 22), 46);
        DOC.is("hour 23 by the law", x.crowd(0, 1, 23), 46);
        DOC.is("hour 24", x.crowd(0, 1, 24), NONE);
        DOC.is("hour -1", x.crowd(0, 1, -1), NONE);
        for (int now = 1; now <= 24; now++) {
            x.hours(1);
            DOC.is("the hour that was", x.crowd(0, 1, now - 1), NONE);
            int left = Math.max(0, 2 * (Math.min(now, 22) - now + 1));
            DOC.is("the hour now", x.crowd(0, 1, now), now < 24 ? left : NONE);
        }
        DOC.is("all are over", x.crowd(0, 1, 23), NONE);
        OneSided y = made();
        for (int room = 0; room < 3; room++) {
            DOC.is("the same", y.crowd(room, room, 5), NONE);
        }
        DOC.leavesAll("the same", NONE, one -> one.crowd(1, 1, 9));
        DOC.refusesBeyond("from", NONE, 0, 2, (one, from) -> one.crowd(from, 1, 9));
        DOC.refusesBeyond("to", NONE, 0, 2, (one, to) -> one.crowd(0, to, 9));
        DOC.refusesBeyond("hour", NONE, 1, 23, (one, hour) -> one.crowd(0, 1, hour));
        DOC.leavesAll("18", 18, one -> one.crowd(0, 1, 9));
    }

    private static void told() {
        DOC.promises(23, "TOLD: true; false: others, the same, 10 are TOLD.");
        OneSided x = made();
        for (int room = 0; room < 3; room++) {
            DOC.is("the same", x.told(room, room, true), false);
        }
        DOC.is("none are", x.count(7), 0);
        for (int i = 0; i < 10; i++) {
            DOC.is("true", x.told(i % 3, (i + 1) % 3, i % 2 == 0), true);
        }
        for (int i = 0; i < 6; i++) {
            DOC.is("10 are", x.told(i % 3, (i + 1) % 3, i % 2 == 0), false);
        }
        DOC.is("10", x.count(7), 10);
        DOC.leavesAll("the same", 0, one -> number(one.told(1, 1, true)));
        DOC.refusesBeyond("from", 0, 0, 2, (one, from) -> number(one.told(from, 1, true)));
        DOC.refusesBeyond("to", 0, 0, 2, (one, to) -> number(one.told(0, to, false)));
        DOC.refusesBeyond("both", 0, 0, 2, (one, both) -> number(one.told(both, both, false)));
        x.mark(0, false);
        Due.quarter(x, Twins.TOLD);
        DOC.is("anew", x.told(0, 1, true), true);
    }

    private static void found() {
        DOC.promises(24, "FOUND, what 0: how many, 1: DOORS in all, 2: in some, 3: the pair that tells most (NONE: none parts them), 4: the least of FEWEST; NONE: others, no set.");
        OneSided x = made();
        int[] due = {8, 0, 7, 1, 0};
        for (int what = 0; what < 5; what++) {
            DOC.is("what " + what, x.found(what), due[what]);
        }
        x.told(0, 1, true);
        x.told(1, 0, true);
        x.told(1, 2, true);
        int[] all = {1, 7, 7, NONE, 7};
        for (int what = 0; what < 5; what++) {
            DOC.is("of one set, what " + what, x.found(what), all[what]);
        }
        x.told(0, 2, false);
        for (int what = 0; what < 5; what++) {
            DOC.is("no set, what " + what, x.found(what), NONE);
        }
        DOC.refusesBeyond("what", NONE, 0, 4, OneSided::found);
        DOC.leavesAll("in all", 1, one -> one.found(1));
        DOC.leavesAll("the pair", 10, one -> one.found(3));
    }

    private static void rests() {
        DOC.promises(25, "RESTS of two hinges' RENTS, what NONE: how many; i: the i-th as 10 * the first one's price + the second one's (the least first); NONE: others, no hinges, the same.");
        OneSided x = made();
        DOC.is("the cat takes the cheaper one: none rests", x.rests(0, 1, NONE), 0);
        DOC.is("no first", x.rests(0, 1, 0), NONE);
        x.shut(1, true);
        DOC.is("the cat goes by dd as well: dd is dear, ee is any", x.rests(0, 1, NONE), 10);
        DOC.is("the least first", x.rests(0, 1, 0), 90);
        DOC.is("then", x.rests(0, 1, 1), 91);
        DOC.is("the other first, the least first", x.rests(1, 0, 0), 9);
        DOC.is("then", x.rests(1, 0, 1), 19);
        DOC.is("no hinge", x.rests(0, 2, NONE), NONE);
        DOC.is("no hinge first", x.rests(2, 0, 0), NONE);
        DOC.is("no hinge twice", x.rests(2, 2, NONE), NONE);
        DOC.is("the same", x.rests(0, 0, NONE), NONE);
        DOC.is("the same, too", x.rests(1, 1, 0), NONE);
        DOC.leavesAll("no hinge", NONE, one -> one.rests(2, 1, NONE));
        DOC.leavesAll("the same", NONE, one -> one.rests(1, 1, NONE));
        DOC.refusesBeyond("one", NONE, 0, 2, (one, first) -> one.rests(first, 1, NONE));
        DOC.refusesBeyond("other", NONE, 0, 2, (one, second) -> one.rests(0, second, NONE));
        DOC.refusesBeyond("what", NONE, -1, 99, (one, what) -> one.rests(0, 1, what));
        DOC.leavesAll("who is there", 100, one -> one.rests(0, 1, NONE));
    }

    private static void chase() {
        DOC.promises(26, "CHASE of a thief who is in a ROOM by a tenant who is in a ROOM; NONE: others, he is never caught.");
        OneSided x = made();
        DOC.is("at once", x.chase(2, 2), 0);
        DOC.is("into the corner", x.chase(2, 1), 2);
        DOC.is("never", x.chase(1, 2), NONE);
        DOC.is("into the room that he came from", x.chase(0, 1), 2);
        x.hours(23);
        DOC.is("not in hour 23", x.chase(2, 1), NONE);
        DOC.refusesBeyond("thief", NONE, 0, 2, (one, thief) -> one.chase(thief, 0));
        DOC.refusesBeyond("tenant", NONE, 0, 2, (one, tenant) -> one.chase(0, tenant));
        DOC.refusesBeyond("both", NONE, 0, 2, (one, both) -> one.chase(both, both));
        DOC.leavesAll("at once", 0, one -> one.chase(0, 0));
    }

    private static void run() {
        DOC.promises(27, "RUN, what 0: how many in time, 1: how many not in the end; NONE: others.");
        OneSided x = made();
        DOC.is("in time", x.run(0), 2);
        DOC.is("not", x.run(1), 0);
        DOC.refusesBeyond("what", NONE, 0, 1, OneSided::run);
        DOC.leavesAll("in time", 2, one -> one.run(0));
        DOC.leavesAll("not", 0, one -> one.run(1));
    }

    private static void years() {
        DOC.promises(28, "YEARS by a SEED (0 to 9999), what 0: all together, 1: the worst day's; NONE: others, no DOOR.");
        OneSided x = made();
        for (int seed : new int[] {0, 1, 9999}) {
            for (int days : new int[] {1, 60}) {
                int all = x.years(seed, days, 0);
                int worst = x.years(seed, days, 1);
                DOC.is("all of " + seed, all >= worst * days && all <= 2 * days, true);
                DOC.is("the worst of " + seed, worst >= 0 && worst <= 2, true);
                DOC.is("one day is its worst", days > 1 || all == worst, true);
            }
        }
        OneSided none = DOC.made("rooms 2;person pp cat at 0 errand 0 by 1;");
        DOC.is("no door", none.years(0, 1, 0), NONE);
        DOC.is("no door, the worst", none.years(9999, 60, 1), NONE);
        DOC.is("one door", DOC.made("rooms 2;door aa 0 to 1 blank;person pp cat at 0 errand 0 by 1;").years(9999, 60, 1), 1);
        DOC.refusesBeyond("seed", NONE, 0, 9999, (one, seed) -> one.years(seed, 1, 0));
        DOC.refusesBeyond("days", NONE, 1, 60, (one, days) -> one.years(0, days, 0));
        DOC.refusesBeyond("what", NONE, 0, 1, (one, what) -> one.years(0, 1, what));
        DOC.leavesAll("days 0", NONE, one -> one.years(0, 0, 0));
        DOC.leavesAll("60 days", 1, one -> one.years(9999, 60, 0) >= 0 ? 1 : 0);
    }

    private static void mark() {
        DOC.promises(29, "A MARK is laid (back: gone back to): true; false: none such, nothing is on it (back).");
        OneSided x = made();
        for (int mark = 0; mark < 4; mark++) {
            DOC.is("nothing is on it", x.mark(mark, true), false);
            DOC.is("laid", x.mark(mark, false), true);
            DOC.is("back", x.mark(mark, true), true);
            DOC.is("back again", x.mark(mark, true), true);
            DOC.is("laid again", x.mark(mark, false), true);
        }
        DOC.refusesBeyond("lay", 0, 0, 3, (one, mark) -> number(one.mark(mark, false)));
        DOC.refusesBeyond("back", 0, 0, 3, (one, mark) -> number(one.mark(mark, true)));
        DOC.leavesAll("nothing is on 0", 0, one -> number(one.mark(0, true)));
        DOC.leavesAll("nothing is on 3", 0, one -> number(one.mark(3, true)));
        OneSided y = made();
        y.hours(1);
        y.mark(0, false);
        y.hours(1);
        y.mark(0, false);
        y.hours(1);
        y.mark(0, true);
        DOC.is("what was laid last is on it", y.count(3), 2);
    }

    private static void count() {
        DOC.promises(30, "What 0: ROOMS, 1: DOORS, 2: PEOPLE, 3: hour, 4: DOORS SHUT, 5: errands done, 6: lines of the DAY, 7: TOLD, 8: what can be undone, 9: signs on the TAPE. NONE for another what.");
        OneSided x = new Twins().one;
        int[] due = {3, 3, 2, 1, 1, 2, 2, 2, 4, 4};
        for (int what = 0; what < 10; what++) {
            DOC.is("what " + what, x.count(what), due[what]);
        }
        DOC.refusesBeyond("what", NONE, 0, 9, OneSided::count);
    }
}
