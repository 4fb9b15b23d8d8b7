/** Each promise by hand: ordinary inputs, the edges that the document names, and wrong inputs. */
public final class PromisesTest {
    private static final Due DUE = new Due("PromisesTest");
    private static final int NONE = OneSided.NONE;
    private static final int LEAST = Integer.MIN_VALUE;
    private static final int MOST = Integer.MAX_VALUE;

    /** A ring of three rooms, with a way off it and back by a turning door. */
    private static final String RING = "rooms 4; door ab 0 to 1 plain; door bc 1 to 2 plain holds 2;"
        + "door ca 2 to 0 plain open 3 to 20; door cd 2 to 3 turning; person tom tenant at 0 errand 2 by 4;"
        + "person ann child at 0 errand 1 by 3; person tib cat at 2 errand 2 by 1;";

    public static void main(String[] args) {
        newObject();
        feed();
        quarter();
        day();
        door();
        person();
        leads();
        leadsByLaw();
        go();
        hours();
        shut();
        undo();
        judged();
        soonest();
        errand();
        ways();
        reach();
        stuck();
        ring();
        homeless();
        add();
        turn();
        cut();
        crowd();
        told();
        found();
        rests();
        chase();
        run();
        years();
        mark();
        count();
        DUE.end();
    }

    private static void is(String call, long got, long want) {
        DUE.same(call, got, want);
    }

    private static void is(String call, boolean got, boolean want) {
        DUE.same(call, got, want);
    }

    private static OneSided made(String text) {
        return DUE.made(text);
    }

    private static void newObject() {
        OneSided x = new OneSided();
        is("1 NONE", NONE, -1);
        is("1 rooms", x.count(0), 2);
        for (int what = 1; what <= 9; what++) {
            is("1 nothing else " + what, x.count(what), 0);
        }
        is("1 no door", x.door(0, 0), NONE);
        is("1 no person", x.person(0, 0), NONE);
        is("1 no mark", x.mark(0, true), false);
        is("1 nothing is undone", x.undo(), false);
        is("1 an empty day", x.judged(NONE), NONE);
        is("1 alone", x.ring(1, 0, 0), 2);
    }

    private static void feed() {
        OneSided x = new OneSided();
        is("2 nothing", x.feed(0, 0, 0), 0);
        is("2 kept are 10, 32, 126", x.feed(0x0a207e1f7f80ff09L, 0, 0), 3);
        is("2 all 24", x.feed(0x2020202020202020L, 0x2020202020202020L, 0x2020202020202020L), 27);
        is("2 a negative one", x.feed(0xff20ff20ff20ff20L, -1, 0x20), 32);
        is("2 counted", x.count(9), 32);
        x.quarter();
        is("2 taken", x.count(9), 0);
        x.feed(0x726f6f6d73203420L, 0x3b, 0);
        is("2 the highest first", x.quarter(), 0);
        is("2 as told", x.count(0), 4);
        is("2 in three", x.feed(0x726fL, 0x6f6d7320L, 0x353bL), 8);
        is("2 read", x.quarter(), 0);
        is("2 five", x.count(0), 5);
        is("2 to 1000", Due.feed(x, "rooms 6;" + " ".repeat(990)), 998);
        is("2 beyond is left out", x.feed(0x2020202020202020L, 0x7878787878787878L, 0), 1000);
        is("2 no more", x.feed(0x78, 0x78, 0x78), 1000);
        is("2 nothing wrong came", x.quarter(), 0);
        is("2 six", x.count(0), 6);
    }

    private static void quarter() {
        OneSided x = made(RING);
        x.go(0, 0);
        x.hours(2);
        x.shut(1, true);
        x.told(0, 1, true);
        x.mark(1, false);
        is("3 a day", Due.day(x, "hour;"), 0);
        is("3 a fault", Due.quarter(x, "rooms 4; door a 0 to 4 plain;"), 4 + 16 * 21);
        is("3 all stays: doors", x.count(1), 4);
        is("3 all stays: hour", x.count(3), 2);
        is("3 all stays: shut", x.count(4), 1);
        is("3 all stays: where", x.person(0, 4), 1);
        is("3 all stays: lines", x.count(6), 1);
        is("3 all stays: told", x.count(7), 1);
        is("3 all stays: undone", x.count(8), 3);
        is("3 all stays: law", x.leads(0, 0, 0, 0), 1);
        is("3 all stays: the mark", x.mark(1, true), true);
        x.hours(1);
        is("3 anew", Due.quarter(x, RING), 0);
        int[] wanted = {4, 4, 3, 0, 0, 1, 0, 0, 0, 0};
        for (int what = 0; what < wanted.length; what++) {
            is("3 anew " + what, x.count(what), wanted[what]);
        }
        is("3 all at home", x.person(0, 4), 0);
        is("3 none went", x.person(0, 6), 0);
        is("3 none through", x.door(0, 9), 0);
        is("3 no mark is there", x.mark(1, true), false);
        is("3 the empty tape", x.quarter(), 1);
        is("3 a law is gone", Due.quarter(x, "rooms 2;let 0;door a 0 to 1 plain;"), 0);
        is("3 by the law", x.leads(0, 0, 0, 0), NONE);
        Due.quarter(x, "rooms 2;door a 0 to 1 plain;");
        is("3 without", x.leads(0, 0, 0, 0), 1);
    }

    private static void day() {
        OneSided x = made(RING);
        is("4 two lines", Due.day(x, "go tom ab; hour;"), 0);
        is("4 they are there", x.count(6), 2);
        is("4 a fault", Due.day(x, "hour; hour; hour; hour"), 1 + 16 * 22);
        is("4 all stays", x.count(6), 2);
        is("4 still judged", x.judged(0), 1);
        is("4 the empty tape", x.day(), 0);
        is("4 an empty day", x.count(6), 0);
        is("4 most lines", Due.day(x, "hour;".repeat(24)), 0);
        is("4 24", x.count(6), 24);
        is("4 one more", Due.day(x, "hour;".repeat(25)), 5 + 16 * 120);
        is("4 no person", Due.day(x, "go ab ab;"), 2 + 16 * 3);
        is("4 no door", Due.day(x, "go tom tom;"), 2 + 16 * 7);
        is("4 nothing by hand is done", x.person(0, 4), 0);
        is("4 it can't be undone", x.undo(), false);
    }

    private static void door() {
        OneSided x = made("rooms 3;door a 2 to 0 hinge open 4 to 9 for soldier holds 7 price 3;"
            + "door b 0 to 1 plain;door c 1 to 2 turning;door d 1 to 0 blank;person p cat at 0 errand 1 by 1;");
        int[][] wanted = {
            {2, 2, 0, 4, 9, 1, 7, 3, 0, 0}, {0, 0, 1, 0, 24, NONE, 1, 0, 0, 0},
            {1, 1, 2, 0, 24, NONE, 1, 0, 0, 0}, {3, 1, 0, 0, 24, NONE, 1, 0, 0, 0}
        };
        for (int door = 0; door < 4; door++) {
            for (int what = 0; what < 10; what++) {
                is("5 door " + door + " " + what, x.door(door, what), wanted[door][what]);
            }
        }
        x.go(0, 1);
        x.shut(2, true);
        is("5 through", x.door(1, 9), 1);
        is("5 shut", x.door(2, 8), 1);
        x.hours(1);
        is("5 in this hour", x.door(1, 9), 0);
        int[][] others = {{4, 0}, {-1, 0}, {0, 10}, {0, -1}, {LEAST, 0}, {MOST, 0}, {0, LEAST}, {0, MOST}};
        for (int[] other : others) {
            is("5 others", x.door(other[0], other[1]), NONE);
        }
    }

    private static void person() {
        OneSided x = made("rooms 3;person a soldier at 2 errand 1 by 24;person b child at 1 errand 1 by 1;"
            + "door d 2 to 1 plain;");
        int[][] wanted = {{1, 2, 1, 24, 2, 0, 0}, {2, 1, 1, 1, 1, 1, 0}};
        for (int person = 0; person < 2; person++) {
            for (int what = 0; what < 7; what++) {
                is("6 person " + person + " " + what, x.person(person, what), wanted[person][what]);
            }
        }
        x.go(0, 0);
        is("6 where", x.person(0, 4), 1);
        is("6 done", x.person(0, 5), 1);
        is("6 went", x.person(0, 6), 1);
        x.hours(1);
        is("6 in this hour", x.person(0, 6), 0);
        is("6 done stays", x.person(0, 5), 1);
        int[][] others = {{2, 0}, {-1, 0}, {0, 7}, {0, -1}, {LEAST, 0}, {MOST, 0}, {0, LEAST}, {0, MOST}};
        for (int[] other : others) {
            is("6 others", x.person(other[0], other[1]), NONE);
        }
    }

    private static void leads() {
        OneSided x = made("rooms 3;door a 0 to 1 plain;door b 0 to 1 turning;door c 0 to 1 hinge open 5 to 7;"
            + "door d 0 to 1 blank;door e 0 to 1 plain for child;");
        is("7 plain", x.leads(0, 0, 0, 0), 1);
        is("7 not back", x.leads(0, 0, 1, 0), NONE);
        is("7 not from elsewhere", x.leads(0, 3, 2, 0), NONE);
        is("7 a cat", x.leads(0, 3, 1, 0), 0);
        is("7 a cat ahead", x.leads(0, 3, 0, 0), 1);
        is("7 turning", x.leads(1, 0, 0, 11), 1);
        is("7 turned", x.leads(1, 0, 0, 12), NONE);
        is("7 turned back", x.leads(1, 0, 1, 12), 0);
        is("7 turned to the end", x.leads(1, 1, 1, 23), 0);
        is("7 a cat at noon", x.leads(1, 3, 0, 12), 1);
        is("7 ahead of its hours", x.leads(2, 0, 0, 4), NONE);
        is("7 first hour", x.leads(2, 0, 0, 5), 1);
        is("7 last hour", x.leads(2, 0, 0, 6), 1);
        is("7 behind its hours", x.leads(2, 0, 0, 7), NONE);
        is("7 hours for a cat", x.leads(2, 3, 0, 7), NONE);
        is("7 blank", x.leads(3, 0, 0, 0), NONE);
        is("7 blank for a cat", x.leads(3, 3, 0, 0), NONE);
        is("7 for another", x.leads(4, 0, 0, 0), NONE);
        is("7 for a child", x.leads(4, 2, 0, 0), 1);
        is("7 for cats each", x.leads(4, 3, 1, 0), 0);
        x.shut(0, true);
        is("7 shut", x.leads(0, 0, 0, 0), NONE);
        is("7 shut for a cat", x.leads(0, 3, 0, 0), NONE);
        int[][] others = {{-1, 0, 0, 0}, {5, 0, 0, 0}, {1, -1, 0, 0}, {1, 4, 0, 0}, {1, 0, -1, 0}, {1, 0, 3, 0},
            {1, 0, 0, -1}, {1, 0, 0, 24}, {MOST, 0, 0, 0}, {1, MOST, 0, 0}, {1, 0, LEAST, 0}, {1, 0, 0, MOST}};
        for (int[] o : others) {
            is("7 others", x.leads(o[0], o[1], o[2], o[3]), NONE);
        }
    }

    private static boolean lets(String law, int sort, int room, int hour) {
        OneSided x = made("rooms 3;door a 1 to 2 plain price 4;let " + law + ";");
        return x.leads(0, sort, room, hour) != NONE;
    }

    private static void leadsByLaw() {
        is("7 0", lets("0", 0, 1, 0), false);
        is("7 what is not 0 is so", lets("0 - 7", 0, 1, 0), true);
        is("7 time", lets("time = 9", 0, 1, 9), true);
        is("7 another time", lets("time = 9", 0, 1, 8), false);
        is("7 sort", lets("sort = 2", 2, 1, 0), true);
        is("7 another sort", lets("sort = 2", 1, 1, 0), false);
        is("7 cost", lets("cost = 4", 0, 1, 0), true);
        is("7 room", lets("room = 2", 0, 1, 0), true);
        is("7 room for a cat back", lets("room = 1", 3, 2, 0), true);
        is("7 room for a cat ahead", lets("room = 1", 3, 1, 0), false);
        is("7 not", lets("not 3", 0, 1, 0), false);
        is("7 not is 1", lets("not 0 = 1", 0, 1, 0), true);
        is("7 not binds a part", lets("not 0 + 1 = 2", 0, 1, 0), true);
        is("7 from the left", lets("1 or 1 and 0", 0, 1, 0), false);
        is("7 from the left too", lets("0 and 0 or 1", 0, 1, 0), true);
        is("7 and is 1", lets("( 5 and 3 ) = 1", 0, 1, 0), true);
        is("7 or is 1", lets("( 0 or 3 ) = 1", 0, 1, 0), true);
        is("7 less", lets("1 < 2", 0, 1, 0), true);
        is("7 not less", lets("2 < 2", 0, 1, 0), false);
        is("7 same is 0", lets("( 2 = 3 ) = 0", 0, 1, 0), true);
        is("7 products first", lets("1 + 2 * 3 = 7", 0, 1, 0), true);
        is("7 minus from the left", lets("9 - 3 - 2 = 4", 0, 1, 0), true);
        is("7 brackets", lets("( 1 + 2 ) * 3 = 9", 0, 1, 0), true);
        is("7 ints wrap", lets("9999 * 9999 * 9999 < 0 - 1", 0, 1, 0), 9999 * 9999 * 9999 < -1);
        is("7 wrap to 0", lets("1024 * 1024 * 4096", 0, 1, 0), false);
    }

    private static void go() {
        OneSided x = made("rooms 3;door a 0 to 1 plain holds 2;door b 1 to 0 plain open 1 to 2;door c 0 to 2 blank;"
            + "person p tenant at 0 errand 1 by 9;person q tenant at 0 errand 2 by 9;"
            + "person r child at 0 errand 0 by 9;");
        is("8 not through b", x.go(0, 1), NONE);
        is("8 not through a blank one", x.go(0, 2), NONE);
        is("8 p", x.go(0, 0), 1);
        is("8 p's errand", x.person(0, 5), 1);
        is("8 once an hour", x.go(0, 1), NONE);
        is("8 q", x.go(1, 0), 1);
        is("8 q's isn't", x.person(1, 5), 0);
        is("8 two went", x.door(0, 9), 2);
        is("8 it holds two", x.go(2, 0), NONE);
        is("8 r's is from the beginning on", x.person(2, 5), 1);
        x.hours(1);
        is("8 the next hour", x.go(2, 0), 1);
        is("8 back", x.go(0, 1), 0);
        is("8 it holds one", x.go(1, 1), NONE);
        x.hours(1);
        is("8 it's over", x.go(1, 1), NONE);
        x.shut(0, true);
        is("8 shut", x.go(0, 0), NONE);
        x.shut(0, false);
        x.hours(24);
        is("8 nobody at the end", x.go(0, 0), NONE);
        int[][] others = {{-1, 0}, {3, 0}, {0, -1}, {0, 3}, {LEAST, MOST}, {MOST, LEAST}};
        int undone = x.count(8);
        for (int[] o : others) {
            is("8 others", x.go(o[0], o[1]), NONE);
        }
        is("8 what can't be isn't undone", x.count(8), undone);
    }

    private static void hours() {
        OneSided x = made(RING);
        is("9 none", x.hours(0), NONE);
        is("9 below", x.hours(-1), NONE);
        is("9 too many", x.hours(25), NONE);
        is("9 least", x.hours(LEAST), NONE);
        is("9 most", x.hours(MOST), NONE);
        is("9 nothing was", x.count(3), 0);
        is("9 nothing to undo", x.count(8), 0);
        is("9 one", x.hours(1), 1);
        is("9 ten", x.hours(10), 11);
        is("9 at most 24", x.hours(20), 24);
        is("9 the end", x.hours(1), 24);
        is("9 three left", x.hours(24), 24);
        OneSided y = made(RING);
        is("9 24 at once", y.hours(24), 24);
    }

    private static void shut() {
        OneSided x = made(RING);
        is("10 it is open", x.shut(0, false), false);
        is("10 shut", x.shut(0, true), true);
        is("10 it is shut", x.shut(0, true), false);
        is("10 one", x.count(4), 1);
        is("10 open again", x.shut(0, false), true);
        is("10 no door", x.shut(4, true), false);
        is("10 below", x.shut(-1, true), false);
        is("10 least", x.shut(LEAST, true), false);
        is("10 most", x.shut(MOST, true), false);
        is("10 undone", x.count(8), 2);
        x.hours(24);
        is("10 at the end too", x.shut(3, true), true);
        is("10 that one", x.door(3, 8), 1);
    }

    private static void undo() {
        OneSided x = made(RING);
        x.go(0, 0);
        x.go(1, 0);
        x.hours(2);
        x.shut(1, true);
        x.told(0, 1, true);
        Due.day(x, "hour;");
        is("11 three", x.count(8), 3);
        is("11 open again", x.undo(), true);
        is("11 no door is shut", x.count(4), 0);
        is("11 two hours back", x.undo(), true);
        is("11 hour 0", x.count(3), 0);
        is("11 he went in this hour", x.person(0, 6), 1);
        is("11 one through", x.door(0, 9), 1);
        is("11 so none more", x.go(1, 0), NONE);
        is("11 he comes back", x.undo(), true);
        is("11 he is at home", x.person(0, 4), 0);
        is("11 none through", x.door(0, 9), 0);
        is("11 nothing more", x.undo(), false);
        is("11 told stays", x.count(7), 1);
        is("11 the day stays", x.count(6), 1);
        x.go(1, 0);
        is("11 done", x.person(1, 5), 1);
        x.undo();
        is("11 not done", x.person(1, 5), 0);
        for (int i = 0; i < 20; i++) {
            x.shut(i % 4, i / 4 % 2 == 0);
        }
        is("11 the last 16", x.count(8), 16);
        for (int i = 0; i < 16; i++) {
            is("11 one by one", x.undo(), true);
        }
        is("11 the first four stay", x.count(4), 4);
        is("11 not a 17th", x.undo(), false);
    }

    private static void judged() {
        OneSided x = made(RING);
        is("12 no day", x.judged(NONE), NONE);
        is("12 at home", x.judged(2), 2);
        Due.day(x, "go tom ab; go ann ab; hour; go ann ab; go tom bc; go tom cd; hour; go tom cd; hour;go tom ca;");
        is("12 the first line", x.judged(NONE), 1);
        is("12 tom", x.judged(0), 3);
        is("12 ann", x.judged(1), 1);
        is("12 tib", x.judged(2), 2);
        x.shut(0, true);
        x.hours(5);
        is("12 from hour 0, none shut", x.judged(0), 3);
        is("12 nothing by hand", x.person(0, 4), 0);
        Due.day(x, "go tom ab; hour; go tom bc; hour; hour; go tom ca;");
        is("12 all can", x.judged(NONE), NONE);
        is("12 home", x.judged(0), 0);
        Due.day(x, "hour;".repeat(23) + "go tom ab;");
        is("12 the last hour", x.judged(NONE), NONE);
        for (int other : new int[] {-2, 3, LEAST, MOST}) {
            is("12 others", x.judged(other), -2);
        }
    }

    private static void soonest() {
        OneSided x = made(RING);
        is("13 now", x.soonest(0, 0), 0);
        is("13 in the same hour", x.soonest(0, 1), 0);
        is("13 one door an hour", x.soonest(0, 2), 1);
        is("13 then", x.soonest(0, 3), 2);
        is("13 a cat", x.soonest(2, 0), 1);
        x.go(0, 0);
        is("13 who has gone", x.soonest(0, 2), 1);
        is("13 he is there", x.soonest(0, 1), 0);
        is("13 as it opens", x.soonest(0, 0), 3);
        x.hours(11);
        is("13 it turns at noon", x.soonest(0, 3), NONE);
        is("13 not by the end", x.soonest(1, 3), NONE);
        x.shut(1, true);
        is("13 shut", x.soonest(0, 2), NONE);
        x.hours(24);
        is("13 at the end", x.soonest(0, 1), 24);
        is("13 nobody goes", x.soonest(1, 1), NONE);
        int[][] others = {{-1, 0}, {3, 0}, {0, -1}, {0, 4}, {LEAST, 0}, {0, MOST}};
        for (int[] o : others) {
            is("13 others", x.soonest(o[0], o[1]), NONE);
        }
    }

    private static void errand() {
        OneSided x = made(RING);
        is("14 home again", x.errand(0, NONE), 3);
        is("14 in time", x.errand(0, 0), 1);
        is("14 way", x.errand(0, 1) * 100 + x.errand(0, 2) * 10 + x.errand(0, 3), 12);
        is("14 beyond", x.errand(0, 4), -2);
        is("14 far beyond", x.errand(0, MOST), -2);
        is("14 ann", x.errand(1, NONE), 3);
        is("14 just in time", x.errand(1, 0), 1);
        is("14 tib is done", x.errand(2, NONE), 0);
        is("14 no way is needed", x.errand(2, 1), -2);
        x.hours(2);
        is("14 now", x.errand(2, NONE), 2);
        is("14 too late", x.errand(2, 0), 0);
        is("14 ann later", x.errand(1, NONE), 4);
        is("14 ann too late", x.errand(1, 0), 0);
        x.shut(2, true);
        is("14 no way home", x.errand(0, NONE), -2);
        is("14 not in time either", x.errand(0, 0), -2);
        is("14 no door", x.errand(0, 1), -2);
        x.shut(2, false);
        x.go(0, 0);
        is("14 one has gone", x.errand(0, NONE), 4);
        is("14 from where he is", x.errand(0, 1), 1);
        x.hours(1);
        x.go(0, 1);
        x.hours(1);
        is("14 done, only home", x.errand(0, 1), 2);
        is("14 and no more", x.errand(0, 2), -2);
        x.hours(24);
        is("14 at the end", x.errand(2, NONE), 24);
        is("14 not at the end", x.errand(0, NONE), -2);
        int[][] others = {{-1, 0}, {3, NONE}, {0, -2}, {LEAST, 0}, {MOST, 0}, {0, LEAST}};
        for (int[] o : others) {
            is("14 others", x.errand(o[0], o[1]), -2);
        }
    }

    private static void ways() {
        OneSided x = made("rooms 4;door a 0 to 2 plain;door b 2 to 1 plain;door c 0 to 1 plain open 1 to 9;"
            + "door d 1 to 0 plain open 4 to 9;door e 0 to 1 plain;person p tenant at 0 errand 1 by 9;");
        is("14 so soon", x.errand(0, NONE), 4);
        is("14 the fewest doors, then the least row", x.errand(0, 1), 2);
        is("14 and home", x.errand(0, 2), 3);
        is("14 two doors", x.errand(0, 3), -2);
        x.shut(2, true);
        is("14 another", x.errand(0, 1), 4);
        x.shut(4, true);
        is("14 three doors", x.errand(0, 1) * 100 + x.errand(0, 2) * 10 + x.errand(0, 3), 13);
    }

    private static void reach() {
        OneSided x = made(RING);
        is("15 all", x.reach(0), 15);
        is("15 all for a cat", x.reach(2), 15);
        x.shut(1, true);
        is("15 two", x.reach(0), 3);
        x.shut(1, false);
        x.hours(12);
        is("15 it has turned", x.reach(0), 7);
        x.hours(11);
        is("15 one door", x.reach(0), 3);
        x.go(0, 0);
        is("15 he has gone", x.reach(0), 2);
        x.hours(1);
        is("15 at the end", x.reach(1), 1);
        for (int other : new int[] {-1, 3, LEAST, MOST}) {
            is("15 others", x.reach(other), NONE);
        }
    }

    private static void stuck() {
        OneSided x = made(RING);
        is("16 none", x.stuck(), 0);
        x.shut(2, true);
        is("16 tom and ann", x.stuck(), 3);
        x.shut(2, false);
        x.hours(18);
        is("16 too late", x.stuck(), 3);
        x.hours(24);
        is("16 tib is done", x.stuck(), 3);
    }

    private static void ring() {
        OneSided x = made(RING);
        is("17 at first", x.ring(0, 0, 0), 1);
        is("17 three", x.ring(0, 0, 3), 7);
        is("17 off it", x.ring(3, 0, 3), 8);
        is("17 a cat's", x.ring(3, 3, 3), 15);
        x.shut(0, true);
        is("17 shut", x.ring(0, 0, 3), 1);
        x.hours(24);
        is("17 in any hour", x.ring(0, 3, 3), 15);
        triples(x, 17);
    }

    private static void homeless() {
        OneSided x = made(RING);
        is("18 at first", x.homeless(0, 0, 0), 14);
        is("18 all but the last", x.homeless(3, 0, 0), 0);
        is("18 who went off", x.homeless(0, 0, 3), 8);
        is("18 turned", x.homeless(0, 0, 12), 0);
        is("18 none comes", x.homeless(3, 0, 12), 7);
        is("18 a cat", x.homeless(0, 3, 0), 0);
        x.shut(3, true);
        is("18 shut", x.homeless(0, 3, 0), 8);
        triples(x, 18);
    }

    private static void triples(OneSided x, int promise) {
        int[][] others = {{-1, 0, 0}, {4, 0, 0}, {0, -1, 0}, {0, 4, 0}, {0, 0, -1}, {0, 0, 24},
            {LEAST, 0, 0}, {0, MOST, 0}, {0, 0, MOST}};
        for (int[] o : others) {
            int got = promise == 17 ? x.ring(o[0], o[1], o[2]) : x.homeless(o[0], o[1], o[2]);
            is(promise + " others", got, NONE);
        }
    }

    private static void add() {
        OneSided x = made(RING);
        is("19 one back", x.add(0, 0), 1);
        is("19 one home", x.add(0, 3), 1);
        is("19 none for a cat", x.add(3, 3), 0);
        x.shut(0, true);
        x.shut(1, true);
        x.shut(2, true);
        is("19 two and a way", x.add(0, 3), 3);
        is("19 a cat goes both ways", x.add(3, 3), 2);
        int[][] others = {{-1, 0}, {4, 0}, {0, -1}, {0, 24}, {LEAST, 0}, {0, MOST}};
        for (int[] o : others) {
            is("19 others", x.add(o[0], o[1]), NONE);
        }
        OneSided y = made("rooms 5;door a 0 to 1 plain;door b 0 to 2 plain;door c 0 to 3 plain;door d 4 to 0 plain;");
        is("19 three ends", y.add(0, 0), 3);
        OneSided z = made("rooms 10;");
        is("19 ten alone", z.add(0, 0), 10);
        is("19 ten for a cat", z.add(3, 0), 9);
        OneSided w = made("rooms 3;door a 0 to 1 plain;let room = 1;");
        is("19 one way for a cat", w.add(3, 0), 2);
    }

    private static void turn() {
        OneSided x = made("rooms 3;door a 0 to 1 plain;door b 0 to 2 plain;door c 1 to 2 turning;");
        is("20 one of two", x.turn(0, 0), 2);
        is("20 at noon", x.turn(0, 12), 1);
        is("20 none for a cat", x.turn(3, 0), 0);
        x.shut(0, true);
        is("20 it can't be", x.turn(0, 0), NONE);
        is("20 a cat still", x.turn(3, 0), 0);
        x.shut(1, true);
        is("20 a cat can't either", x.turn(3, 0), NONE);
        OneSided y = made("rooms 2;door a 0 to 1 plain;door b 0 to 1 hinge;door c 0 to 1 blank;");
        is("20 the least of equal ones", y.turn(0, 0), 1);
        OneSided z = made("rooms 2;door a 0 to 1 plain;door b 0 to 1 hinge;let room = 1 or cost = 1;");
        is("20 by law not back", z.turn(0, 0), NONE);
        OneSided w = made("rooms 2;door a 0 to 1 plain;door b 1 to 0 plain;");
        is("20 none need be", w.turn(0, 0), 0);
        int[][] others = {{-1, 0}, {4, 0}, {0, -1}, {0, 24}, {LEAST, 0}, {0, MOST}};
        for (int[] o : others) {
            is("20 others", w.turn(o[0], o[1]), NONE);
        }
    }

    private static void cut() {
        OneSided x = made("rooms 4;door a 0 to 1 plain;door b 0 to 2 plain;door c 1 to 3 plain;door d 2 to 3 plain;"
            + "door e 0 to 3 blank;");
        is("21 the least pair", x.cut(0, 3, 0, 0), 3);
        is("21 one", x.cut(0, 1, 0, 0), 1);
        is("21 none", x.cut(3, 0, 0, 0), 0);
        is("21 a cat back", x.cut(3, 0, 3, 0), 3);
        is("21 a cat round", x.cut(0, 1, 3, 0), 3);
        x.shut(0, true);
        is("21 one is shut", x.cut(0, 3, 0, 0), 2);
        int[][] others = {{1, 1, 0, 0}, {-1, 0, 0, 0}, {4, 0, 0, 0}, {0, -1, 0, 0}, {0, 4, 0, 0}, {0, 1, -1, 0},
            {0, 1, 4, 0}, {0, 1, 0, -1}, {0, 1, 0, 24}, {LEAST, 1, 0, 0}, {0, MOST, 0, 0}};
        for (int[] o : others) {
            is("21 others", x.cut(o[0], o[1], o[2], o[3]), NONE);
        }
    }

    private static void crowd() {
        OneSided x = made("rooms 4;door a 0 to 1 plain holds 3;door b 1 to 2 plain holds 2;door c 0 to 2 plain open 2 to 4;"
            + "door d 0 to 2 plain for soldier holds 9;person p tenant at 0 errand 1 by 9;");
        is("22 not yet", x.crowd(0, 2, 0), 0);
        is("22 two", x.crowd(0, 2, 1), 2);
        is("22 and by c", x.crowd(0, 2, 2), 5);
        is("22 again", x.crowd(0, 2, 3), 8);
        is("22 c is over", x.crowd(0, 2, 4), 10);
        is("22 in the hour itself", x.crowd(0, 1, 0), 3);
        is("22 to the end", x.crowd(0, 2, 23), 48);
        is("22 none", x.crowd(2, 0, 23), 0);
        x.go(0, 0);
        is("22 as it holds", x.crowd(0, 1, 0), 3);
        x.hours(3);
        is("22 from now", x.crowd(0, 2, 4), 3);
        is("22 an hour that is over", x.crowd(0, 2, 2), NONE);
        x.shut(1, true);
        is("22 shut", x.crowd(0, 2, 23), 1);
        int[][] others = {{1, 1, 5}, {-1, 0, 5}, {4, 0, 5}, {0, -1, 5}, {0, 4, 5}, {0, 1, -1}, {0, 1, 24},
            {LEAST, 1, 5}, {0, MOST, 5}, {0, 1, MOST}, {0, 1, LEAST}};
        for (int[] o : others) {
            is("22 others", x.crowd(o[0], o[1], o[2]), NONE);
        }
        x.hours(24);
        is("22 all is over", x.crowd(0, 1, 23), NONE);
    }

    private static void told() {
        OneSided x = made("rooms 3;door a 0 to 1 plain;");
        int[][] others = {{1, 1}, {-1, 0}, {3, 0}, {0, -1}, {0, 3}, {LEAST, 0}, {0, MOST}};
        for (int[] o : others) {
            is("23 others", x.told(o[0], o[1], true), false);
        }
        for (int i = 0; i < 10; i++) {
            is("23 ten", x.told(0, 1 + i % 2, i % 2 == 0), true);
        }
        is("23 not an 11th", x.told(0, 1, true), false);
        is("23 counted", x.count(7), 10);
        is("23 nothing to undo", x.count(8), 0);
    }

    private static void found() {
        OneSided x = made("rooms 3;door a 0 to 1 plain;door b 1 to 2 plain;door c 0 to 2 plain open 0 to 1;"
            + "door d 0 to 2 blank;");
        is("24 all sets", x.found(0), 16);
        is("24 none in all", x.found(1), 0);
        is("24 each in some", x.found(2), 15);
        is("24 the next walk", x.found(3), 1);
        is("24 fewest", x.found(4), 0);
        x.told(0, 2, true);
        is("24 c, or a and b", x.found(0), 10);
        is("24 fewest is c", x.found(4), 4);
        is("24 it tells most", x.found(3), 1);
        x.told(1, 2, false);
        is("24 not b", x.found(0), 4);
        is("24 c in all", x.found(1), 4);
        is("24 not b in some", x.found(2), 13);
        is("24 a is left", x.found(3), 1);
        x.told(0, 1, true);
        is("24 a and c", x.found(1), 5);
        is("24 none parts them", x.found(3), NONE);
        is("24 fewest are two", x.found(4), 5);
        x.hours(1);
        is("24 not in this hour", x.found(1), NONE);
        is("24 no set", x.found(0), NONE);
        x.undo();
        x.shut(2, true);
        is("24 c is shut", x.found(4), NONE);
        x.shut(2, false);
        x.shut(3, true);
        is("24 d is shut", x.found(0), 1);
        for (int other : new int[] {-1, 5, LEAST, MOST}) {
            is("24 others", x.found(other), NONE);
        }
        OneSided y = made("rooms 4;door a 0 to 1 plain;door b 0 to 3 plain;door c 3 to 2 plain;door d 1 to 2 plain;");
        y.told(0, 2, true);
        is("24 the least of equal ones: b and c, not a and d", y.found(4), 6);
    }

    private static void rests() {
        OneSided x = made("rooms 3;door p 0 to 2 hinge;door q 0 to 2 hinge price 5;door r 0 to 1 plain price 3;"
            + "door s 1 to 2 plain;person a tenant at 0 errand 2 by 9;person b tenant at 0 errand 2 by 9;");
        is("25 how many", x.rests(0, 1, NONE), 3);
        is("25 the least", x.rests(0, 1, 0), 0);
        is("25 the next", x.rests(0, 1, 1), 10);
        is("25 the last", x.rests(0, 1, 2), 11);
        is("25 no more", x.rests(0, 1, 3), NONE);
        is("25 the other first", x.rests(1, 0, 2), 11);
        is("25 the other's", x.rests(1, 0, 1), 1);
        x.shut(1, true);
        is("25 alone, as dear as the way round", x.rests(0, 1, NONE), 10);
        is("25 at 3", x.rests(0, 1, 0), 30);
        x.shut(1, false);
        x.hours(24);
        is("25 nobody goes", x.rests(0, 1, NONE), 100);
        int[][] others = {{0, 0, NONE}, {0, 2, NONE}, {2, 0, NONE}, {-1, 0, NONE}, {0, 4, NONE}, {0, 1, -2},
            {0, 1, LEAST}, {0, 1, MOST}, {LEAST, 0, 0}, {0, MOST, 0}};
        for (int[] o : others) {
            is("25 others", x.rests(o[0], o[1], o[2]), NONE);
        }
        OneSided y = made("rooms 2;door p 0 to 1 hinge;door q 0 to 1 hinge;person a tenant at 0 errand 1 by 9;"
            + "let cost < 5;");
        is("25 the price is E's cost", y.rests(0, 1, NONE), 3);
        y.shut(1, true);
        is("25 no dearer than the law lets", y.rests(0, 1, 0), 40);
    }

    private static void chase() {
        OneSided x = made("rooms 4;door a 0 to 1 plain;door b 1 to 2 plain;door c 2 to 3 plain;door d 3 to 2 plain for child;");
        is("26 at once", x.chase(2, 2), 0);
        is("26 a dead end", x.chase(3, 2), 2);
        is("26 two doors", x.chase(3, 1), 4);
        is("26 he runs to the end", x.chase(1, 0), 6);
        is("26 never", x.chase(0, 1), NONE);
        x.shut(2, true);
        is("26 shut", x.chase(3, 2), NONE);
        is("26 a nearer end", x.chase(1, 0), 4);
        x.hours(24);
        is("26 nobody goes", x.chase(1, 0), NONE);
        is("26 at once at the end", x.chase(1, 1), 0);
        int[][] others = {{-1, 0}, {4, 0}, {0, -1}, {0, 4}, {LEAST, 0}, {0, MOST}};
        for (int[] o : others) {
            is("26 others", x.chase(o[0], o[1]), NONE);
        }
    }

    private static void run() {
        OneSided x = made("rooms 2;door a 0 to 1 plain;door b 1 to 0 plain holds 9;person p tenant at 0 errand 1 by 1;"
            + "person q tenant at 0 errand 1 by 1;person r tenant at 0 errand 1 by 24;"
            + "person s child at 0 errand 0 by 1;");
        is("27 in time", x.run(0), 3);
        is("27 all are home", x.run(1), 0);
        is("27 nothing by hand", x.count(3), 0);
        x.go(1, 0);
        is("27 q was first", x.run(0), 3);
        x.hours(2);
        is("27 too late", x.run(0), 1);
        is("27 home all the same", x.run(1), 0);
        x.hours(20);
        is("27 not all by the end", x.run(1), 1);
        x.shut(1, true);
        is("27 shut", x.run(1), 3);
        x.hours(24);
        is("27 at the end", x.run(1), 3);
        is("27 in time at the end", x.run(0), 0);
        for (int other : new int[] {-1, 2, LEAST, MOST}) {
            is("27 others", x.run(other), NONE);
        }
        OneSided y = made("rooms 2;person p cat at 0 errand 0 by 24;person q cat at 0 errand 0 by 23;");
        y.hours(24);
        is("27 by 24", y.run(0), 1);
    }

    /** From a seed of 0: g is 12345 (0), then 1406932606 (21468), 654583775 (9988), 1449466924 (22117). */
    private static void years() {
        OneSided x = made("rooms 2;door a 0 to 1 plain;door b 1 to 0 plain;person p tenant at 0 errand 1 by 2;"
            + "person q child at 1 errand 1 by 1;person r tenant at 0 errand 1 by 1;");
        is("28 a is shut", x.years(0, 1, 0), 1);
        is("28 and stays so", x.years(0, 2, 0), 4);
        is("28 the worst", x.years(0, 2, 1), 1);
        x.shut(0, true);
        is("28 from now's on", x.years(0, 1, 0), 3);
        is("28 as ahead", x.count(4), 1);
        x.shut(0, false);
        x.go(0, 0);
        x.hours(5);
        is("28 from hour 0 and home", x.years(0, 2, 0), 4);
        is("28 he is where he was", x.person(0, 4), 1);
        int[][] others = {{-1, 1, 0}, {10000, 1, 0}, {0, 0, 0}, {0, 61, 0}, {0, 1, -1}, {0, 1, 2},
            {LEAST, 1, 0}, {MOST, 1, 0}, {0, LEAST, 0}, {0, MOST, 0}, {0, 1, MOST}};
        for (int[] o : others) {
            is("28 others", x.years(o[0], o[1], o[2]), NONE);
        }
        is("28 the most days", x.years(9999, 60, 0) >= 60, true);
        is("28 no door", made("rooms 2;").years(0, 1, 0), NONE);
        is("28 nobody", made("rooms 2;door a 0 to 1 plain;").years(0, 1, 1), 0);
    }

    private static void mark() {
        OneSided x = made(RING);
        is("29 nothing is on it", x.mark(0, true), false);
        x.go(0, 0);
        x.shut(3, true);
        x.told(0, 1, true);
        Due.day(x, "hour;");
        is("29 laid", x.mark(0, false), true);
        is("29 that stays to undo", x.count(8), 2);
        x.hours(3);
        x.go(1, 0);
        x.shut(3, false);
        x.told(0, 2, false);
        Due.day(x, "hour;hour;");
        is("29 another", x.mark(3, false), true);
        is("29 back", x.mark(0, true), true);
        is("29 the hour", x.count(3), 0);
        is("29 where", x.person(1, 4), 0);
        is("29 errands", x.person(1, 5), 0);
        is("29 who went", x.person(0, 6), 1);
        is("29 shut", x.door(3, 8), 1);
        is("29 told", x.count(7), 1);
        is("29 the day", x.count(6), 1);
        is("29 nothing can be undone", x.undo(), false);
        is("29 forth", x.mark(3, true), true);
        is("29 the hour there", x.count(3), 3);
        is("29 told there", x.count(7), 2);
        is("29 the day there", x.count(6), 2);
        is("29 errands there", x.person(1, 5), 1);
        x.mark(0, false);
        x.mark(0, true);
        is("29 laid again", x.count(3), 3);
        for (int other : new int[] {-1, 4, LEAST, MOST}) {
            is("29 none such", x.mark(other, false), false);
            is("29 none such back", x.mark(other, true), false);
        }
    }

    private static void count() {
        OneSided x = made(RING);
        x.go(0, 0);
        x.go(2, 1);
        x.hours(7);
        x.go(0, 1);
        x.shut(0, true);
        x.shut(2, true);
        x.told(1, 0, true);
        Due.day(x, "hour;hour;go tom ab;");
        Due.feed(x, "abc");
        int[] wanted = {4, 4, 3, 7, 2, 2, 3, 1, 6, 3};
        for (int what = 0; what < wanted.length; what++) {
            is("30 count " + what, x.count(what), wanted[what]);
        }
        for (int other : new int[] {-1, 10, LEAST, MOST}) {
            is("30 others", x.count(other), NONE);
        }
    }
}
