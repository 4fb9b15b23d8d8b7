import java.util.ArrayList;
import java.util.List;

/** Sentences of the document's terms (2) that name a bound: doors, going, hours, shutting, undoing, days judged. */
public final class BoundsByHandTest {
    private static final Sentences DOC = new Sentences("BoundsByHandTest");
    private static final int NONE = OneSided.NONE;
    private static final int TENANT = 0;
    private static final int CAT = 3;

    /** Two rooms, a door there that holds two, one back, four people. */
    private static final String TOLD = "rooms 3;door aa 0 to 1 plain holds 2;door bb 1 to 0 plain;door cc 0 to 2 blank;"
        + "person pp tenant at 0 errand 1 by 9;person qq tenant at 0 errand 1 by 9;person rr child at 0 errand 0 by 9;"
        + "person ss cat at 1 errand 1 by 9;";

    public static void main(String[] args) {
        ways();
        noon();
        cats();
        doorHours();
        doorLets();
        onceAnHour();
        asManyAsItHolds();
        errandDone();
        theEnd();
        shutAndOpen();
        undoAll();
        undoSixteen();
        undoWraps();
        undoNotMore();
        judgedFromHour0();
        judgedToTheEnd();
        judgedFirstLine();
        judgedLeftOut();
        DOC.end();
    }

    private static void ways() {
        DOC.says("A DOOR leads from its first ROOM to its second one");
        OneSided x = DOC.made("rooms 10;door aa 0 to 9 plain;door bb 9 to 0 hinge;");
        DOC.is("there", x.leads(0, TENANT, 0, 0), 9);
        DOC.is("not back", x.leads(0, TENANT, 9, 0), NONE);
        DOC.is("a hinge", x.leads(1, TENANT, 9, 0), 0);
        DOC.is("not from a third room", x.leads(0, TENANT, 1, 0), NONE);
        DOC.is("a cat neither", x.leads(0, CAT, 8, 0), NONE);
    }

    private static void noon() {
        DOC.says("a turning one from hour 12 on the other way");
        OneSided x = DOC.made("rooms 2;door aa 0 to 1 turning;door bb 0 to 1 plain;door cc 0 to 1 hinge;");
        for (int hour = 0; hour < 24; hour++) {
            DOC.is("there at " + hour, x.leads(0, TENANT, 0, hour), hour < 12 ? 1 : NONE);
            DOC.is("back at " + hour, x.leads(0, TENANT, 1, hour), hour < 12 ? NONE : 0);
            DOC.is("a plain one at " + hour, x.leads(1, TENANT, 0, hour), 1);
            DOC.is("a hinge at " + hour, x.leads(2, TENANT, 0, hour), 1);
        }
        OneSided y = DOC.made("rooms 2;door aa 0 to 1 turning;person pp tenant at 0 errand 1 by 9;");
        y.hours(11);
        DOC.is("by hand at 11", y.go(0, 0), 1);
        DOC.is("not back at 11", y.go(0, 0), NONE);
        y.hours(1);
        DOC.is("back at 12", y.go(0, 0), 0);
    }

    private static void cats() {
        DOC.says("a cat goes through each both ways.");
        OneSided x = DOC.made("rooms 2;door aa 0 to 1 turning;door bb 0 to 1 plain;door cc 0 to 1 hinge;door dd 0 to 1 blank;");
        for (int hour = 0; hour < 24; hour++) {
            for (int door = 0; door < 3; door++) {
                DOC.is("there", x.leads(door, CAT, 0, hour), 1);
                DOC.is("back", x.leads(door, CAT, 1, hour), 0);
            }
            DOC.is("but no blank one", x.leads(3, CAT, hour % 2, hour), NONE);
        }
    }

    private static void doorHours() {
        DOC.says("It lets one by in hours from its first one to ahead of its second");
        OneSided x = DOC.made("rooms 2;door aa 0 to 1 plain open 5 to 7;door bb 0 to 1 plain open 0 to 1;"
            + "door cc 0 to 1 plain open 23 to 24;door dd 0 to 1 turning open 12 to 13;");
        for (int hour = 0; hour < 24; hour++) {
            DOC.is("5 to 7 at " + hour, x.leads(0, TENANT, 0, hour), hour == 5 || hour == 6 ? 1 : NONE);
            DOC.is("0 to 1 at " + hour, x.leads(1, TENANT, 0, hour), hour == 0 ? 1 : NONE);
            DOC.is("23 to 24 at " + hour, x.leads(2, TENANT, 0, hour), hour == 23 ? 1 : NONE);
            DOC.is("12 to 13 back at " + hour, x.leads(3, TENANT, 1, hour), hour == 12 ? 0 : NONE);
            DOC.is("a cat at " + hour, x.leads(0, CAT, 1, hour), hour == 5 || hour == 6 ? 0 : NONE);
        }
    }

    private static void doorLets() {
        DOC.says("if it's no blank one, isn't SHUT, is for all or for one's SORT (for cats each), and E of let is not 0.");
        OneSided x = DOC.made("rooms 2;door aa 0 to 1 blank;door bb 0 to 1 plain for tenant;door cc 0 to 1 plain for soldier;"
            + "door dd 0 to 1 plain for child;door ee 0 to 1 plain for cat;door ff 0 to 1 plain;");
        for (int sort = 0; sort < 4; sort++) {
            DOC.is("blank", x.leads(0, sort, 0, 0), NONE);
            for (int only = 0; only < 4; only++) {
                boolean lets = sort == only || sort == CAT;
                DOC.is("for " + only + " lets " + sort, x.leads(1 + only, sort, 0, 0), lets ? 1 : NONE);
            }
            DOC.is("for all", x.leads(5, sort, 0, 0), 1);
        }
        x.shut(5, true);
        for (int sort = 0; sort < 4; sort++) {
            DOC.is("shut", x.leads(5, sort, 0, 0), NONE);
        }
        x.shut(5, false);
        DOC.is("open again", x.leads(5, TENANT, 0, 0), 1);
        OneSided y = DOC.made("rooms 2;door aa 0 to 1 plain;let time - 3;");
        DOC.is("E is below 0", y.leads(0, TENANT, 0, 2), 1);
        DOC.is("E is 0", y.leads(0, TENANT, 0, 3), NONE);
        DOC.is("E is above 0", y.leads(0, TENANT, 0, 4), 1);
        DOC.is("a cat by E too", y.leads(0, CAT, 1, 3), NONE);
    }

    private static void onceAnHour() {
        DOC.says("GO through a DOOR: one who hasn't gone in this hour");
        OneSided x = DOC.made(TOLD);
        DOC.is("once", x.go(0, 0), 1);
        DOC.is("not twice", x.go(0, 1), NONE);
        DOC.is("who can't go hasn't gone", x.go(3, 2), NONE);
        DOC.is("so he goes", x.go(3, 1), 0);
        x.hours(1);
        DOC.is("the next hour", x.go(0, 1), 0);
        x.undo();
        DOC.is("undone, he hasn't", x.go(0, 1), 0);
        x.undo();
        x.undo();
        DOC.is("in the hour ahead he has", x.go(0, 1), NONE);
    }

    private static void asManyAsItHolds() {
        DOC.says("if it lets him by now and fewer than it holds have gone through it in this hour");
        OneSided x = DOC.made(TOLD);
        DOC.is("not by a blank one", x.go(0, 2), NONE);
        DOC.is("not from elsewhere", x.go(0, 1), NONE);
        DOC.is("the first", x.go(0, 0), 1);
        DOC.is("the second", x.go(1, 0), 1);
        DOC.is("no third", x.go(2, 0), NONE);
        DOC.is("a cat the other way neither", x.go(3, 0), NONE);
        DOC.is("two went", x.door(0, 9), 2);
        DOC.is("by another one", x.go(3, 1), 0);
        x.hours(1);
        DOC.is("none in the next hour", x.door(0, 9), 0);
        DOC.is("so there is room", x.go(2, 0), 1);
        DOC.is("one without holds", x.go(0, 1), 0);
        DOC.is("no second", x.go(1, 1), NONE);
        x.undo();
        DOC.is("undone, there is room", x.go(1, 1), 0);
        StringBuilder six = new StringBuilder("rooms 2;door aa 0 to 1 plain holds 5;");
        for (char name = 'p'; name < 'v'; name++) {
            six.append("person ").append(name).append(name).append(" tenant at 0 errand 1 by 9;");
        }
        OneSided y = DOC.made(six.toString());
        for (int i = 0; i < 6; i++) {
            DOC.is("five of six", y.go(i, 0), i < 5 ? 1 : NONE);
        }
    }

    private static void errandDone() {
        DOC.says("he is in the other ROOM; his errand is done if that is its ROOM (or if it is HOME from the beginning on).");
        OneSided x = DOC.made(TOLD);
        int[] done = {0, 0, 1, 1};
        for (int i = 0; i < 4; i++) {
            DOC.is("at first " + i, x.person(i, 5), done[i]);
        }
        DOC.is("two at first", x.count(5), 2);
        x.go(0, 0);
        DOC.is("there", x.person(0, 4), 1);
        DOC.is("done", x.person(0, 5), 1);
        DOC.is("not the other's", x.person(1, 5), 0);
        x.hours(1);
        x.go(0, 1);
        DOC.is("back", x.person(0, 4), 0);
        DOC.is("it stays done", x.person(0, 5), 1);
        x.go(3, 0);
        DOC.is("away from it", x.person(3, 5), 1);
        x.undo();
        x.undo();
        x.undo();
        DOC.is("done there", x.person(0, 5), 1);
        x.undo();
        DOC.is("undone", x.person(0, 5), 0);
    }

    private static void theEnd() {
        DOC.says("HOUR: the next one (24 is the end: nobody goes any more).");
        OneSided x = DOC.made(TOLD);
        for (int hour = 1; hour <= 23; hour++) {
            DOC.is("the next one", x.hours(1), hour);
        }
        DOC.is("one goes in hour 23", x.go(0, 0), 1);
        DOC.is("the end", x.hours(1), 24);
        for (int person = 0; person < 4; person++) {
            for (int door = 0; door < 3; door++) {
                DOC.is("nobody goes", x.go(person, door), NONE);
            }
        }
        DOC.is("none went in it", x.person(0, 6), 0);
        DOC.is("none through in it", x.door(0, 9), 0);
        DOC.is("no hour behind it", x.hours(1), 24);
        DOC.is("by many neither", x.hours(24), 24);
        DOC.is("nobody goes still", x.go(1, 0), NONE);
    }

    private static void shutAndOpen() {
        DOC.says("SHUT a DOOR, or open it again.");
        OneSided x = DOC.made(TOLD);
        DOC.is("shut", x.shut(0, true), true);
        DOC.is("nobody goes", x.go(0, 0), NONE);
        DOC.is("open again", x.shut(0, false), true);
        DOC.is("one goes", x.go(0, 0), 1);
        DOC.is("shut behind him", x.shut(0, true), true);
        DOC.is("who went through went", x.door(0, 9), 1);
        DOC.is("a blank one", x.shut(2, true), true);
        DOC.is("two", x.count(4), 2);
    }

    private static void undoAll() {
        DOC.says("UNDO: all these, the last 16, one by one.");
        OneSided x = DOC.made(TOLD);
        x.go(0, 0);
        x.go(1, 0);
        x.hours(5);
        x.shut(1, true);
        x.shut(1, false);
        x.shut(0, true);
        DOC.is("six", x.count(8), 6);
        DOC.is("opened", x.undo(), true);
        DOC.is("none is shut", x.count(4), 0);
        DOC.is("shut again", x.undo(), true);
        DOC.is("that one", x.door(1, 8), 1);
        DOC.is("opened again", x.undo(), true);
        DOC.is("none", x.count(4), 0);
        DOC.is("five hours at once", x.undo(), true);
        DOC.is("hour 0", x.count(3), 0);
        DOC.is("two through", x.door(0, 9), 2);
        DOC.is("he went", x.person(1, 6), 1);
        DOC.is("he comes back", x.undo(), true);
        DOC.is("he didn't go", x.person(1, 6), 0);
        DOC.is("at home", x.person(1, 4), 0);
        DOC.is("one through", x.door(0, 9), 1);
        DOC.is("the first too", x.undo(), true);
        DOC.is("at home", x.person(0, 4), 0);
        DOC.is("none left", x.count(8), 0);
        DOC.is("nothing can be", x.undo(), false);
    }

    private static void undoSixteen() {
        DOC.says("UNDO: all these, the last 16, one by one.");
        OneSided x = DOC.made(TOLD);
        for (int i = 1; i <= 20; i++) {
            x.hours(1);
            DOC.is("at most 16", x.count(8), Math.min(i, 16));
        }
        for (int i = 1; i <= 16; i++) {
            DOC.is("one", x.undo(), true);
            DOC.is("an hour back", x.count(3), 20 - i);
            DOC.is("so many are left", x.count(8), 16 - i);
        }
        DOC.is("no 17th", x.undo(), false);
        DOC.is("hour 4 stays", x.count(3), 4);
        OneSided y = DOC.made(TOLD);
        for (int i = 0; i < 16; i++) {
            y.hours(1);
        }
        for (int i = 0; i < 16; i++) {
            DOC.is("all 16", y.undo(), true);
        }
        DOC.is("to the beginning", y.count(3), 0);
        DOC.is("no more", y.undo(), false);
    }

    /** Far more is done and undone than 16, each time from another place of the row that keeps it. */
    private static void undoWraps() {
        DOC.says("UNDO: all these, the last 16, one by one.");
        for (int undone = 1; undone <= 17; undone += 2) {
            OneSided x = DOC.made(TOLD);
            List<Integer> past = new ArrayList<>();
            int shut = 0;
            for (int call = 0; call < 100; call++) {
                boolean back = call % 20 >= 20 - undone;
                if (back) {
                    DOC.is("undo", x.undo(), !past.isEmpty());
                    shut = past.isEmpty() ? shut : past.remove(past.size() - 1);
                } else {
                    int door = call % 3;
                    past.add(shut);
                    shut ^= 1 << door;
                    x.shut(door, (shut >> door & 1) != 0);
                    if (past.size() > 16) {
                        past.remove(0);
                    }
                }
                int seen = x.door(0, 8) + 2 * x.door(1, 8) + 4 * x.door(2, 8);
                DOC.is("shut at call " + call, seen, shut);
            }
        }
    }

    private static void undoNotMore() {
        DOC.says("UNDO: all these");
        OneSided x = DOC.made(TOLD);
        x.go(0, 1);
        x.go(9, 0);
        x.hours(0);
        x.hours(25);
        x.shut(0, false);
        x.shut(3, true);
        DOC.is("what was refused isn't there", x.count(8), 0);
        x.told(0, 1, true);
        Due.day(x, "hour;");
        x.mark(0, false);
        Due.feed(x, "hour;");
        DOC.is("nor what is told, marked or fed", x.count(8), 0);
        x.shut(0, true);
        x.told(1, 0, true);
        Due.day(x, "hour;");
        x.undo();
        DOC.is("the day stays", x.count(6), 2);
        DOC.is("what is told stays", x.count(7), 2);
    }

    private static void judgedFromHour0() {
        DOC.says("JUDGED: the DAY from hour 0, all at HOME, no DOOR SHUT");
        OneSided x = DOC.made(TOLD);
        Due.day(x, "go pp aa;hour;go pp bb;go ss aa;");
        x.go(0, 0);
        x.hours(24);
        x.shut(0, true);
        x.shut(1, true);
        DOC.is("all can", x.judged(NONE), NONE);
        DOC.is("pp is back", x.judged(0), 0);
        DOC.is("ss went", x.judged(3), 0);
        DOC.is("qq stayed", x.judged(1), 0);
        DOC.is("by hand he is there", x.person(0, 4), 1);
        DOC.is("by hand it is 24", x.count(3), 24);
        DOC.is("by hand two are shut", x.count(4), 2);
        DOC.is("four can be undone", x.count(8), 4);
    }

    private static void judgedToTheEnd() {
        DOC.says("(hour: the next one, none behind 24)");
        OneSided x = DOC.made("rooms 2;door aa 0 to 1 plain open 22 to 23;door bb 0 to 1 plain open 23 to 24;"
            + "person pp tenant at 0 errand 1 by 9;");
        Due.day(x, "hour;".repeat(23) + "go pp bb;");
        DOC.is("in hour 23", x.judged(0), 1);
        DOC.is("it can be", x.judged(NONE), NONE);
        Due.day(x, "hour;".repeat(23) + "go pp aa;");
        DOC.is("not in hour 22", x.judged(NONE), 23);
        Due.day(x, "hour;".repeat(22) + "go pp bb;go pp aa;");
        DOC.is("not yet in hour 23", x.judged(NONE), 22);
        DOC.is("in hour 22", x.judged(0), 1);
        Due.day(x, "hour;".repeat(24));
        DOC.is("24 hours can be", x.judged(NONE), NONE);
    }

    private static void judgedFirstLine() {
        DOC.says("the first line (from 0) that can't be");
        OneSided x = DOC.made(TOLD);
        String[] days = {"go pp bb;", "go pp aa;go pp bb;", "hour;go pp aa;go qq aa;go rr aa;", "go pp aa;go qq aa;go ss aa;",
            "go pp aa;hour;go pp cc;go pp aa;", "hour;hour;hour;go rr cc;go rr cc;"};
        int[] lines = {0, 1, 3, 2, 2, 3};
        for (int i = 0; i < days.length; i++) {
            DOC.is("day", Due.day(x, days[i]), 0);
            DOC.is(days[i], x.judged(NONE), lines[i]);
        }
        Due.day(x, "hour;".repeat(23) + "go pp bb;");
        DOC.is("the 24th", x.judged(NONE), 23);
        Due.day(x, "");
        DOC.is("an empty day", x.judged(NONE), NONE);
        DOC.is("all at home", x.judged(3), 1);
    }

    private static void judgedLeftOut() {
        DOC.says("lines that can't be are left out: where one is at last.");
        OneSided x = DOC.made(TOLD);
        Due.day(x, "go pp bb;go pp aa;go pp bb;go qq cc;go qq aa;go rr aa;hour;go pp bb;go qq bb;go rr aa;");
        DOC.is("the first of them", x.judged(NONE), 0);
        int[] where = {0, 1, 1, 1};
        for (int i = 0; i < 4; i++) {
            DOC.is("person " + i, x.judged(i), where[i]);
        }
    }
}
