import java.math.BigInteger;

/** Sentences of the document's terms (3) that name a bound: plans, webs of doors, crowds, walks, rents, years, marks. */
public final class BoundsOfPlansTest {
    private static final Sentences DOC = new Sentences("BoundsOfPlansTest");
    private static final int NONE = OneSided.NONE;
    private static final int NEVER = -2;
    private static final int TENANT = 0;
    private static final int CHILD = 2;
    private static final int CAT = 3;

    /** Four rooms in a ring, each door holding one; home again takes four hours. */
    private static final String ROUND = "rooms 4;door ab 0 to 1 plain;door bc 1 to 2 plain;door cd 2 to 3 plain;"
        + "door da 3 to 0 plain;person pp tenant at 0 errand 2 by 3;person qq tenant at 0 errand 2 by 24;"
        + "person rr child at 1 errand 1 by 1;";

    public static void main(String[] args) {
        forOneAlone();
        soonest();
        errand();
        inTime();
        way();
        reach();
        stuck();
        hourThatNeverPasses();
        ring();
        homeless();
        add();
        turn();
        cut();
        crowd();
        told();
        foundSets();
        foundPair();
        foundFewest();
        rentsPrices();
        rentsWays();
        rentsRest();
        chase();
        run();
        runCounts();
        draws();
        years();
        yearsAsAhead();
        marks();
        DOC.end();
    }

    private static OneSided round(int hour) {
        OneSided x = DOC.made(ROUND);
        if (hour > 0) {
            x.hours(hour);
        }
        return x;
    }

    private static void forOneAlone() {
        DOC.says("From now on, where all are, DOORS as they are SHUT, for one alone (whatever DOORS hold; who has gone in this hour goes in the next one at the earliest)");
        OneSided x = round(0);
        DOC.is("ab holds one", x.go(0, 0), 1);
        DOC.is("it is full", x.go(1, 0), NONE);
        DOC.is("whatever it holds", x.soonest(1, 1), 0);
        DOC.is("home for qq all the same", x.errand(1, NONE), 3);
        DOC.is("pp has gone: the next hour", x.soonest(0, 2), 1);
        DOC.is("and home", x.errand(0, NONE), 3);
        x.hours(1);
        DOC.is("pp goes in this one", x.soonest(0, 2), 1);
        x.shut(1, true);
        DOC.is("shut", x.soonest(0, 2), NONE);
        DOC.is("shut for qq", x.errand(1, NONE), NEVER);
        DOC.is("qq comes so far", x.reach(1), 3);
        x.shut(1, false);
        DOC.is("open again", x.soonest(0, 2), 1);
        OneSided last = round(23);
        last.go(0, 0);
        DOC.is("gone in the last hour", last.soonest(0, 2), NONE);
        DOC.is("he stays", last.reach(0), 2);
    }

    private static void soonest() {
        DOC.says("SOONEST he is in a ROOM: the hour in which he is in it (going takes him there in the same hour, one DOOR an hour; now if he's there).");
        for (int hour = 0; hour <= 24; hour++) {
            OneSided x = round(hour);
            for (int room = 0; room < 4; room++) {
                int due = room == 0 ? hour : hour + room - 1;
                DOC.is("room " + room + " from " + hour, x.soonest(0, room), room == 0 || due <= 23 ? due : NONE);
            }
        }
        OneSided x = DOC.made("rooms 3;door ab 0 to 1 plain open 3 to 4;door bc 1 to 2 plain open 3 to 5;"
            + "person pp tenant at 0 errand 2 by 9;");
        DOC.is("as it opens", x.soonest(0, 1), 3);
        DOC.is("one door an hour", x.soonest(0, 2), 4);
        x.hours(4);
        DOC.is("too late", x.soonest(0, 1), NONE);
    }

    private static void errand() {
        DOC.says("ERRAND: the soonest hour in which he is at HOME with his errand done");
        for (int hour = 0; hour <= 24; hour++) {
            OneSided x = round(hour);
            DOC.is("round from " + hour, x.errand(1, NONE), hour <= 20 ? hour + 3 : NEVER);
            DOC.is("done at home at " + hour, x.errand(2, NONE), hour);
        }
        OneSided x = round(20);
        x.go(1, 0);
        DOC.is("he has gone in this hour", x.errand(1, NONE), 23);
        x.hours(1);
        DOC.is("and goes on", x.errand(1, NONE), 23);
        x.hours(1);
        DOC.is("an hour was lost", x.errand(1, NONE), NEVER);
        OneSided y = round(0);
        y.go(2, 1);
        DOC.is("done, but not at home", y.errand(2, NONE), 3);
        y.shut(3, true);
        DOC.is("and never again", y.errand(2, NONE), NEVER);
    }

    private static void inTime() {
        DOC.says("DONE in time if that is no later than his by.");
        OneSided x = round(0);
        DOC.is("in hour 3, by 3", x.errand(0, 0), 1);
        x.hours(1);
        DOC.is("in hour 4, by 3", x.errand(0, 0), 0);
        DOC.is("by 24", x.errand(1, 0), 1);
        DOC.is("in hour 1, by 1", x.errand(2, 0), 1);
        x.hours(1);
        DOC.is("in hour 2, by 1", x.errand(2, 0), 0);
        x.hours(22);
        DOC.is("not by the end", x.errand(1, 0), NEVER);
        OneSided y = DOC.made("rooms 2;person pp cat at 0 errand 0 by 24;person qq cat at 0 errand 0 by 23;");
        y.hours(24);
        DOC.is("at the end, by 24", y.errand(0, 0), 1);
        DOC.is("at the end, by 23", y.errand(1, 0), 0);
    }

    private static void isWay(OneSided x, int... doors) {
        for (int i = 0; i < doors.length; i++) {
            DOC.is("door " + i + " of the way", x.errand(0, 1 + i), doors[i]);
        }
        DOC.is("no more", x.errand(0, 1 + doors.length), NEVER);
    }

    private static void way() {
        DOC.says("WAY: the DOORS by which, the first row (by the least numbers) of those with the fewest DOORS by which he is there so soon.");
        isWay(round(0), 0, 1, 2, 3);
        isWay(round(20), 0, 1, 2, 3);
        isWay(round(21));
        isWay(DOC.made("rooms 2;person pp cat at 0 errand 0 by 1;"));
        String two = "rooms 3;door aa 0 to 1 plain;door bb 0 to 1 plain;door cc 1 to 0 plain;door dd 1 to 0 plain;"
            + "door ee 1 to 2 plain;door ff 2 to 0 plain;person pp tenant at 0 errand 1 by 9;";
        OneSided x = DOC.made(two);
        isWay(x, 0, 2);
        x.shut(0, true);
        isWay(x, 1, 2);
        x.shut(2, true);
        isWay(x, 1, 3);
        x.shut(3, true);
        isWay(x, 1, 4, 5);
        x.shut(5, true);
        isWay(x);
        OneSided late = DOC.made("rooms 3;door aa 0 to 2 plain;door bb 2 to 1 plain;door cc 0 to 1 plain open 2 to 3;"
            + "door dd 1 to 0 plain open 3 to 4;person pp tenant at 0 errand 1 by 9;");
        isWay(late, 2, 3);
        DOC.is("so soon", late.errand(0, NONE), 3);
        OneSided soon = DOC.made("rooms 3;door aa 0 to 1 plain open 2 to 9;door bb 0 to 2 plain;door cc 2 to 1 plain;"
            + "door dd 1 to 0 plain;person pp tenant at 0 errand 1 by 9;");
        isWay(soon, 1, 2, 3);
        OneSided cat = DOC.made("rooms 3;door aa 2 to 1 plain;door bb 1 to 0 plain;person pp cat at 0 errand 2 by 9;");
        isWay(cat, 1, 0, 0, 1);
        DOC.is("so soon", cat.errand(0, NONE), 3);
        OneSided noon = DOC.made("rooms 2;door aa 0 to 1 turning;door bb 1 to 0 plain open 13 to 14;person pp tenant at 0 errand 1 by 9;");
        isWay(noon, 0, 0);
        DOC.is("back at noon", noon.errand(0, NONE), 12);
        OneSided waits = DOC.made("rooms 4;door aa 0 to 1 plain open 3 to 4;door bb 0 to 2 plain open 2 to 3;door cc 2 to 1 plain open 2 to 4;"
            + "door dd 1 to 3 plain open 3 to 5;door ee 3 to 0 plain open 5 to 6;person pp tenant at 0 errand 3 by 9;");
        isWay(waits, 0, 3, 4);
        DOC.is("so soon", waits.errand(0, NONE), 5);
        waits.shut(0, true);
        isWay(waits, 1, 2, 3, 4);
        OneSided closed = DOC.made("rooms 4;door aa 0 to 1 plain;door bb 1 to 3 plain open 0 to 1;door cc 1 to 2 plain;door dd 2 to 3 plain;"
            + "door ee 3 to 0 plain;person pp tenant at 0 errand 3 by 9;");
        isWay(closed, 0, 2, 3, 4);
        OneSided gone = round(0);
        gone.go(0, 0);
        isWay(gone, 1, 2, 3);
        gone.hours(1);
        gone.go(0, 1);
        isWay(gone, 2, 3);
    }

    private static void reach() {
        DOC.says("REACH: ROOMS he can be in by the end.");
        int[] rooms = {15, 7, 3, 1};
        for (int hour = 0; hour <= 24; hour++) {
            int due = hour <= 21 ? 15 : rooms[hour - 21];
            DOC.is("from hour " + hour, round(hour).reach(0), due);
        }
        OneSided x = DOC.made("rooms 10;person pp tenant at 9 errand 0 by 1;");
        DOC.is("the last room alone", x.reach(0), 1 << 9);
    }

    private static void stuck() {
        DOC.says("STUCK: who can't do his errand and be at HOME by the end.");
        for (int hour = 0; hour <= 24; hour++) {
            DOC.is("from hour " + hour, round(hour).stuck(), hour <= 20 ? 0 : 3);
        }
        OneSided x = round(20);
        x.go(0, 0);
        x.hours(1);
        DOC.is("who has gone on", x.stuck(), 2);
        x.shut(3, true);
        DOC.is("shut", x.stuck(), 3);
        DOC.is("nobody there", DOC.made("rooms 2;").stuck(), 0);
        StringBuilder six = new StringBuilder("rooms 2;");
        for (char name = 'p'; name < 'v'; name++) {
            six.append("person ").append(name).append(name).append(" tenant at 0 errand 1 by 9;");
        }
        DOC.is("all six", DOC.made(six.toString()).stuck(), 63);
    }

    /** Ten rooms in a ring, open for one hour. */
    private static OneSided tenOpenAt(int hour) {
        StringBuilder text = new StringBuilder("rooms 10;");
        for (int i = 0; i < 10; i++) {
            text.append("door d").append((char) ('a' + i)).append(' ').append(i).append(" to ").append((i + 1) % 10);
            text.append(" plain open ").append(hour).append(" to ").append(hour + 1).append(';');
        }
        return DOC.made(text.toString());
    }

    private static void hourThatNeverPasses() {
        DOC.says("By a SORT in an hour as if it never passed (DOORS as they are SHUT)");
        for (int hour : new int[] {0, 12, 23}) {
            OneSided x = tenOpenAt(hour);
            x.hours(24);
            DOC.is("ring", x.ring(4, TENANT, hour), 1023);
            DOC.is("homeless", x.homeless(4, TENANT, hour), 0);
            DOC.is("add", x.add(TENANT, hour), 0);
            DOC.is("turn", x.turn(TENANT, hour), 0);
            DOC.is("cut", x.cut(0, 9, TENANT, hour), 1);
            int another = (hour + 1) % 24;
            DOC.is("no ring", x.ring(4, TENANT, another), 16);
            DOC.is("all homeless", x.homeless(4, TENANT, another), 1023 - 16);
            DOC.is("all to add", x.add(TENANT, another), 10);
            DOC.is("none to turn", x.turn(TENANT, another), NONE);
            DOC.is("none to cut", x.cut(0, 9, TENANT, another), 0);
            x.shut(9, true);
            DOC.is("ring without one", x.ring(4, TENANT, hour), 16);
            DOC.is("homeless without", x.homeless(4, TENANT, hour), 1023 - 31);
            DOC.is("add without", x.add(TENANT, hour), 1);
            DOC.is("turn without", x.turn(TENANT, hour), NONE);
            DOC.is("cut without", x.cut(9, 0, TENANT, hour), 0);
            DOC.is("a cat's ring without", x.ring(4, CAT, hour), 1023);
        }
    }

    private static void ring() {
        DOC.says("RING of a ROOM: all ROOMS one can come to from it and back.");
        OneSided x = DOC.made("rooms 5;door aa 0 to 1 plain;door bb 1 to 0 plain for child;door cc 1 to 2 plain;"
            + "door dd 2 to 3 plain;door ee 3 to 2 plain;");
        DOC.is("alone in it", x.ring(0, TENANT, 0), 1);
        DOC.is("a child's", x.ring(0, CHILD, 0), 3);
        DOC.is("from the other", x.ring(1, CHILD, 0), 3);
        DOC.is("two", x.ring(2, TENANT, 0), 12);
        DOC.is("a cat's", x.ring(2, CAT, 0), 15);
        DOC.is("no door", x.ring(4, CAT, 0), 16);
    }

    private static void homeless() {
        DOC.says("HOMELESS: ROOMS from which one can't come to a told one.");
        OneSided x = DOC.made("rooms 4;door aa 0 to 1 plain;door bb 1 to 2 plain;");
        DOC.is("to 2", x.homeless(2, TENANT, 0), 8);
        DOC.is("to 0", x.homeless(0, TENANT, 0), 14);
        DOC.is("to 3", x.homeless(3, TENANT, 0), 7);
        DOC.is("a cat to 0", x.homeless(0, CAT, 0), 8);
    }

    private static void add() {
        DOC.says("ADD: the fewest DOORS more (from any ROOM to any other one, letting all by) by which all ROOMS are one RING.");
        for (int rooms = 2; rooms <= 10; rooms++) {
            OneSided x = DOC.made("rooms " + rooms + ";");
            DOC.is("a ring of " + rooms, x.add(TENANT, 0), rooms);
        }
        OneSided ring = DOC.made("rooms 2;door aa 0 to 1 plain;door bb 1 to 0 plain;");
        DOC.is("it is one", ring.add(TENANT, 0), 0);
        ring.shut(0, true);
        DOC.is("one is missing", ring.add(TENANT, 0), 1);
        OneSided out = DOC.made("rooms 6;door aa 0 to 1 plain;door bb 0 to 2 plain;door cc 0 to 3 plain;door dd 0 to 4 plain;"
            + "door ee 0 to 5 plain;");
        DOC.is("five ends", out.add(TENANT, 0), 5);
        OneSided in = DOC.made("rooms 6;door aa 1 to 0 plain;door bb 2 to 0 plain;door cc 3 to 0 plain;");
        DOC.is("three beginnings, two alone", in.add(TENANT, 0), 5);
        OneSided both = DOC.made("rooms 5;door aa 0 to 2 plain;door bb 1 to 2 plain;door cc 2 to 3 plain;door dd 2 to 4 plain;");
        DOC.is("two and two", both.add(TENANT, 0), 2);
        DOC.is("a law is none of theirs", DOC.made("rooms 2;let 0;").add(TENANT, 0), 2);
    }

    private static void turn() {
        DOC.says("TURN: the fewest DOORS turned round (leading from the second ROOM to the first one, turning ones then the other way) by which they are; of equal ones the least set (bits).");
        OneSided one = DOC.made("rooms 2;door aa 0 to 1 plain;door bb 1 to 0 plain;");
        DOC.is("none need be", one.turn(TENANT, 0), 0);
        OneSided two = DOC.made("rooms 2;door aa 0 to 1 plain;door bb 0 to 1 plain;");
        DOC.is("the least of two", two.turn(TENANT, 0), 1);
        two.shut(0, true);
        DOC.is("one is too few", two.turn(TENANT, 0), NONE);
        OneSided blank = DOC.made("rooms 2;door xx 0 to 1 blank;door aa 0 to 1 plain;door bb 0 to 1 plain;");
        DOC.is("a blank one is none", blank.turn(TENANT, 0), 2);
        OneSided noon = DOC.made("rooms 2;door aa 0 to 1 plain;door bb 0 to 1 turning;");
        DOC.is("ahead of noon", noon.turn(TENANT, 11), 1);
        DOC.is("from noon on", noon.turn(TENANT, 12), 0);
        OneSided turned = DOC.made("rooms 2;door aa 1 to 0 turning;door bb 0 to 1 turning;door cc 0 to 1 plain open 12 to 24;");
        DOC.is("both turn", turned.turn(TENANT, 12), 0);
        OneSided more = DOC.made("rooms 3;door aa 0 to 1 plain;door bb 1 to 2 plain;door cc 0 to 2 plain;");
        DOC.is("fewer go ahead of less", more.turn(TENANT, 0), 4);
        OneSided pairs = DOC.made("rooms 4;door aa 0 to 1 plain;door bb 2 to 1 plain;door cc 2 to 3 plain;door dd 0 to 3 plain;");
        DOC.is("the least of equal ones", pairs.turn(TENANT, 0), 5);
        OneSided chain = DOC.made("rooms 3;door aa 0 to 1 plain;door bb 1 to 2 plain;");
        DOC.is("a chain can't be", chain.turn(TENANT, 0), NONE);
        DOC.is("for a cat it is one", chain.turn(CAT, 0), 0);
        OneSided all = DOC.made(manyDoors("", 14));
        DOC.is("the first of 14", all.turn(TENANT, 0), 1);
        DOC.is("all 14", DOC.made(allBackwards()).turn(TENANT, 0), 16383);
    }

    /** A ring of six rooms and four more beside it: each door lets one by only into its first room. */
    private static String allBackwards() {
        int[] from = {0, 1, 2, 3, 4, 5, 0, 6, 1, 7, 2, 8, 3, 9};
        int[] to = {1, 2, 3, 4, 5, 0, 6, 0, 7, 1, 8, 2, 9, 3};
        StringBuilder text = new StringBuilder("rooms 10;let room = cost;");
        for (int i = 0; i < 14; i++) {
            text.append("door d").append((char) ('a' + i)).append(' ').append(to[i]).append(" to ").append(from[i]);
            text.append(" plain price ").append(to[i]).append(';');
        }
        return text.toString();
    }

    /** Two rooms, and doors from the first to the second one. */
    private static String manyDoors(String rest, int many) {
        StringBuilder text = new StringBuilder("rooms 2;");
        for (int i = 0; i < many; i++) {
            text.append("door d").append((char) ('a' + i)).append(" 0 to 1 plain").append(rest).append(';');
        }
        return text.toString();
    }

    private static void cut() {
        DOC.says("CUT from a ROOM to another one: the fewest DOORS to be SHUT so that one can't come there; of equal ones the least set.");
        OneSided all = DOC.made(manyDoors("", 14));
        DOC.is("all 14", all.cut(0, 1, TENANT, 0), 16383);
        DOC.is("none comes back", all.cut(1, 0, TENANT, 0), 0);
        DOC.is("but a cat", all.cut(1, 0, CAT, 0), 16383);
        all.shut(0, true);
        all.shut(13, true);
        DOC.is("what is shut need not be", all.cut(0, 1, TENANT, 0), 16383 - 1 - 8192);
        OneSided chain = DOC.made("rooms 4;door cc 2 to 3 plain;door bb 1 to 2 plain;door aa 0 to 1 plain;door xx 0 to 3 blank;");
        DOC.is("the least of equal ones", chain.cut(0, 3, TENANT, 0), 1);
        DOC.is("of two", chain.cut(0, 2, TENANT, 0), 2);
        OneSided fewest = DOC.made("rooms 3;door aa 0 to 1 plain;door bb 0 to 1 plain;door cc 1 to 2 plain;");
        DOC.is("fewer go ahead of less", fewest.cut(0, 2, TENANT, 0), 4);
        DOC.is("both", fewest.cut(0, 1, TENANT, 0), 3);
    }

    private static void crowd() {
        DOC.says("CROWD of tenants in a ROOM now, as many as one likes: how many can be in another one by an hour (each DOOR lets so many by in each hour as it holds; the hour itself, too).");
        OneSided x = DOC.made(manyDoors(" holds 9", 14));
        DOC.is("the most in one hour", x.crowd(0, 1, 0), 14 * 9);
        DOC.is("the most in all", x.crowd(0, 1, 23), 14 * 9 * 24);
        DOC.is("none back", x.crowd(1, 0, 23), 0);
        x.hours(23);
        DOC.is("the last hour", x.crowd(0, 1, 23), 14 * 9);
        x.shut(0, true);
        DOC.is("one is shut", x.crowd(0, 1, 23), 13 * 9);
        OneSided y = DOC.made("rooms 3;door aa 0 to 1 plain holds 5;door bb 1 to 2 plain holds 2;door cc 0 to 2 plain for child;"
            + "door dd 1 to 0 turning;");
        int[] due = {0, 2, 4, 6};
        for (int hour = 0; hour < due.length; hour++) {
            DOC.is("by hour " + hour, y.crowd(0, 2, hour), due[hour]);
        }
        y.hours(2);
        DOC.is("from now", y.crowd(0, 2, 2), 0);
        DOC.is("an hour later", y.crowd(0, 2, 3), 2);
        OneSided opens = DOC.made("rooms 3;door aa 0 to 1 plain open 0 to 2;door bb 1 to 2 plain open 5 to 6 holds 9;"
            + "door cc 0 to 2 plain open 5 to 7;");
        DOC.is("who waits behind one", opens.crowd(0, 2, 5), 3);
        DOC.is("and an hour more", opens.crowd(0, 2, 6), 4);
        DOC.is("then all is shut", opens.crowd(0, 2, 23), 4);
        OneSided sorts = DOC.made("rooms 2;door aa 0 to 1 plain for tenant;door bb 0 to 1 plain for soldier holds 9;");
        DOC.is("of tenants", sorts.crowd(0, 1, 0), 1);
        OneSided noon = DOC.made("rooms 2;door aa 0 to 1 turning;");
        DOC.is("ahead of noon", noon.crowd(0, 1, 23), 12);
        DOC.is("from noon on", noon.crowd(1, 0, 23), 12);
        OneSided elsewhere = DOC.made("rooms 4;door aa 0 to 1 plain open 0 to 1;door bb 0 to 2 plain open 0 to 1;"
            + "door dd 1 to 2 plain open 1 to 2;door cc 1 to 3 plain open 1 to 2;door ee 2 to 3 plain open 2 to 3;");
        DOC.is("the first goes by cc, so that the other can by ee", elsewhere.crowd(0, 3, 2), 2);
        OneSided behind = DOC.made("rooms 3;door aa 2 to 0 plain open 2 to 4 holds 3;door bb 2 to 1 plain open 0 to 2 holds 3;"
            + "door cc 1 to 0 plain open 0 to 3 holds 3;door dd 0 to 1 plain open 2 to 4;");
        DOC.is("six by bb, one by dd in hour 3", behind.crowd(2, 1, 6), 7);
    }

    private static void told() {
        DOC.says("TOLD of walks, by tenants in the hour now: that one came from a ROOM to another one, or could not (10 at most).");
        OneSided x = DOC.made("rooms 2;door aa 0 to 1 plain for child;door bb 0 to 1 plain;");
        for (int i = 1; i <= 10; i++) {
            DOC.is("told", x.told(0, 1, true), true);
            DOC.is("so many", x.count(7), i);
            DOC.is("it was bb", x.found(1), 2);
        }
        DOC.is("no 11th", x.told(0, 1, true), false);
        DOC.is("nor one that could not", x.told(1, 0, false), false);
        DOC.is("10", x.count(7), 10);
        OneSided y = DOC.made("rooms 2;door bb 0 to 1 plain;");
        y.told(0, 1, true);
        y.told(0, 1, false);
        DOC.is("both can't be", y.found(0), NONE);
        OneSided last = DOC.made("rooms 2;door bb 0 to 1 plain;");
        for (int i = 0; i < 9; i++) {
            last.told(0, 1, true);
        }
        DOC.is("nine hold", last.found(0), 1);
        last.told(0, 1, false);
        DOC.is("the 10th counts", last.found(0), NONE);
    }

    private static void foundSets() {
        DOC.says("FOUND: sets of DOORS (of those not SHUT; the others being bricked up) by which all TOLD is so: how many; DOORS in all, in some");
        OneSided all = DOC.made(manyDoors("", 14));
        DOC.is("all sets", all.found(0), 16384);
        DOC.is("in all", all.found(1), 0);
        DOC.is("in some", all.found(2), 16383);
        all.told(0, 1, false);
        DOC.is("only the empty one", all.found(0), 1);
        DOC.is("none in some", all.found(2), 0);
        OneSided some = DOC.made(manyDoors("", 14));
        some.told(0, 1, true);
        DOC.is("all but the empty one", some.found(0), 16383);
        some.shut(13, true);
        DOC.is("one is shut", some.found(0), 8191);
        DOC.is("it is in none", some.found(2), 8191);
        for (int door = 0; door < 12; door++) {
            some.shut(door, true);
        }
        DOC.is("one is left", some.found(0), 1);
        DOC.is("it is in all", some.found(1), 4096);
        some.shut(12, true);
        DOC.is("none is left", some.found(0), NONE);
        OneSided none = DOC.made("rooms 2;");
        DOC.is("no door: the empty set", none.found(0), 1);
        none.told(0, 1, true);
        DOC.is("no set", none.found(0), NONE);
        OneSided idle = DOC.made("rooms 2;door aa 0 to 1 blank;door bb 0 to 1 plain for child;door cc 0 to 1 plain;");
        idle.told(0, 1, true);
        DOC.is("doors that let none by may be", idle.found(0), 4);
        DOC.is("in all", idle.found(1), 4);
        DOC.is("in some", idle.found(2), 7);
        idle.hours(24);
        DOC.is("nobody comes at the end", idle.found(0), NONE);
        OneSided sorts = DOC.made("rooms 2;door aa 0 to 1 plain for tenant;door bb 0 to 1 plain for soldier;door cc 0 to 1 turning;");
        sorts.told(0, 1, true);
        DOC.is("by tenants: aa or cc", sorts.found(0), 6);
        sorts.told(1, 0, false);
        sorts.hours(12);
        DOC.is("from noon on aa, not cc", sorts.found(0), 2);
        DOC.is("aa in all", sorts.found(1), 1);
        DOC.is("bb in some", sorts.found(2), 3);
        OneSided turned = DOC.made("rooms 2;door aa 0 to 1 turning;");
        turned.hours(12);
        turned.told(1, 0, true);
        DOC.is("aa, the other way", turned.found(4), 1);
    }

    private static void foundPair() {
        DOC.says("the pair of ROOMS (from * 10 + to) whose walk parts them most evenly (the lesser number of those by which one can and by which one can't is the greatest; of equal ones the least pair).");
        OneSided one = DOC.made("rooms 10;door aa 9 to 8 plain;");
        DOC.is("98", one.found(3), 98);
        one.told(9, 8, true);
        DOC.is("none parts them", one.found(3), NONE);
        OneSided equal = DOC.made("rooms 4;door bb 2 to 3 plain;door aa 0 to 1 plain;");
        DOC.is("the least pair", equal.found(3), 1);
        equal.told(0, 1, true);
        DOC.is("the other one", equal.found(3), 23);
        OneSided even = DOC.made("rooms 3;door aa 0 to 1 plain;door bb 0 to 1 plain;door cc 1 to 2 plain;");
        DOC.is("4 of 8, not 2 of 8", even.found(3), 12);
    }

    private static void foundFewest() {
        DOC.says("FEWEST DOORS of one of these sets; of equal ones the least set.");
        OneSided x = DOC.made("rooms 3;door aa 0 to 1 plain;door bb 1 to 2 plain;door cc 0 to 2 plain;door dd 0 to 2 plain;");
        DOC.is("none", x.found(4), 0);
        x.told(0, 2, true);
        DOC.is("fewer go ahead of less, cc of cc and dd", x.found(4), 4);
        x.shut(2, true);
        DOC.is("dd", x.found(4), 8);
        x.shut(3, true);
        DOC.is("aa and bb", x.found(4), 3);
        x.shut(0, true);
        DOC.is("no set", x.found(4), NONE);
        StringBuilder text = new StringBuilder("rooms 10;");
        for (int i = 0; i < 9; i++) {
            text.append("door d").append((char) ('a' + i)).append(' ').append(i).append(" to ").append(i + 1).append(" plain;");
        }
        for (int i = 1; i < 10; i += 2) {
            text.append("door e").append((char) ('a' + i)).append(' ').append(i).append(" to ").append(i - 1).append(" plain;");
        }
        OneSided all = DOC.made(text.toString());
        all.told(0, 9, true);
        DOC.is("nine", all.found(4), 511);
        for (int i = 1; i < 10; i += 2) {
            all.told(i, i - 1, true);
        }
        DOC.is("all 14", all.found(4), 16383);
        DOC.is("one set", all.found(0), 1);
    }

    private static void rentsPrices() {
        DOC.says("RENTS of two hinges: each landlord sets a price from 0 to 9 (it is E's cost then)");
        OneSided alone = DOC.made("rooms 3;door aa 0 to 1 hinge price 4;door bb 0 to 2 hinge price 4;"
            + "person pp tenant at 0 errand 1 by 9;");
        DOC.is("9 is the dearest: bb's is any", alone.rests(0, 1, NONE), 10);
        DOC.is("the first", alone.rests(0, 1, 0), 90);
        DOC.is("the last", alone.rests(0, 1, 9), 99);
        DOC.is("no more", alone.rests(0, 1, 10), NONE);
        OneSided law = DOC.made("rooms 3;door aa 0 to 1 hinge price 9;door bb 0 to 2 hinge;"
            + "person pp tenant at 0 errand 1 by 9;let cost < 4;");
        DOC.is("the law lets 3 by", law.rests(0, 1, 0), 30);
        DOC.is("with any of bb's", law.rests(0, 1, NONE), 10);
        DOC.is("as it was told none goes", law.leads(0, TENANT, 0, 0), NONE);
        OneSided nobody = DOC.made("rooms 2;door aa 0 to 1 hinge;door bb 0 to 1 hinge;");
        DOC.is("nobody: all rest", nobody.rests(0, 1, NONE), 100);
        DOC.is("the first is 0 and 0", nobody.rests(0, 1, 0), 0);
        DOC.is("the last is 9 and 9", nobody.rests(0, 1, 99), 99);
        DOC.is("no 101st", nobody.rests(0, 1, 100), NONE);
    }

    private static void rentsWays() {
        DOC.says("each PERSON, in the hour now from where he is, goes to his errand's ROOM by DOORS that let him by in that hour, the cheapest (all prices together), of equal ones the fewest DOORS, then the first row of numbers; who can't stays.");
        String rival = "person pp tenant at 0 errand 1 by 9;";
        OneSided dear = DOC.made("rooms 3;door aa 0 to 1 hinge;door bb 2 to 0 hinge;door cc 0 to 1 plain price 5;" + rival);
        DOC.is("of equal ones the first row: 5", dear.rests(0, 1, 0), 50);
        OneSided later = DOC.made("rooms 3;door cc 0 to 1 plain price 5;door aa 0 to 1 hinge;door bb 2 to 0 hinge;" + rival);
        DOC.is("cc is the first row: 4", later.rests(1, 2, 0), 40);
        OneSided far = DOC.made("rooms 3;door cc 0 to 2 plain price 5;door dd 2 to 1 plain;door aa 0 to 1 hinge;"
            + "door bb 2 to 0 hinge;" + rival);
        DOC.is("aa has the fewest doors: 5", far.rests(2, 3, 0), 50);
        OneSided there = DOC.made("rooms 2;door aa 0 to 1 hinge;door bb 1 to 0 hinge;person pp tenant at 1 errand 1 by 9;");
        DOC.is("who is there pays none", there.rests(0, 1, NONE), 100);
        OneSided stays = DOC.made("rooms 3;door aa 0 to 1 hinge;door bb 1 to 0 hinge;person pp tenant at 0 errand 2 by 9;");
        DOC.is("who can't pays none", stays.rests(0, 1, NONE), 100);
        OneSided from = DOC.made("rooms 3;door aa 0 to 1 hinge;door bb 2 to 0 hinge;" + rival);
        DOC.is("aa has 9", from.rests(0, 1, 0), 90);
        from.go(0, 0);
        DOC.is("from where he is", from.rests(0, 1, NONE), 100);
        from.undo();
        from.hours(24);
        DOC.is("in the hour now", from.rests(0, 1, NONE), 100);
        OneSided shut = DOC.made("rooms 3;door aa 0 to 1 hinge;door bb 2 to 0 hinge;door cc 0 to 1 plain price 5;" + rival);
        shut.shut(2, true);
        DOC.is("by doors that let him by", shut.rests(0, 1, 0), 90);
    }

    private static void rentsRest() {
        DOC.says("Each landlord has his price from each who goes through. RESTS: prices by which neither would have more by another one of his own.");
        OneSided two = DOC.made("rooms 2;door aa 0 to 1 hinge;door bb 0 to 1 hinge;person pp tenant at 0 errand 1 by 9;");
        int[] due = {0, 10, 11};
        DOC.is("three", two.rests(0, 1, NONE), 3);
        for (int i = 0; i < due.length; i++) {
            DOC.is("the " + i + "th", two.rests(0, 1, i), due[i]);
        }
        OneSided row = DOC.made("rooms 3;door aa 0 to 1 hinge;door bb 1 to 2 hinge;door cc 0 to 2 plain price 9;"
            + "person pp tenant at 0 errand 2 by 9;");
        DOC.is("both in a row, cc is dearer: they sum to 8, or none goes", row.rests(0, 1, 0), 8);
        OneSided cats = DOC.made("rooms 3;door aa 1 to 0 hinge;door bb 2 to 1 hinge;person pp cat at 0 errand 1 by 9;"
            + "person qq cat at 1 errand 2 by 9;person rr cat at 1 errand 2 by 9;let sort = 3 and cost < 8;");
        DOC.is("cats go back through both", cats.rests(0, 1, NONE), 1);
        DOC.is("7 and 7", cats.rests(1, 0, 0), 77);
        OneSided many = DOC.made("rooms 2;door aa 0 to 1 hinge;door bb 0 to 1 hinge for child;person pp tenant at 0 errand 1 by 9;"
            + "person qq child at 0 errand 1 by 9;person rr child at 0 errand 1 by 9;let cost < 4 or sort = 2;");
        DOC.is("3 of pp alone is no more than 1 of each", many.rests(0, 1, NONE), 1);
        DOC.is("1 and 1", many.rests(0, 1, 0), 11);
        OneSided each = DOC.made("rooms 2;door aa 0 to 1 hinge;door bb 1 to 0 hinge;person pp tenant at 0 errand 1 by 9;"
            + "person qq tenant at 1 errand 0 by 9;");
        DOC.is("each alone", each.rests(0, 1, NONE), 1);
        DOC.is("9 and 9", each.rests(0, 1, 0), 99);
    }

    private static void chase() {
        DOC.says("CHASE of a thief by a tenant, in the hour now: by turns, the thief first: each goes through a DOOR that lets him by (both as tenants) or stays");
        OneSided x = DOC.made("rooms 4;door aa 0 to 1 plain;door bb 1 to 2 plain;door cc 1 to 3 plain for child;door dd 3 to 0 plain open 1 to 2;");
        DOC.is("the thief is first: on to 2", x.chase(1, 0), 4);
        DOC.is("he stays, he must", x.chase(2, 1), 2);
        DOC.is("not by a child's door", x.chase(3, 1), NONE);
        DOC.is("not in this hour", x.chase(0, 3), NONE);
        x.hours(1);
        DOC.is("in this one: on to 1, to 2", x.chase(0, 3), 6);
        x.shut(1, true);
        DOC.is("on to 1 alone", x.chase(0, 3), 4);
        x.hours(23);
        DOC.is("nobody goes at the end", x.chase(2, 1), NONE);
        DOC.says("the tenant catches him when both are in one ROOM: behind how many moves of both, the thief putting it off, the tenant hastening it (0: at once).");
        for (int room = 0; room < 4; room++) {
            DOC.is("at once", x.chase(room, room), 0);
        }
        OneSided ten = tenOpenAt(0);
        DOC.is("round and round", ten.chase(1, 0), NONE);
        ten.shut(8, true);
        DOC.is("to the end of the chain", ten.chase(0, 9), 18);
        DOC.is("from behind", ten.chase(8, 9), 18);
        DOC.is("never the other way", ten.chase(9, 8), NONE);
        OneSided star = DOC.made("rooms 3;door aa 0 to 1 plain;door bb 1 to 0 plain;door cc 0 to 2 plain;door dd 2 to 0 plain;");
        DOC.is("in a corner", star.chase(1, 0), 2);
        OneSided sorts = DOC.made("rooms 2;door aa 0 to 1 plain for tenant;door bb 1 to 0 plain for soldier;");
        DOC.is("both as tenants: aa", sorts.chase(1, 0), 2);
        DOC.is("not bb", sorts.chase(0, 1), NONE);
        DOC.is("he waits in it", star.chase(1, 2), 4);
        DOC.is("he flees into one", star.chase(0, 1), 4);
    }

    /** The same day by hand: by numbers, each through the first door of his way. */
    private static int[] runByHand(Lasting x) {
        int people = x.count(2);
        boolean[] inTime = new boolean[people];
        for (int hour = x.count(3); hour <= 24; hour++) {
            for (int i = 0; i < people; i++) {
                int door = x.errand(i, 1);
                if (x.person(i, 6) == 0 && door != NEVER) {
                    x.go(i, door);
                }
            }
            for (int i = 0; i < people; i++) {
                boolean home = x.person(i, 4) == x.person(i, 1) && x.person(i, 5) == 1;
                inTime[i] |= home && hour <= x.person(i, 3);
            }
            x.hours(1);
        }
        int[] counts = new int[2];
        for (int i = 0; i < people; i++) {
            boolean home = x.person(i, 4) == x.person(i, 1) && x.person(i, 5) == 1;
            counts[0] += inTime[i] ? 1 : 0;
            counts[1] += home ? 0 : 1;
        }
        return counts;
    }

    private static void run() {
        DOC.says("RUN of the day from now on: each hour, by numbers, who hasn't gone in it goes through the first DOOR of his WAY, if it lets him by in that hour and fewer than it holds have gone through (else he stays, as who has no WAY, or needs no DOOR more); then the next hour, to the end");
        String crowded = "rooms 3;door aa 0 to 1 plain;door bb 1 to 0 plain open 4 to 24;door cc 0 to 2 turning;door dd 2 to 1 plain;"
            + "person pp tenant at 0 errand 1 by 4;person qq tenant at 0 errand 1 by 4;person rr cat at 0 errand 2 by 3;"
            + "person ss child at 1 errand 2 by 23;";
        for (String text : new String[] {ROUND, crowded}) {
            for (int start = 0; start <= 24; start += start < 20 ? 10 : 1) {
                for (int went = 0; went < 2; went++) {
                    OneSided run = DOC.made(text);
                    Lasting hand = new Lasting();
                    hand.quarter(text);
                    if (start > 0) {
                        run.hours(start);
                        hand.hours(start);
                    }
                    if (went == 1) {
                        run.go(1, 0);
                        hand.go(1, 0);
                    }
                    int inTime = run.run(0);
                    int not = run.run(1);
                    int[] due = runByHand(hand);
                    DOC.is("in time from " + start, inTime, due[0]);
                    DOC.is("not from " + start, not, due[1]);
                    DOC.is("nothing is done", run.count(3), start);
                }
            }
        }
    }

    private static void runCounts() {
        DOC.says("how many are at HOME with their errands done in an hour no later than their by; how many are not in the end.");
        OneSided x = round(0);
        DOC.is("pp in 3, rr in 0, qq in 4", x.run(0), 3);
        DOC.is("all", x.run(1), 0);
        x.hours(1);
        DOC.is("pp is late, rr by 1", x.run(0), 2);
        x.hours(1);
        DOC.is("rr is late", x.run(0), 1);
        x.hours(18);
        DOC.is("from 20: qq behind pp is not", x.run(1), 1);
        DOC.is("none in time", x.run(0), 0);
        x.hours(1);
        DOC.is("from 21: neither", x.run(1), 2);
        x.hours(3);
        DOC.is("from the end", x.run(1), 2);
        OneSided nobody = DOC.made("rooms 2;door aa 0 to 1 plain;");
        DOC.is("nobody in time", nobody.run(0), 0);
        DOC.is("nobody not", nobody.run(1), 0);
        OneSided end = DOC.made("rooms 2;person pp cat at 0 errand 0 by 24;person qq cat at 0 errand 0 by 23;");
        end.hours(24);
        DOC.is("by 24 at the end", end.run(0), 1);
        DOC.is("both are at home", end.run(1), 0);
    }

    /** The years by the document's draws in numbers without end, each day's errands asked of a new object. */
    private static int[] yearsByHand(String text, int seed, int days, int shutNow) {
        BigInteger g = BigInteger.valueOf(seed);
        int shut = shutNow;
        int all = 0;
        int worst = Integer.MAX_VALUE;
        for (int day = 0; day < days; day++) {
            OneSided x = DOC.made(text);
            g = nextDraw(g);
            shut ^= 1 << below(g, x.count(1));
            g = nextDraw(g);
            shut = below(g, 10) == 0 ? 0 : shut;
            for (int door = 0; door < x.count(1); door++) {
                x.shut(door, (shut >> door & 1) != 0);
            }
            int done = 0;
            for (int i = 0; i < x.count(2); i++) {
                done += x.errand(i, 0) == 1 ? 1 : 0;
            }
            all += done;
            worst = Math.min(worst, done);
        }
        return new int[] {all, worst};
    }

    private static BigInteger nextDraw(BigInteger g) {
        return g.multiply(BigInteger.valueOf(1103515245)).add(BigInteger.valueOf(12345)).mod(BigInteger.valueOf(2147483648L));
    }

    private static int below(BigInteger g, int bound) {
        return g.divide(BigInteger.valueOf(65536)).mod(BigInteger.valueOf(bound)).intValue();
    }

    private static void draws() {
        DOC.says("A DRAW below m: g becomes (g * 1103515245 + 12345) modulo 2147483648 (g is the SEED at first); it is g / 65536, cut, modulo m.");
        for (int seed : new int[] {0, 1, 2, 9998, 9999, 4096, 77}) {
            int[] due = yearsByHand(ROUND, seed, 60, 0);
            DOC.is("all of seed " + seed, round(0).years(seed, 60, 0), due[0]);
            DOC.is("the worst of seed " + seed, round(0).years(seed, 60, 1), due[1]);
        }
    }

    private static void years() {
        DOC.says("YEARS by a SEED of so many days (1 to 60): each day a DRAW below the DOORS (one that is SHUT is open, one that is open SHUT, from now's on), one below 10: 0: all DOORS are open again");
        for (int days : new int[] {1, 2, 3, 30, 59, 60}) {
            for (int shut = 0; shut < 16; shut += 5) {
                OneSided x = round(0);
                for (int door = 0; door < 4; door++) {
                    x.shut(door, (shut >> door & 1) != 0);
                }
                int[] due = yearsByHand(ROUND, 5, days, shut);
                DOC.is("all of " + days, x.years(5, days, 0), due[0]);
                DOC.is("the worst of " + days, x.years(5, days, 1), due[1]);
            }
        }
        String one = "rooms 2;door aa 0 to 1 plain;person pp tenant at 0 errand 0 by 1;";
        DOC.is("one door, 60 days", DOC.made(one).years(0, 60, 0), 60);
        String many = manyDoors("", 14) + "person pp cat at 0 errand 1 by 1;";
        int[] due = yearsByHand(many, 9999, 60, 0);
        DOC.is("14 doors", DOC.made(many).years(9999, 60, 0), due[0]);
    }

    private static void yearsAsAhead() {
        DOC.says("then how many have DONE their errands in time from hour 0, each alone, from HOME: all together; the worst day's (all is as ahead then).");
        OneSided x = round(0);
        int all = x.years(1, 20, 0);
        int worst = x.years(1, 20, 1);
        x.go(0, 0);
        x.go(2, 1);
        x.hours(9);
        DOC.is("from hour 0 and home", x.years(1, 20, 0), all);
        DOC.is("the worst too", x.years(1, 20, 1), worst);
        DOC.is("the hour is as ahead", x.count(3), 9);
        DOC.is("no door is shut", x.count(4), 0);
        DOC.is("he is where he was", x.person(0, 4), 1);
        DOC.is("what can be undone", x.count(8), 3);
        DOC.is("nobody: none", DOC.made("rooms 2;door aa 0 to 1 plain;").years(1, 60, 0), 0);
        DOC.is("nobody: the worst", DOC.made("rooms 2;door aa 0 to 1 plain;").years(1, 60, 1), 0);
        StringBuilder six = new StringBuilder("rooms 2;door aa 0 to 1 plain;");
        for (char name = 'p'; name < 'v'; name++) {
            six.append("person ").append(name).append(name).append(" tenant at 0 errand 0 by 1;");
        }
        DOC.is("six a day", DOC.made(six.toString()).years(3, 60, 0), 360);
        DOC.is("six on the worst day", DOC.made(six.toString()).years(3, 60, 1), 6);
    }

    private static void marks() {
        DOC.says("MARKS 0 to 3 hold where all are, the hour, what is SHUT, errands, the DAY, what is TOLD (nothing can be undone when one is gone back to).");
        OneSided x = round(0);
        for (int mark = 0; mark < 4; mark++) {
            DOC.is("lay " + mark, x.mark(mark, false), true);
            x.hours(1);
            x.go(0, mark);
            x.shut(mark, true);
            x.told(0, 1, true);
            Due.day(x, "hour;".repeat(mark + 1));
        }
        for (int mark = 3; mark >= 0; mark--) {
            DOC.is("back to " + mark, x.mark(mark, true), true);
            DOC.is("the hour", x.count(3), mark);
            DOC.is("where", x.person(0, 4), mark);
            DOC.is("shut", x.count(4), mark);
            DOC.is("errands", x.person(0, 5), mark >= 2 ? 1 : 0);
            DOC.is("the day", x.count(6), mark);
            DOC.is("told", x.count(7), mark);
            DOC.is("as it was told", x.found(1), mark == 0 ? 0 : NONE);
            DOC.is("nothing can be undone", x.count(8), 0);
            DOC.is("nothing is undone", x.undo(), false);
            x.shut(3, true);
            DOC.is("what is done then can be", x.undo(), true);
        }
        DOC.is("no mark 4", x.mark(4, false), false);
        DOC.is("no mark -1", x.mark(-1, false), false);
        OneSided walks = round(0);
        walks.mark(0, false);
        walks.told(0, 2, true);
        Due.day(walks, "go pp ab;hour;go pp bc;");
        walks.mark(1, false);
        walks.mark(0, true);
        walks.told(3, 0, false);
        Due.day(walks, "go qq ab;hour;hour;");
        walks.mark(2, false);
        walks.mark(1, true);
        DOC.is("the walk from 0 to 2", walks.found(1), 3);
        DOC.is("pp's day", walks.judged(0), 2);
        DOC.is("not qq's", walks.judged(1), 0);
        walks.mark(2, true);
        DOC.is("that none came from 3 to 0", walks.found(2), 7);
        DOC.is("qq's day", walks.judged(1), 1);
        DOC.is("not pp's", walks.judged(0), 0);
    }
}
