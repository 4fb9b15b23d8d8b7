import java.util.Arrays;

/** A quarter of doors with only one side: told, gone through by hand, planned and judged. */
public final class OneSided {
    public static final int NONE = -1;

    private static final int NEVER = -2;
    private static final int HOURS = 24;
    private static final int NOON = 12;
    private static final int MOST_ROOMS = 10;
    private static final int MOST_DOORS = 14;
    private static final int MOST_PEOPLE = 6;
    private static final int MOST_LINES = 24;
    private static final int MOST_TOLD = 10;
    private static final int MOST_UNDONE = 16;
    private static final int MOST_MARKS = 4;
    private static final int MOST_DAYS = 60;
    private static final int MOST_SEED = 9999;
    private static final int MOST_SIGNS = 1000;
    private static final int PRICES = 10;

    private static final int SORTS = 4;
    private static final int TENANT = 0;
    private static final int CAT = 3;
    private static final int TURNING = 1;
    private static final int HINGE = 2;
    private static final int BLANK = 3;

    private final Reader reader = new Reader();
    private Quarter quarter = new Quarter();
    private Quarter spare = new Quarter();
    private final Memory memory = new Memory();
    private final Memory draft = new Memory();
    private final Memory[] marks = new Memory[MOST_MARKS];
    private int marked;
    private final Scene[] past = new Scene[MOST_UNDONE];
    private int oldest;
    private int undoable;
    private final Plans plans = new Plans();
    private final Web web = new Web();
    private final Crowd throng = new Crowd();
    private final Finder finder = new Finder();
    private final Rents rents = new Rents();

    public OneSided() {
        for (int i = 0; i < MOST_MARKS; i++) {
            marks[i] = new Memory();
        }
        for (int i = 0; i < MOST_UNDONE; i++) {
            past[i] = new Scene();
        }
    }

    public int feed(long a, long b, long c) {
        reader.putBytes(a);
        reader.putBytes(b);
        reader.putBytes(c);
        return reader.length;
    }

    public int quarter() {
        int fault = reader.readQuarter(spare);
        if (fault != 0) {
            return fault;
        }
        Quarter read = spare;
        spare = quarter;
        quarter = read;
        quarter.settle();
        memory.begin(quarter);
        marked = 0;
        undoable = 0;
        return 0;
    }

    public int day() {
        int fault = reader.readDay(quarter, draft);
        if (fault == 0) {
            memory.copyDay(draft);
        }
        return fault;
    }

    public int door(int door, int what) {
        if (!isDoor(door)) {
            return NONE;
        }
        Door told = quarter.doors[door];
        switch (what) {
            case 0: return told.kind;
            case 1: return told.first;
            case 2: return told.second;
            case 3: return told.opens;
            case 4: return told.closes;
            case 5: return told.only;
            case 6: return told.holds;
            case 7: return told.price;
            case 8: return memory.scene.shut >> door & 1;
            case 9: return memory.scene.through[door];
            default: return NONE;
        }
    }

    public int person(int person, int what) {
        if (!isPerson(person)) {
            return NONE;
        }
        Person told = quarter.people[person];
        switch (what) {
            case 0: return told.sort;
            case 1: return told.home;
            case 2: return told.errand;
            case 3: return told.by;
            case 4: return memory.scene.where[person];
            case 5: return memory.scene.done >> person & 1;
            case 6: return memory.scene.gone >> person & 1;
            default: return NONE;
        }
    }

    public int leads(int door, int sort, int room, int hour) {
        if (!isDoor(door) || !isRoom(room) || !isSortInHour(sort, hour)) {
            return NONE;
        }
        return quarter.into(door, sort, room, hour, memory.scene.shut);
    }

    public int go(int person, int door) {
        if (!isPerson(person) || !isDoor(door)) {
            return NONE;
        }
        draft.scene.copy(memory.scene);
        int room = memory.scene.tryDoor(quarter, person, door);
        if (room != NONE) {
            keepForUndo(draft.scene);
        }
        return room;
    }

    public int hours(int many) {
        if (many < 1 || many > HOURS) {
            return NONE;
        }
        keepForUndo(memory.scene);
        memory.scene.pass(many);
        return memory.scene.hour;
    }

    public boolean shut(int door, boolean shut) {
        if (!isDoor(door)) {
            return false;
        }
        boolean isShut = (memory.scene.shut >> door & 1) != 0;
        if (isShut == shut) {
            return false;
        }
        keepForUndo(memory.scene);
        memory.scene.shut ^= 1 << door;
        return true;
    }

    public boolean undo() {
        if (undoable == 0) {
            return false;
        }
        undoable--;
        memory.scene.copy(past[Math.floorMod(oldest + undoable, MOST_UNDONE)]);
        return true;
    }

    public int judged(int person) {
        if (person != NONE && !isPerson(person)) {
            return NEVER;
        }
        Scene scene = draft.scene;
        scene.begin(quarter);
        int wrong = memory.playDay(quarter, scene);
        return person == NONE ? wrong : scene.where[person];
    }

    public int soonest(int person, int room) {
        if (!isPerson(person) || !isRoom(room)) {
            return NONE;
        }
        return plans.firstHourIn(quarter, memory.scene, person, room);
    }

    public int errand(int person, int what) {
        if (!isPerson(person) || what < NONE) {
            return NEVER;
        }
        int hour = plans.homeHour(quarter, memory.scene, person);
        if (hour == NONE) {
            return NEVER;
        }
        if (what == NONE) {
            return hour;
        }
        if (what == 0) {
            return hour <= quarter.people[person].by ? 1 : 0;
        }
        plans.findWay(quarter, memory.scene, person);
        return what <= plans.wayLength ? plans.way[what - 1] : NEVER;
    }

    public int reach(int person) {
        return isPerson(person) ? plans.roomsByTheEnd(quarter, memory.scene, person) : NONE;
    }

    public int stuck() {
        int stuck = 0;
        for (int i = 0; i < quarter.personCount; i++) {
            if (plans.homeHour(quarter, memory.scene, i) == NONE) {
                stuck |= 1 << i;
            }
        }
        return stuck;
    }

    public int ring(int room, int sort, int hour) {
        if (!isRoom(room) || !isSortInHour(sort, hour)) {
            return NONE;
        }
        return Web.ringOf(quarter, ahead(sort, hour), back(sort, hour), room);
    }

    public int homeless(int room, int sort, int hour) {
        if (!isRoom(room) || !isSortInHour(sort, hour)) {
            return NONE;
        }
        int all = (1 << quarter.rooms) - 1;
        return all & ~Web.roomsFrom(quarter, back(sort, hour), ahead(sort, hour), room);
    }

    public int add(int sort, int hour) {
        if (!isSortInHour(sort, hour)) {
            return NONE;
        }
        return Web.doorsToAdd(quarter, ahead(sort, hour), back(sort, hour), sort == CAT);
    }

    public int turn(int sort, int hour) {
        if (!isSortInHour(sort, hour)) {
            return NONE;
        }
        return Web.doorsToTurn(quarter, sort, hour, memory.scene.shut);
    }

    public int cut(int from, int to, int sort, int hour) {
        if (!isRoom(from) || !isRoom(to) || from == to || !isSortInHour(sort, hour)) {
            return NONE;
        }
        return Web.doorsToShut(quarter, ahead(sort, hour), back(sort, hour), from, to);
    }

    public int crowd(int from, int to, int hour) {
        if (!isRoom(from) || !isRoom(to) || from == to) {
            return NONE;
        }
        if (hour < memory.scene.hour || hour >= HOURS) {
            return NONE;
        }
        return throng.most(quarter, memory.scene, from, to, hour);
    }

    public boolean told(int from, int to, boolean came) {
        if (!isRoom(from) || !isRoom(to) || from == to) {
            return false;
        }
        return memory.noteWalk(from, to, came);
    }

    public int found(int what) {
        if (what < 0 || what > 4) {
            return NONE;
        }
        finder.search(quarter, memory, what == 3);
        if (finder.many == 0) {
            return NONE;
        }
        switch (what) {
            case 0: return finder.many << finder.idleCount;
            case 1: return finder.inAll;
            case 2: return finder.inSome | finder.idle;
            case 3: return finder.tellingPair(quarter.rooms);
            default: return finder.fewest;
        }
    }

    public int rests(int one, int other, int what) {
        if (!isHinge(one) || !isHinge(other) || one == other || what < NONE) {
            return NONE;
        }
        rents.settle(quarter, memory.scene, one, other);
        return what == NONE ? rents.restCount() : rents.restAt(what);
    }

    public int chase(int thief, int tenant) {
        if (!isRoom(thief) || !isRoom(tenant)) {
            return NONE;
        }
        int hour = memory.scene.hour;
        return web.movesToCatch(quarter, ahead(TENANT, hour), back(TENANT, hour), thief, tenant);
    }

    public int run(int what) {
        if (what != 0 && what != 1) {
            return NONE;
        }
        Scene scene = draft.scene;
        scene.copy(memory.scene);
        int inTime = plans.runDay(quarter, scene);
        if (what == 0) {
            return inTime;
        }
        return quarter.personCount - Integer.bitCount(scene.homeAndDone(quarter));
    }

    public int years(int seed, int days, int what) {
        if (seed < 0 || seed > MOST_SEED || days < 1 || days > MOST_DAYS) {
            return NONE;
        }
        if ((what != 0 && what != 1) || quarter.doorCount < 1) {
            return NONE;
        }
        return plans.runYears(quarter, draft.scene, memory.scene.shut, seed, days, what == 1);
    }

    public boolean mark(int mark, boolean back) {
        if (mark < 0 || mark >= MOST_MARKS) {
            return false;
        }
        if (!back) {
            marks[mark].copy(memory);
            marked |= 1 << mark;
            return true;
        }
        if ((marked >> mark & 1) == 0) {
            return false;
        }
        memory.copy(marks[mark]);
        undoable = 0;
        return true;
    }

    public int count(int what) {
        switch (what) {
            case 0: return quarter.rooms;
            case 1: return quarter.doorCount;
            case 2: return quarter.personCount;
            case 3: return memory.scene.hour;
            case 4: return Integer.bitCount(memory.scene.shut);
            case 5: return Integer.bitCount(memory.scene.done);
            case 6: return memory.lines;
            case 7: return memory.walks;
            case 8: return undoable;
            case 9: return reader.length;
            default: return NONE;
        }
    }

    private boolean isDoor(int door) {
        return door >= 0 && door < quarter.doorCount;
    }

    private boolean isHinge(int door) {
        return isDoor(door) && quarter.doors[door].kind == HINGE;
    }

    private boolean isPerson(int person) {
        return person >= 0 && person < quarter.personCount;
    }

    private boolean isRoom(int room) {
        return room >= 0 && room < quarter.rooms;
    }

    private boolean isSortInHour(int sort, int hour) {
        return sort >= 0 && sort < SORTS && hour >= 0 && hour < HOURS;
    }

    private int ahead(int sort, int hour) {
        return quarter.aheadIn(sort, hour, memory.scene.shut);
    }

    private int back(int sort, int hour) {
        return quarter.backIn(sort, hour, memory.scene.shut);
    }

    private void keepForUndo(Scene scene) {
        past[Math.floorMod(oldest + undoable, MOST_UNDONE)].copy(scene);
        if (undoable < MOST_UNDONE) {
            undoable++;
        } else {
            oldest = Math.floorMod(oldest + 1, MOST_UNDONE);
        }
    }

    /** A door as it was told. */
    private static final class Door {
        long name;
        int kind;
        int first;
        int second;
        int opens;
        int closes;
        int only;
        int holds;
        int price;
    }

    /** A person as told. */
    private static final class Person {
        long name;
        int sort;
        int home;
        int errand;
        int by;
    }

    /** Rooms, doors, people and the law, as told; which doors let whom by in which hour. */
    private static final class Quarter {
        static final int AHEAD = 1;
        static final int BACK = 2;

        static final int FACTS = 10000;
        static final int NOT = 10004;
        static final int AND = 10005;
        static final int OR = 10006;
        static final int LESS = 10007;
        static final int SAME = 10008;
        static final int PLUS = 10009;
        static final int MINUS = 10010;
        static final int TIMES = 10011;
        // Each of five nested levels holds back at most four operands.
        static final int STACK = 32;

        int rooms = 2;
        final Door[] doors = new Door[MOST_DOORS];
        int doorCount;
        final Person[] people = new Person[MOST_PEOPLE];
        int personCount;
        final int[] law = new int[MOST_SIGNS];
        int lawLength;
        private final int[] stack = new int[STACK];
        // Bits of the doors that let a sort by in an hour, told apart by the way through.
        private final int[] aheads = new int[SORTS * HOURS];
        private final int[] backs = new int[SORTS * HOURS];

        Quarter() {
            for (int i = 0; i < MOST_DOORS; i++) {
                doors[i] = new Door();
            }
            for (int i = 0; i < MOST_PEOPLE; i++) {
                people[i] = new Person();
            }
        }

        void clear() {
            rooms = 2;
            doorCount = 0;
            personCount = 0;
            lawLength = 0;
        }

        void addLaw(int code) {
            if (lawLength < MOST_SIGNS) {
                law[lawLength] = code;
                lawLength++;
            }
        }

        int doorNamed(long name) {
            for (int i = 0; i < doorCount; i++) {
                if (doors[i].name == name) {
                    return i;
                }
            }
            return NONE;
        }

        int personNamed(long name) {
            for (int i = 0; i < personCount; i++) {
                if (people[i].name == name) {
                    return i;
                }
            }
            return NONE;
        }

        /** The law is weighed once for all hours, since plans ask for it again and again. */
        void settle() {
            for (int sort = 0; sort < SORTS; sort++) {
                for (int hour = 0; hour < HOURS; hour++) {
                    settleHour(sort, hour);
                }
            }
        }

        private void settleHour(int sort, int hour) {
            int ahead = 0;
            int back = 0;
            for (int i = 0; i < doorCount; i++) {
                int ways = ways(i, sort, hour, doors[i].price, false);
                ahead |= (ways & AHEAD) != 0 ? 1 << i : 0;
                back |= (ways & BACK) != 0 ? 1 << i : 0;
            }
            aheads[sort * HOURS + hour] = ahead;
            backs[sort * HOURS + hour] = back;
        }

        /** By which ways a door lets a sort by in an hour, if it cost so much, turned round or not. */
        int ways(int door, int sort, int hour, int cost, boolean turned) {
            Door told = doors[door];
            boolean leadsBack = (told.kind == TURNING && hour >= NOON) != turned;
            int ways = 0;
            if ((sort == CAT || !leadsBack) && letsInto(told, sort, hour, cost, told.second)) {
                ways |= AHEAD;
            }
            if ((sort == CAT || leadsBack) && letsInto(told, sort, hour, cost, told.first)) {
                ways |= BACK;
            }
            return ways;
        }

        private boolean letsInto(Door door, int sort, int hour, int cost, int room) {
            if (door.kind == BLANK || hour < door.opens || hour >= door.closes) {
                return false;
            }
            if (door.only != NONE && door.only != sort && sort != CAT) {
                return false;
            }
            return lawFor(hour, sort, cost, room) != 0;
        }

        private int lawFor(int hour, int sort, int cost, int room) {
            int top = 0;
            for (int i = 0; i < lawLength; i++) {
                int code = law[i];
                if (code > NOT) {
                    if (top > 1) {
                        top--;
                        stack[top - 1] = join(code, stack[top - 1], stack[top]);
                    }
                } else if (code == NOT) {
                    if (top > 0) {
                        stack[top - 1] = stack[top - 1] == 0 ? 1 : 0;
                    }
                } else if (top < STACK) {
                    stack[top] = code < FACTS ? code : fact(code - FACTS, hour, sort, cost, room);
                    top++;
                }
            }
            return top > 0 ? stack[0] : 1;
        }

        private static int fact(int which, int hour, int sort, int cost, int room) {
            switch (which) {
                case 0: return hour;
                case 1: return sort;
                case 2: return cost;
                default: return room;
            }
        }

        private static int join(int code, int left, int right) {
            switch (code) {
                case AND: return left != 0 && right != 0 ? 1 : 0;
                case OR: return left != 0 || right != 0 ? 1 : 0;
                case LESS: return left < right ? 1 : 0;
                case SAME: return left == right ? 1 : 0;
                case PLUS: return left + right;
                case MINUS: return left - right;
                default: return left * right;
            }
        }

        /** The doors that let a sort by from their first room to their second one. */
        int aheadIn(int sort, int hour, int shut) {
            return hour < HOURS ? aheads[sort * HOURS + hour] & ~shut : 0;
        }

        int backIn(int sort, int hour, int shut) {
            return hour < HOURS ? backs[sort * HOURS + hour] & ~shut : 0;
        }

        int into(int door, int sort, int room, int hour, int shut) {
            Door told = doors[door];
            if (told.first == room && (aheadIn(sort, hour, shut) >> door & 1) != 0) {
                return told.second;
            }
            if (told.second == room && (backIn(sort, hour, shut) >> door & 1) != 0) {
                return told.first;
            }
            return NONE;
        }

        /** The rooms that one comes into out of some others through one door. */
        int entered(int ahead, int back, int from) {
            int entered = 0;
            for (int i = 0; i < doorCount; i++) {
                Door told = doors[i];
                if ((ahead >> i & 1) != 0 && (from >> told.first & 1) != 0) {
                    entered |= 1 << told.second;
                }
                if ((back >> i & 1) != 0 && (from >> told.second & 1) != 0) {
                    entered |= 1 << told.first;
                }
            }
            return entered;
        }
    }

    /** Where all are in an hour, and what they have done. */
    private static final class Scene {
        int hour;
        int shut;
        int gone;
        int done;
        final int[] where = new int[MOST_PEOPLE];
        final int[] through = new int[MOST_DOORS];

        void begin(Quarter quarter) {
            hour = 0;
            shut = 0;
            gone = 0;
            done = 0;
            Arrays.fill(through, 0);
            for (int i = 0; i < quarter.personCount; i++) {
                Person told = quarter.people[i];
                where[i] = told.home;
                done |= told.errand == told.home ? 1 << i : 0;
            }
        }

        void copy(Scene other) {
            hour = other.hour;
            shut = other.shut;
            gone = other.gone;
            done = other.done;
            System.arraycopy(other.where, 0, where, 0, MOST_PEOPLE);
            System.arraycopy(other.through, 0, through, 0, MOST_DOORS);
        }

        void pass(int many) {
            hour = Math.min(HOURS, hour + many);
            gone = 0;
            Arrays.fill(through, 0);
        }

        int tryDoor(Quarter quarter, int person, int door) {
            if (hour >= HOURS || (gone >> person & 1) != 0) {
                return NONE;
            }
            Person told = quarter.people[person];
            int room = quarter.into(door, told.sort, where[person], hour, shut);
            if (room == NONE || through[door] >= quarter.doors[door].holds) {
                return NONE;
            }
            where[person] = room;
            through[door]++;
            gone |= 1 << person;
            done |= room == told.errand ? 1 << person : 0;
            return room;
        }

        int firstFreeHour(int person) {
            return hour + (gone >> person & 1);
        }

        int homeAndDone(Quarter quarter) {
            int home = 0;
            for (int i = 0; i < quarter.personCount; i++) {
                home |= where[i] == quarter.people[i].home ? 1 << i : 0;
            }
            return home & done;
        }
    }

    /** What a mark holds: the scene, the day, and the walks that were told. */
    private static final class Memory {
        final Scene scene = new Scene();
        int lines;
        // A line without a person is an hour.
        final int[] goer = new int[MOST_LINES];
        final int[] goneBy = new int[MOST_LINES];
        int walks;
        final int[] walkFrom = new int[MOST_TOLD];
        final int[] walkTo = new int[MOST_TOLD];
        int walksThatCame;

        void begin(Quarter quarter) {
            scene.begin(quarter);
            lines = 0;
            walks = 0;
            walksThatCame = 0;
        }

        void copy(Memory other) {
            scene.copy(other.scene);
            copyDay(other);
            walks = other.walks;
            walksThatCame = other.walksThatCame;
            System.arraycopy(other.walkFrom, 0, walkFrom, 0, MOST_TOLD);
            System.arraycopy(other.walkTo, 0, walkTo, 0, MOST_TOLD);
        }

        void copyDay(Memory other) {
            lines = other.lines;
            System.arraycopy(other.goer, 0, goer, 0, MOST_LINES);
            System.arraycopy(other.goneBy, 0, goneBy, 0, MOST_LINES);
        }

        void addLine(int person, int door) {
            if (lines < MOST_LINES) {
                goer[lines] = person;
                goneBy[lines] = door;
                lines++;
            }
        }

        /** Plays the day in a scene that has just begun: the first line that can't be. */
        int playDay(Quarter quarter, Scene played) {
            int wrong = NONE;
            for (int i = 0; i < lines; i++) {
                if (goer[i] == NONE) {
                    played.pass(1);
                } else if (played.tryDoor(quarter, goer[i], goneBy[i]) == NONE && wrong == NONE) {
                    wrong = i;
                }
            }
            return wrong;
        }

        boolean noteWalk(int from, int to, boolean came) {
            if (walks >= MOST_TOLD) {
                return false;
            }
            walkFrom[walks] = from;
            walkTo[walks] = to;
            int bit = 1 << walks;
            walksThatCame = came ? walksThatCame | bit : walksThatCame & ~bit;
            walks++;
            return true;
        }
    }

    /** The tape, its tokens from the left, and what is read of them up to the first fault. */
    private static final class Reader {
        private static final String WORDS = "rooms door to open for holds price person at errand by let go hour plain turning hinge blank tenant soldier child cat not and or time sort cost room ";
        private static final int WORD_COUNT = 29;
        private static final int ROOMS = 0;
        private static final int DOOR = 1;
        private static final int TO = 2;
        private static final int OPEN = 3;
        private static final int FOR = 4;
        private static final int HOLDS = 5;
        private static final int PRICE = 6;
        private static final int PERSON = 7;
        private static final int AT = 8;
        private static final int ERRAND = 9;
        private static final int BY = 10;
        private static final int LET = 11;
        private static final int GO = 12;
        private static final int HOUR = 13;
        private static final int FIRST_KIND = 14;
        private static final int FIRST_SORT = 18;
        private static final int NOT = 22;
        private static final int AND = 23;
        private static final int OR = 24;
        // From here on a word is a fact in the law, but may be a name elsewhere.
        private static final int FIRST_FACT = 25;

        private static final int LONGEST_WORD = 8;
        private static final int LONGEST_NUMBER = 4;
        private static final int END_TOKEN = 0;
        private static final int NO_TOKEN = 1;
        private static final int WORD_TOKEN = 2;
        private static final int NUMBER_TOKEN = 3;
        private static final int SIGN_TOKEN = 4;

        private static final int MISPLACED = 1;
        private static final int UNKNOWN = 2;
        private static final int AGAIN = 3;
        private static final int BAD_NUMBER = 4;
        private static final int TOO_MANY = 5;

        private static final int TEST_LEVEL = 1;
        private static final int PART_LEVEL = 4;
        private static final int MOST_NESTED = 5;

        int length;
        private final byte[] signs = new byte[MOST_SIGNS];
        private final long[] words = new long[WORD_COUNT];
        private int kind;
        private int place;
        private int behind;
        private long value;
        private int word;
        private int fault;

        Reader() {
            int filled = 0;
            for (int i = 0; i < WORDS.length() && filled < WORD_COUNT; i++) {
                char sign = WORDS.charAt(i);
                if (sign == ' ') {
                    filled++;
                } else {
                    words[filled] = withLetter(words[filled], sign);
                }
            }
        }

        void putBytes(long bytes) {
            for (int shift = 56; shift >= 0; shift -= 8) {
                int sign = (int) (bytes >>> shift) & 255;
                boolean kept = sign == 10 || sign >= 32 && sign <= 126;
                if (kept && length < MOST_SIGNS) {
                    signs[length] = (byte) sign;
                    length++;
                }
            }
        }

        int readQuarter(Quarter quarter) {
            begin();
            quarter.clear();
            takeWord(ROOMS);
            quarter.rooms = takeNumber(2, MOST_ROOMS);
            takeSign(';');
            for (int i = 0; i < MOST_SIGNS && fault == 0 && kind != END_TOKEN; i++) {
                switch (word) {
                    case DOOR: doorLine(quarter); break;
                    case PERSON: personLine(quarter); break;
                    case LET: letLine(quarter); break;
                    default: fail(MISPLACED);
                }
            }
            length = 0;
            return fault;
        }

        int readDay(Quarter quarter, Memory memory) {
            begin();
            memory.lines = 0;
            for (int i = 0; i < MOST_SIGNS && fault == 0 && kind != END_TOKEN; i++) {
                dayLine(quarter, memory);
            }
            length = 0;
            return fault;
        }

        private void doorLine(Quarter quarter) {
            if (quarter.doorCount >= MOST_DOORS) {
                fail(TOO_MANY);
                return;
            }
            Door told = quarter.doors[quarter.doorCount];
            step();
            told.name = takeNewName(quarter);
            told.first = takeNumber(0, quarter.rooms - 1);
            takeWord(TO);
            told.second = takeOtherRoom(told.first, quarter.rooms);
            told.kind = takeOneOfFour(FIRST_KIND);
            boolean hasHours = skipWord(OPEN);
            told.opens = hasHours ? takeNumber(0, HOURS - 1) : 0;
            if (hasHours) {
                takeWord(TO);
            }
            told.closes = hasHours ? takeNumber(told.opens + 1, HOURS) : HOURS;
            told.only = skipWord(FOR) ? takeOneOfFour(FIRST_SORT) : NONE;
            told.holds = skipWord(HOLDS) ? takeNumber(1, 9) : 1;
            told.price = skipWord(PRICE) ? takeNumber(0, 9) : 0;
            takeSign(';');
            quarter.doorCount++;
        }

        private void personLine(Quarter quarter) {
            if (quarter.personCount >= MOST_PEOPLE) {
                fail(TOO_MANY);
                return;
            }
            Person told = quarter.people[quarter.personCount];
            step();
            told.name = takeNewName(quarter);
            told.sort = takeOneOfFour(FIRST_SORT);
            takeWord(AT);
            told.home = takeNumber(0, quarter.rooms - 1);
            takeWord(ERRAND);
            told.errand = takeNumber(0, quarter.rooms - 1);
            takeWord(BY);
            told.by = takeNumber(1, HOURS);
            takeSign(';');
            quarter.personCount++;
        }

        private void letLine(Quarter quarter) {
            if (quarter.lawLength > 0) {
                fail(AGAIN);
                return;
            }
            step();
            expression(quarter, 0, 0);
            takeSign(';');
        }

        private void dayLine(Quarter quarter, Memory memory) {
            boolean isHour = word == HOUR;
            if (!isHour && word != GO) {
                fail(MISPLACED);
                return;
            }
            if (memory.lines >= MOST_LINES) {
                fail(TOO_MANY);
                return;
            }
            step();
            int person = NONE;
            int door = NONE;
            if (!isHour) {
                person = takeKnownName(quarter.personNamed(value));
                door = takeKnownName(quarter.doorNamed(value));
            }
            takeSign(';');
            if (fault == 0) {
                memory.addLine(person, door);
            }
        }

        /** Writes operators behind their operands; the levels: and or; less same; + -; *; a part. */
        private void expression(Quarter quarter, int level, int depth) {
            if (level >= PART_LEVEL) {
                part(quarter, depth);
                return;
            }
            expression(quarter, level + 1, depth);
            for (int i = 0; i < MOST_SIGNS && fault == 0; i++) {
                int code = operatorOf(level);
                if (code == NONE) {
                    return;
                }
                step();
                expression(quarter, level + 1, depth);
                quarter.addLaw(code);
                if (level == TEST_LEVEL) {
                    return;
                }
            }
        }

        private int operatorOf(int level) {
            switch (level) {
                case 0: return word == AND ? Quarter.AND : word == OR ? Quarter.OR : NONE;
                case 1: return isSign('<') ? Quarter.LESS : isSign('=') ? Quarter.SAME : NONE;
                case 2: return isSign('+') ? Quarter.PLUS : isSign('-') ? Quarter.MINUS : NONE;
                default: return isSign('*') ? Quarter.TIMES : NONE;
            }
        }

        private void part(Quarter quarter, int depth) {
            boolean isNumber = kind == NUMBER_TOKEN;
            boolean isFact = word >= FIRST_FACT;
            boolean isBracket = isSign('(');
            if (!isNumber && !isFact && !isBracket && word != NOT) {
                fail(MISPLACED);
                return;
            }
            if (depth >= MOST_NESTED) {
                fail(TOO_MANY);
                return;
            }
            if (isNumber || isFact) {
                quarter.addLaw(isNumber ? (int) value : Quarter.FACTS + word - FIRST_FACT);
                step();
            } else if (isBracket) {
                step();
                expression(quarter, 0, depth + 1);
                takeSign(')');
            } else {
                step();
                part(quarter, depth + 1);
                quarter.addLaw(Quarter.NOT);
            }
        }

        private void takeWord(int wanted) {
            if (word == wanted) {
                step();
            } else {
                fail(MISPLACED);
            }
        }

        private boolean skipWord(int wanted) {
            if (fault != 0 || word != wanted) {
                return false;
            }
            step();
            return true;
        }

        private void takeSign(char wanted) {
            if (isSign(wanted)) {
                step();
            } else {
                fail(MISPLACED);
            }
        }

        private int takeOneOfFour(int first) {
            int which = word - first;
            if (which < 0 || which > 3) {
                fail(MISPLACED);
                return 0;
            }
            step();
            return which;
        }

        private int takeNumber(int least, int most) {
            if (kind != NUMBER_TOKEN) {
                fail(MISPLACED);
                return least;
            }
            if (value < least || value > most) {
                fail(BAD_NUMBER);
                return least;
            }
            int number = (int) value;
            step();
            return number;
        }

        private int takeOtherRoom(int first, int rooms) {
            if (kind == NUMBER_TOKEN && value == first) {
                fail(AGAIN);
                return first;
            }
            return takeNumber(0, rooms - 1);
        }

        private long takeNewName(Quarter quarter) {
            long name = value;
            if (!isName()) {
                fail(MISPLACED);
            } else if (quarter.doorNamed(name) != NONE || quarter.personNamed(name) != NONE) {
                fail(AGAIN);
            } else {
                step();
            }
            return name;
        }

        private int takeKnownName(int whose) {
            if (!isName()) {
                fail(MISPLACED);
            } else if (whose == NONE) {
                fail(UNKNOWN);
            } else {
                step();
            }
            return whose;
        }

        private boolean isName() {
            return kind == WORD_TOKEN && (word == NONE || word >= FIRST_FACT);
        }

        private boolean isSign(char sign) {
            return kind == SIGN_TOKEN && value == sign;
        }

        /** Only the first fault counts: behind it nothing is stepped over. */
        private void fail(int why) {
            if (fault == 0) {
                fault = why + 16 * place;
            }
        }

        private void begin() {
            fault = 0;
            behind = 0;
            step();
        }

        private void step() {
            if (fault != 0) {
                return;
            }
            int at = behind;
            while (at < length && (signs[at] == 10 || signs[at] == 32)) {
                at++;
            }
            place = at;
            value = 0;
            word = NONE;
            if (at >= length) {
                kind = END_TOKEN;
            } else if (isLetter(at)) {
                scanWord();
            } else if (isDigit(at)) {
                scanNumber();
            } else {
                behind = at + 1;
                value = signs[at];
                kind = isTokenSign(signs[at]) ? SIGN_TOKEN : NO_TOKEN;
            }
        }

        private void scanWord() {
            int at = place;
            while (at < length && isLetter(at)) {
                value = withLetter(value, (char) signs[at]);
                at++;
            }
            behind = at;
            kind = at - place <= LONGEST_WORD ? WORD_TOKEN : NO_TOKEN;
            for (int i = 0; i < WORD_COUNT && kind == WORD_TOKEN; i++) {
                if (words[i] == value) {
                    word = i;
                }
            }
        }

        private void scanNumber() {
            int at = place;
            while (at < length && isDigit(at)) {
                value = value * 10 + signs[at] - '0';
                at++;
            }
            behind = at;
            kind = at - place <= LONGEST_NUMBER ? NUMBER_TOKEN : NO_TOKEN;
        }

        private boolean isLetter(int at) {
            return signs[at] >= 'a' && signs[at] <= 'z';
        }

        private boolean isDigit(int at) {
            return signs[at] >= '0' && signs[at] <= '9';
        }

        private static boolean isTokenSign(int sign) {
            return sign == '(' || sign == ')' || sign == '<' || sign == '=' || sign == '+'
                || sign == '-' || sign == '*' || sign == ';';
        }

        /** Eight letters of five bits each have room in one number. */
        private static long withLetter(long letters, char letter) {
            return letters * 32 + letter - 'a' + 1;
        }
    }

    /** What one can do from now on, alone; and days run by such plans. */
    private static final class Plans {
        private static final int FAR = 1000;
        private static final int STATES = MOST_ROOMS * 2;

        int wayLength;
        final int[] way = new int[HOURS];
        // The fewest doors from an hour on in a state (room * 2, + 1 with the errand done).
        private final int[] need = new int[(HOURS + 1) * STATES];
        // Where the way that is being laid has come to.
        private int wayHour;
        private int wayState;

        int firstHourIn(Quarter quarter, Scene scene, int person, int room) {
            if (scene.where[person] == room) {
                return scene.hour;
            }
            int sort = quarter.people[person].sort;
            int rooms = 1 << scene.where[person];
            for (int hour = scene.firstFreeHour(person); hour < HOURS; hour++) {
                rooms |= nextRooms(quarter, scene, sort, hour, rooms);
                if ((rooms >> room & 1) != 0) {
                    return hour;
                }
            }
            return NONE;
        }

        int roomsByTheEnd(Quarter quarter, Scene scene, int person) {
            int sort = quarter.people[person].sort;
            int rooms = 1 << scene.where[person];
            for (int hour = scene.firstFreeHour(person); hour < HOURS; hour++) {
                rooms |= nextRooms(quarter, scene, sort, hour, rooms);
            }
            return rooms;
        }

        private static int nextRooms(Quarter quarter, Scene scene, int sort, int hour, int rooms) {
            int ahead = quarter.aheadIn(sort, hour, scene.shut);
            int back = quarter.backIn(sort, hour, scene.shut);
            return quarter.entered(ahead, back, rooms);
        }

        /** The soonest hour at home with the errand done, or NONE. */
        int homeHour(Quarter quarter, Scene scene, int person) {
            Person told = quarter.people[person];
            int goal = 1 << told.errand;
            boolean done = (scene.done >> person & 1) != 0;
            int before = done ? 0 : 1 << scene.where[person];
            int after = done ? 1 << scene.where[person] : 0;
            if ((after >> told.home & 1) != 0) {
                return scene.hour;
            }
            for (int hour = scene.firstFreeHour(person); hour < HOURS; hour++) {
                int came = nextRooms(quarter, scene, told.sort, hour, before);
                after |= nextRooms(quarter, scene, told.sort, hour, after) | came & goal;
                before |= came & ~goal;
                if ((after >> told.home & 1) != 0) {
                    return hour;
                }
            }
            return NONE;
        }

        /** Lays the way of a person; it is empty if there is none, or if no door is needed more. */
        void findWay(Quarter quarter, Scene scene, int person) {
            wayLength = 0;
            int last = homeHour(quarter, scene, person);
            wayHour = scene.firstFreeHour(person);
            if (last == NONE || last >= HOURS || wayHour > last) {
                return;
            }
            Person told = quarter.people[person];
            fillNeed(quarter, told, scene.shut, wayHour, last);
            wayState = scene.where[person] * 2 + (scene.done >> person & 1);
            int doors = need[wayHour * STATES + wayState];
            for (int i = 0; i < doors && i < HOURS; i++) {
                int door = nextDoor(quarter, told, scene.shut, last);
                if (door == NONE) {
                    return;
                }
                way[wayLength] = door;
                wayLength++;
                wayHour = hourThrough(quarter, told.sort, scene.shut, door, last) + 1;
                wayState = stateThrough(quarter, told.errand, door);
            }
        }

        private void fillNeed(Quarter quarter, Person told, int shut, int first, int last) {
            int behindLast = (last + 1) * STATES;
            for (int state = 0; state < STATES; state++) {
                need[behindLast + state] = state == told.home * 2 + 1 ? 0 : FAR;
            }
            for (int at = last; at >= first; at--) {
                System.arraycopy(need, (at + 1) * STATES, need, at * STATES, STATES);
                int ahead = quarter.aheadIn(told.sort, at, shut);
                int back = quarter.backIn(told.sort, at, shut);
                for (int i = 0; i < quarter.doorCount; i++) {
                    Door door = quarter.doors[i];
                    if ((ahead >> i & 1) != 0) {
                        lessenNeed(told, at, door.first, door.second);
                    }
                    if ((back >> i & 1) != 0) {
                        lessenNeed(told, at, door.second, door.first);
                    }
                }
            }
        }

        private void lessenNeed(Person told, int at, int from, int to) {
            for (int done = 0; done < 2; done++) {
                int doneThen = to == told.errand ? 1 : done;
                int now = at * STATES + from * 2 + done;
                int then = (at + 1) * STATES + to * 2 + doneThen;
                need[now] = Math.min(need[now], need[then] + 1);
            }
        }

        /**
         * The least door by which no door more than needed is gone through. Going as early as the
         * door lets one by is never worse: one may wait behind it as well as ahead of it.
         */
        private int nextDoor(Quarter quarter, Person told, int shut, int last) {
            for (int door = 0; door < quarter.doorCount; door++) {
                int through = hourThrough(quarter, told.sort, shut, door, last);
                if (through == NONE) {
                    continue;
                }
                int then = (through + 1) * STATES + stateThrough(quarter, told.errand, door);
                if (need[then] == need[wayHour * STATES + wayState] - 1) {
                    return door;
                }
            }
            return NONE;
        }

        private int hourThrough(Quarter quarter, int sort, int shut, int door, int last) {
            for (int i = wayHour; i <= last; i++) {
                if (quarter.into(door, sort, wayState / 2, i, shut) != NONE) {
                    return i;
                }
            }
            return NONE;
        }

        private int stateThrough(Quarter quarter, int errand, int door) {
            Door told = quarter.doors[door];
            int room = told.first == wayState / 2 ? told.second : told.first;
            return room * 2 + (room == errand ? 1 : wayState % 2);
        }

        /** Runs a scene to its end: how many were at home in time with their errands done. */
        int runDay(Quarter quarter, Scene scene) {
            int inTime = 0;
            for (int hour = scene.hour; hour <= HOURS; hour++) {
                for (int i = 0; i < quarter.personCount; i++) {
                    goOn(quarter, scene, i);
                }
                inTime |= scene.homeAndDone(quarter) & peopleDueFrom(quarter, hour);
                scene.pass(1);
            }
            return Integer.bitCount(inTime);
        }

        private void goOn(Quarter quarter, Scene scene, int person) {
            if ((scene.gone >> person & 1) != 0) {
                return;
            }
            findWay(quarter, scene, person);
            if (wayLength > 0) {
                scene.tryDoor(quarter, person, way[0]);
            }
        }

        private static int peopleDueFrom(Quarter quarter, int hour) {
            int due = 0;
            for (int i = 0; i < quarter.personCount; i++) {
                due |= hour <= quarter.people[i].by ? 1 << i : 0;
            }
            return due;
        }

        int runYears(Quarter quarter, Scene scene, int shutNow, int seed, int days, boolean worst) {
            long drawn = seed;
            int shut = shutNow;
            int all = 0;
            int least = MOST_PEOPLE;
            for (int day = 0; day < days; day++) {
                drawn = nextDraw(drawn);
                shut ^= 1 << below(drawn, quarter.doorCount);
                drawn = nextDraw(drawn);
                if (below(drawn, 10) == 0) {
                    shut = 0;
                }
                scene.begin(quarter);
                scene.shut = shut;
                int done = doneInTime(quarter, scene);
                all += done;
                least = Math.min(least, done);
            }
            return worst ? least : all;
        }

        private static long nextDraw(long drawn) {
            return (drawn * 1103515245L + 12345L) % 2147483648L;
        }

        private static int below(long drawn, int bound) {
            return bound > 0 ? (int) (drawn / 65536 % bound) : 0;
        }

        private int doneInTime(Quarter quarter, Scene scene) {
            int many = 0;
            for (int i = 0; i < quarter.personCount; i++) {
                int hour = homeHour(quarter, scene, i);
                if (hour != NONE && hour <= quarter.people[i].by) {
                    many++;
                }
            }
            return many;
        }
    }

    /** Rooms and doors in an hour that never passes: doors by the ways they let one by. */
    private static final class Web {
        private static final int MOST_MOVES = 2 * MOST_ROOMS * MOST_ROOMS + 2;

        // For each room of the thief: the tenant's rooms from which he is caught, by whose turn it is.
        private final int[] thiefNext = new int[MOST_ROOMS];
        private final int[] tenantNext = new int[MOST_ROOMS];
        private final int[] grown = new int[MOST_ROOMS];

        static int roomsFrom(Quarter quarter, int ahead, int back, int room) {
            int rooms = 1 << room;
            for (int i = 0; i < MOST_ROOMS; i++) {
                int more = rooms | quarter.entered(ahead, back, rooms);
                if (more == rooms) {
                    break;
                }
                rooms = more;
            }
            return rooms;
        }

        /** Whoever walks the doors against their ways finds from where one comes. */
        static int ringOf(Quarter quarter, int ahead, int back, int room) {
            return roomsFrom(quarter, ahead, back, room) & roomsFrom(quarter, back, ahead, room);
        }

        private static boolean isOneRing(Quarter quarter, int ahead, int back) {
            int all = (1 << quarter.rooms) - 1;
            return roomsFrom(quarter, ahead, back, 0) == all && roomsFrom(quarter, back, ahead, 0) == all;
        }

        /**
         * Each ring that none comes into needs a door in, each that none leaves a door out, and one
         * door serves one of both. Where doors go both ways, rings all alone need one less: a chain.
         */
        static int doorsToAdd(Quarter quarter, int ahead, int back, boolean bothWays) {
            int rings = 0;
            int noWayIn = 0;
            int noWayOut = 0;
            for (int room = 0; room < quarter.rooms; room++) {
                int out = roomsFrom(quarter, ahead, back, room);
                int in = roomsFrom(quarter, back, ahead, room);
                int ring = out & in;
                if ((ring & (1 << room) - 1) != 0) {
                    continue;
                }
                rings++;
                noWayIn += in == ring ? 1 : 0;
                noWayOut += out == ring ? 1 : 0;
            }
            if (rings == 1) {
                return 0;
            }
            if (bothWays && noWayIn == rings) {
                return rings - 1;
            }
            return Math.max(noWayIn, noWayOut);
        }

        static int doorsToTurn(Quarter quarter, int sort, int hour, int shut) {
            int ahead = quarter.aheadIn(sort, hour, shut);
            int back = quarter.backIn(sort, hour, shut);
            int turnedAhead = 0;
            int turnedBack = 0;
            for (int i = 0; i < quarter.doorCount; i++) {
                int ways = quarter.ways(i, sort, hour, quarter.doors[i].price, true);
                turnedAhead |= (ways & Quarter.AHEAD) != 0 ? 1 << i : 0;
                turnedBack |= (ways & Quarter.BACK) != 0 ? 1 << i : 0;
            }
            turnedAhead &= ~shut;
            turnedBack &= ~shut;
            if (!isOneRing(quarter, ahead | turnedAhead, back | turnedBack)) {
                return NONE;
            }
            int useless = ~(ahead ^ turnedAhead | back ^ turnedBack);
            int best = NONE;
            int fewest = MOST_DOORS + 1;
            for (int set = 0; set < 1 << quarter.doorCount; set++) {
                if ((set & useless) != 0 || Integer.bitCount(set) >= fewest) {
                    continue;
                }
                int setAhead = ahead & ~set | turnedAhead & set;
                int setBack = back & ~set | turnedBack & set;
                if (isOneRing(quarter, setAhead, setBack)) {
                    best = set;
                    fewest = Integer.bitCount(set);
                }
            }
            return best;
        }

        static int doorsToShut(Quarter quarter, int ahead, int back, int from, int to) {
            int useless = ~(ahead | back);
            int best = NONE;
            int fewest = MOST_DOORS + 1;
            for (int set = 0; set < 1 << quarter.doorCount; set++) {
                if ((set & useless) != 0 || Integer.bitCount(set) >= fewest) {
                    continue;
                }
                int rooms = roomsFrom(quarter, ahead & ~set, back & ~set, from);
                if ((rooms >> to & 1) == 0) {
                    best = set;
                    fewest = Integer.bitCount(set);
                }
            }
            return best;
        }

        int movesToCatch(Quarter quarter, int ahead, int back, int thief, int tenant) {
            for (int room = 0; room < MOST_ROOMS; room++) {
                thiefNext[room] = 1 << room;
                tenantNext[room] = 1 << room;
            }
            for (int moves = 0; moves <= MOST_MOVES; moves++) {
                if ((thiefNext[thief] >> tenant & 1) != 0) {
                    return moves;
                }
                if (!growCaught(quarter, ahead, back)) {
                    return NONE;
                }
            }
            return NONE;
        }

        /** Both turns grow from what is caught within one move less; false: neither did. */
        private boolean growCaught(Quarter quarter, int ahead, int back) {
            for (int room = 0; room < quarter.rooms; room++) {
                int choices = 1 << room | quarter.entered(ahead, back, 1 << room);
                int caught = -1;
                for (int next = 0; next < quarter.rooms; next++) {
                    caught &= (choices >> next & 1) != 0 ? tenantNext[next] : -1;
                }
                grown[room] = caught | 1 << room;
            }
            boolean changed = false;
            for (int room = 0; room < quarter.rooms; room++) {
                int near = thiefNext[room] | quarter.entered(back, ahead, thiefNext[room]);
                changed |= near != tenantNext[room] || grown[room] != thiefNext[room];
                tenantNext[room] = near;
                thiefNext[room] = grown[room];
            }
            return changed;
        }
    }

    /** The sets of doors by which all walks are as they were told. */
    private static final class Finder {
        int many;
        int inAll;
        int inSome;
        int fewest;
        // Doors that let no tenant by now are as well there as not.
        int idle;
        int idleCount;
        private boolean counting;
        private int arcs;
        private final int[] arcDoor = new int[MOST_DOORS];
        private final int[] arcFrom = new int[MOST_DOORS];
        private final int[] arcTo = new int[MOST_DOORS];
        // Where one comes from each room, by the doors of the first arcs: one row for each many.
        private final int[] rows = new int[(MOST_DOORS + 1) * MOST_ROOMS];
        private final int[] comers = new int[MOST_ROOMS * MOST_ROOMS];

        void search(Quarter quarter, Memory memory, boolean pairsToo) {
            many = 0;
            inAll = (1 << MOST_DOORS) - 1;
            inSome = 0;
            fewest = NONE;
            counting = pairsToo;
            Arrays.fill(comers, 0);
            listArcs(quarter, memory.scene);
            for (int room = 0; room < MOST_ROOMS; room++) {
                rows[room] = 1 << room;
            }
            grow(memory, 0, 0);
        }

        private void listArcs(Quarter quarter, Scene scene) {
            int ahead = quarter.aheadIn(TENANT, scene.hour, scene.shut);
            int back = quarter.backIn(TENANT, scene.hour, scene.shut);
            arcs = 0;
            idle = 0;
            for (int i = 0; i < quarter.doorCount; i++) {
                Door told = quarter.doors[i];
                boolean goesAhead = (ahead >> i & 1) != 0;
                if (goesAhead || (back >> i & 1) != 0) {
                    arcDoor[arcs] = i;
                    arcFrom[arcs] = goesAhead ? told.first : told.second;
                    arcTo[arcs] = goesAhead ? told.second : told.first;
                    arcs++;
                } else if ((scene.shut >> i & 1) == 0) {
                    idle |= 1 << i;
                }
            }
            idleCount = Integer.bitCount(idle);
        }

        private void grow(Memory memory, int depth, int set) {
            if (depth >= arcs) {
                weigh(memory, set);
                return;
            }
            int row = depth * MOST_ROOMS;
            int next = row + MOST_ROOMS;
            System.arraycopy(rows, row, rows, next, MOST_ROOMS);
            grow(memory, depth + 1, set);
            for (int room = 0; room < MOST_ROOMS; room++) {
                boolean comes = (rows[row + room] >> arcFrom[depth] & 1) != 0;
                rows[next + room] = rows[row + room] | (comes ? rows[row + arcTo[depth]] : 0);
            }
            grow(memory, depth + 1, set | 1 << arcDoor[depth]);
        }

        private void weigh(Memory memory, int set) {
            int row = arcs * MOST_ROOMS;
            for (int i = 0; i < memory.walks; i++) {
                int comes = rows[row + memory.walkFrom[i]] >> memory.walkTo[i] & 1;
                if (comes != (memory.walksThatCame >> i & 1)) {
                    return;
                }
            }
            many++;
            inAll &= set;
            inSome |= set;
            int size = Integer.bitCount(set);
            int least = fewest == NONE ? MOST_DOORS + 1 : Integer.bitCount(fewest);
            if (size < least || size == least && set < fewest) {
                fewest = set;
            }
            if (counting) {
                countComers(row);
            }
        }

        private void countComers(int row) {
            for (int from = 0; from < MOST_ROOMS; from++) {
                int rooms = rows[row + from];
                for (int to = 0; to < MOST_ROOMS; to++) {
                    comers[from * MOST_ROOMS + to] += rooms >> to & 1;
                }
            }
        }

        int tellingPair(int rooms) {
            int best = NONE;
            int evenest = 0;
            for (int from = 0; from < rooms; from++) {
                for (int to = 0; to < rooms; to++) {
                    int came = comers[from * MOST_ROOMS + to];
                    int lesser = Math.min(came, many - came);
                    if (from != to && lesser > evenest) {
                        evenest = lesser;
                        best = from * 10 + to;
                    }
                }
            }
            return best;
        }
    }

    /** The most that come from a room to another one: a flow through the hours. */
    private static final class Crowd {
        private static final int WAIT = -1;
        private static final int NODES = (HOURS + 1) * MOST_ROOMS;
        private static final int ENDLESS = 1000000;
        // More than all doors hold in all hours.
        private static final int MOST_PATHS = 4000;

        // A node is a room at the beginning of an hour: (the hour - the first one) * 10 + room.
        private final int[] passed = new int[HOURS * MOST_DOORS];
        private final int[] waited = new int[HOURS * MOST_ROOMS];
        private final int[] nodeFrom = new int[NODES];
        private final int[] nodeBy = new int[NODES];
        private final int[] queue = new int[NODES];
        private int queued;
        private int firstHour;
        private int lastLayer;

        int most(Quarter quarter, Scene scene, int from, int to, int hour) {
            firstHour = scene.hour;
            lastLayer = hour - scene.hour + 1;
            Arrays.fill(passed, 0);
            Arrays.fill(waited, 0);
            int sink = lastLayer * MOST_ROOMS + to;
            int all = 0;
            for (int i = 0; i < MOST_PATHS && findPath(quarter, scene.shut, from, sink); i++) {
                int many = narrowest(quarter, from, sink);
                send(from, sink, many);
                all += many;
            }
            return all;
        }

        private boolean findPath(Quarter quarter, int shut, int source, int sink) {
            Arrays.fill(nodeFrom, NONE);
            queued = 0;
            visit(source, source, WAIT);
            for (int i = 0; i < queued && nodeFrom[sink] == NONE; i++) {
                goForward(quarter, shut, queue[i]);
                goBack(quarter, shut, queue[i]);
            }
            return nodeFrom[sink] != NONE;
        }

        private void visit(int node, int from, int by) {
            if (nodeFrom[node] == NONE && queued < NODES) {
                nodeFrom[node] = from;
                nodeBy[node] = by;
                queue[queued] = node;
                queued++;
            }
        }

        private void goForward(Quarter quarter, int shut, int node) {
            int layer = node / MOST_ROOMS;
            int room = node % MOST_ROOMS;
            if (layer >= lastLayer) {
                return;
            }
            for (int door = 0; door < quarter.doorCount; door++) {
                int next = quarter.into(door, TENANT, room, firstHour + layer, shut);
                if (next != NONE && passed[layer * MOST_DOORS + door] < quarter.doors[door].holds) {
                    visit((layer + 1) * MOST_ROOMS + next, node, door);
                }
            }
            visit(node + MOST_ROOMS, node, WAIT);
        }

        /** Who was sent into a room an hour ago may be sent elsewhere. */
        private void goBack(Quarter quarter, int shut, int node) {
            int layer = node / MOST_ROOMS - 1;
            int room = node % MOST_ROOMS;
            if (layer < 0) {
                return;
            }
            for (int door = 0; door < quarter.doorCount; door++) {
                if (passed[layer * MOST_DOORS + door] <= 0) {
                    continue;
                }
                Door told = quarter.doors[door];
                int before = told.first == room ? told.second : told.first;
                if (quarter.into(door, TENANT, before, firstHour + layer, shut) == room) {
                    visit(layer * MOST_ROOMS + before, node, door);
                }
            }
            if (waited[layer * MOST_ROOMS + room] > 0) {
                visit(node - MOST_ROOMS, node, WAIT);
            }
        }

        private int narrowest(Quarter quarter, int source, int sink) {
            int many = ENDLESS;
            int node = sink;
            for (int i = 0; i < NODES && node != source; i++) {
                int from = nodeFrom[node];
                int by = nodeBy[node];
                int layer = Math.min(from, node) / MOST_ROOMS;
                if (by != WAIT) {
                    int sent = passed[layer * MOST_DOORS + by];
                    many = Math.min(many, from < node ? quarter.doors[by].holds - sent : sent);
                } else if (from > node) {
                    many = Math.min(many, waited[node]);
                }
                node = from;
            }
            return many;
        }

        private void send(int source, int sink, int many) {
            int node = sink;
            for (int i = 0; i < NODES && node != source; i++) {
                int from = nodeFrom[node];
                int by = nodeBy[node];
                int earlier = Math.min(from, node);
                int more = from < node ? many : -many;
                if (by == WAIT) {
                    waited[earlier] += more;
                } else {
                    passed[earlier / MOST_ROOMS * MOST_DOORS + by] += more;
                }
                node = from;
            }
        }
    }

    /** Two landlords of hinges, and what each has by every pair of their prices. */
    private static final class Rents {
        private static final int FAR = 1000000;
        // Above the doors of any way, so that doors part only ways of equal prices.
        private static final int DEARNESS = 64;

        private int one;
        private int other;
        private final int[] best = new int[MOST_ROOMS];
        private final int[] weights = new int[MOST_DOORS];
        // By which ways a hinge lets a sort by at a price: (which of both * 10 + price) * 4 + sort.
        private final int[] hingeWays = new int[2 * PRICES * SORTS];
        // What each has, by the first one's price * 10 + the second one's.
        private final int[] oneHas = new int[PRICES * PRICES];
        private final int[] otherHas = new int[PRICES * PRICES];

        void settle(Quarter quarter, Scene scene, int first, int second) {
            one = first;
            other = second;
            tryPrices(quarter, scene, 0, one);
            tryPrices(quarter, scene, 1, other);
            for (int i = 0; i < quarter.doorCount; i++) {
                weights[i] = quarter.doors[i].price * DEARNESS + 1;
            }
            for (int pair = 0; pair < PRICES * PRICES; pair++) {
                takeRents(quarter, scene, pair);
            }
        }

        private void tryPrices(Quarter quarter, Scene scene, int which, int hinge) {
            boolean open = scene.hour < HOURS && (scene.shut >> hinge & 1) == 0;
            for (int price = 0; price < PRICES; price++) {
                for (int sort = 0; sort < SORTS; sort++) {
                    int ways = open ? quarter.ways(hinge, sort, scene.hour, price, false) : 0;
                    hingeWays[(which * PRICES + price) * SORTS + sort] = ways;
                }
            }
        }

        private void takeRents(Quarter quarter, Scene scene, int pair) {
            int onePrice = pair / PRICES;
            int otherPrice = pair % PRICES;
            weights[one] = onePrice * DEARNESS + 1;
            weights[other] = otherPrice * DEARNESS + 1;
            oneHas[pair] = 0;
            otherHas[pair] = 0;
            for (int i = 0; i < quarter.personCount; i++) {
                int doors = doorsOf(quarter, scene, i, pair);
                oneHas[pair] += (doors >> one & 1) * onePrice;
                otherHas[pair] += (doors >> other & 1) * otherPrice;
            }
        }

        private int doorsOf(Quarter quarter, Scene scene, int person, int pair) {
            Person told = quarter.people[person];
            int ahead = quarter.aheadIn(told.sort, scene.hour, scene.shut);
            int back = quarter.backIn(told.sort, scene.hour, scene.shut);
            ahead = withHinges(ahead, pair, told.sort, Quarter.AHEAD);
            back = withHinges(back, pair, told.sort, Quarter.BACK);
            fillBest(quarter, ahead, back, told.errand);
            return cheapest(quarter, ahead, back, scene.where[person], told.errand);
        }

        private int withHinges(int doors, int pair, int sort, int way) {
            int oneWays = hingeWays[pair / PRICES * SORTS + sort];
            int otherWays = hingeWays[(PRICES + pair % PRICES) * SORTS + sort];
            int all = doors & ~(1 << one | 1 << other);
            all |= (oneWays & way) != 0 ? 1 << one : 0;
            all |= (otherWays & way) != 0 ? 1 << other : 0;
            return all;
        }

        private void fillBest(Quarter quarter, int ahead, int back, int goal) {
            Arrays.fill(best, FAR);
            best[goal] = 0;
            boolean changed = true;
            for (int i = 0; i < MOST_ROOMS && changed; i++) {
                changed = false;
                for (int door = 0; door < quarter.doorCount; door++) {
                    Door told = quarter.doors[door];
                    int first = (ahead >> door & 1) != 0 ? best[told.second] + weights[door] : FAR;
                    int second = (back >> door & 1) != 0 ? best[told.first] + weights[door] : FAR;
                    if (first < best[told.first]) {
                        best[told.first] = first;
                        changed = true;
                    }
                    if (second < best[told.second]) {
                        best[told.second] = second;
                        changed = true;
                    }
                }
            }
        }

        private int cheapest(Quarter quarter, int ahead, int back, int start, int goal) {
            int room = start;
            int doors = 0;
            for (int i = 0; i < MOST_ROOMS && room != goal && best[room] < FAR; i++) {
                for (int door = 0; door < quarter.doorCount; door++) {
                    Door told = quarter.doors[door];
                    boolean goesAhead = told.first == room && (ahead >> door & 1) != 0;
                    boolean goesBack = told.second == room && (back >> door & 1) != 0;
                    int next = goesAhead ? told.second : told.first;
                    if ((goesAhead || goesBack) && best[next] + weights[door] == best[room]) {
                        doors |= 1 << door;
                        room = next;
                        break;
                    }
                }
            }
            return doors;
        }

        int restCount() {
            int many = 0;
            for (int pair = 0; pair < PRICES * PRICES; pair++) {
                many += isRest(pair) ? 1 : 0;
            }
            return many;
        }

        int restAt(int which) {
            int left = which;
            for (int pair = 0; pair < PRICES * PRICES; pair++) {
                if (isRest(pair)) {
                    if (left == 0) {
                        return pair;
                    }
                    left--;
                }
            }
            return NONE;
        }

        private boolean isRest(int pair) {
            for (int price = 0; price < PRICES; price++) {
                if (oneHas[price * PRICES + pair % PRICES] > oneHas[pair]) {
                    return false;
                }
                if (otherHas[pair / PRICES * PRICES + price] > otherHas[pair]) {
                    return false;
                }
            }
            return true;
        }
    }
}
