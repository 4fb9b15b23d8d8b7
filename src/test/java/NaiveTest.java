import java.util.Random;

/** Long runs of calls by draws, on OneSided and on the naive quarter; promises 2 to 30. */
public final class NaiveTest {
    private static final Due DUE = new Due("NaiveTest");
    private static final int SMALL_ROUNDS = 500;
    private static final int SMALL_CALLS = 60;
    private static final int LARGE_ROUNDS = 40;
    private static final int LARGE_CALLS = 4;

    private final Random random;
    private final Lasting x = new Lasting();
    private final Maker maker;
    private Naive naive;
    private String text;

    private NaiveTest(int seed) {
        random = new Random(seed);
        maker = new Maker(random);
    }

    public static void main(String[] args) {
        for (int seed = 0; seed < SMALL_ROUNDS; seed++) {
            new NaiveTest(seed).play(5, 7, SMALL_CALLS);
        }
        for (int seed = 0; seed < LARGE_ROUNDS; seed++) {
            new NaiveTest(seed).play(10, 14, LARGE_CALLS);
        }
        DUE.end();
    }

    private void play(int mostRooms, int mostDoors, int calls) {
        do {
            naive = maker.quarter(mostRooms, mostDoors, 6);
            text = maker.text();
        } while (text.length() > 1000 || naive.doors.size() * 2 < mostDoors);
        DUE.same("feed " + text, x.feed(text), text.length());
        DUE.same("quarter " + text, x.quarter(), 0);
        told();
        for (int i = 0; i < calls; i++) {
            act();
            ask();
        }
    }

    private int room() {
        return random.nextInt(naive.rooms);
    }

    private int otherRoom(int room) {
        return (room + 1 + random.nextInt(naive.rooms - 1)) % naive.rooms;
    }

    private void same(String call, long got, long want) {
        DUE.same(call + " of " + text, got, want);
    }

    private void told() {
        for (int d = 0; d < naive.doors.size(); d++) {
            Naive.D door = naive.doors.get(d);
            int[] want = {door.kind, door.first, door.second, door.opens, door.closes, door.only, door.holds, door.price};
            for (int what = 0; what < want.length; what++) {
                same("door " + d + " " + what, x.door(d, what), want[what]);
            }
            for (int i = 0; i < 4 * 24 * naive.rooms; i++) {
                int sort = i % 4;
                int hour = i / 4 % 24;
                int room = i / 96;
                same("leads " + d + " " + i, x.leads(d, sort, room, hour), naive.leads(d, sort, room, hour));
            }
        }
        for (int p = 0; p < naive.people.size(); p++) {
            Naive.P person = naive.people.get(p);
            int[] want = {person.sort, person.home, person.errand, person.by};
            for (int what = 0; what < want.length; what++) {
                same("person " + p + " " + what, x.person(p, what), want[what]);
            }
        }
    }

    private void act() {
        int doors = naive.doors.size();
        int people = naive.people.size();
        int which = random.nextInt(20);
        if (which < 9 && doors > 0 && people > 0) {
            int person = random.nextInt(people);
            int door = random.nextInt(doors);
            same("go " + person + " " + door, x.go(person, door), naive.go(person, door));
        } else if (which < 11) {
            int many = random.nextInt(8) == 0 ? 1 + random.nextInt(24) : 1;
            same("hours " + many, x.hours(many), naive.hours(many));
        } else if (which < 13 && doors > 0) {
            int door = random.nextInt(doors);
            boolean shut = random.nextBoolean();
            DUE.same("shut", x.shut(door, shut), naive.shut(door, shut));
        } else if (which < 15) {
            DUE.same("undo", x.undo(), naive.undo());
        } else if (which == 15) {
            String day = maker.day(naive, 24);
            same("day " + day, x.day(day), 0);
        } else if (which == 16 || which == 18) {
            int from = room();
            int to = otherRoom(from);
            boolean came = random.nextBoolean();
            DUE.same("told", x.told(from, to, came), naive.tell(from, to, came));
        } else if (which == 17 || which == 19) {
            int mark = random.nextInt(4);
            boolean back = random.nextBoolean();
            DUE.same("mark", x.mark(mark, back), naive.mark(mark, back));
        }
    }

    private void ask() {
        for (int what = 0; what < 9; what++) {
            same("count " + what, x.count(what), naive.count(what));
        }
        same("count 9", x.count(9), 0);
        askOfPeople();
        askOfDoors();
        askOfRooms();
    }

    private void askOfPeople() {
        same("judged all", x.judged(-1), naive.judged(-1));
        for (int p = 0; p < naive.people.size(); p++) {
            same("where " + p, x.person(p, 4), naive.now.where[p]);
            same("done " + p, x.person(p, 5), naive.now.done[p] ? 1 : 0);
            same("went " + p, x.person(p, 6), naive.now.gone[p] ? 1 : 0);
        }
        if (!naive.people.isEmpty()) {
            int p = random.nextInt(naive.people.size());
            int room = room();
            int what = random.nextInt(8) - 1;
            same("judged " + p, x.judged(p), naive.judged(p));
            same("soonest " + p + " " + room, x.soonest(p, room), naive.soonest(naive.now, p, room));
            same("errand " + p + " " + what, x.errand(p, what), naive.errand(p, what));
            same("reach " + p, x.reach(p), naive.reach(p));
        }
        same("stuck", x.stuck(), naive.stuck());
        int what = random.nextInt(2);
        same("run " + what, x.run(what), naive.run(what));
        int seed = random.nextInt(10000);
        int days = 1 + random.nextInt(random.nextInt(10) == 0 ? 60 : 9);
        same("years " + seed + " " + days, x.years(seed, days, what), naive.years(seed, days, what));
    }

    private void askOfDoors() {
        int doors = naive.doors.size();
        for (int d = 0; d < doors; d++) {
            same("shut " + d, x.door(d, 8), naive.now.shut[d] ? 1 : 0);
            same("through " + d, x.door(d, 9), naive.now.through[d]);
        }
        for (int i = 0; i < doors * doors; i++) {
            int one = i / doors;
            int other = i % doors;
            boolean hinges = x.door(one, 0) == 2 && x.door(other, 0) == 2 && one != other;
            if (hinges && random.nextInt(20) == 0) {
                int what = random.nextInt(6) - 1;
                String call = "rests " + one + " " + other + " " + what;
                same(call, x.rests(one, other, what), naive.rests(one, other, what));
            }
        }
    }

    private void askOfRooms() {
        int room = room();
        int other = otherRoom(room);
        int sort = random.nextInt(4);
        int hour = random.nextInt(24);
        same("ring", x.ring(room, sort, hour), naive.ring(room, sort, hour));
        same("homeless", x.homeless(room, sort, hour), naive.homeless(room, sort, hour));
        if (naive.rooms <= 5) {
            same("add " + sort + " " + hour, x.add(sort, hour), naive.add(sort, hour));
        }
        same("cut", x.cut(room, other, sort, hour), naive.cut(room, other, sort, hour));
        same("turn " + sort + " " + hour, x.turn(sort, hour), naive.turn(sort, hour));
        same("chase", x.chase(room, other), naive.chase(room, other));
        if (hour >= naive.now.hour) {
            same("crowd", x.crowd(room, other, hour), naive.crowd(room, other, hour));
        }
        for (int what = 0; what < 5; what++) {
            same("found " + what, x.found(what), naive.found(what));
        }
    }
}
