import java.util.ArrayList;
import java.util.List;
import java.util.Random;

/** Makes quarters by draws, each as a text and as the naive quarter that the text tells. */
final class Maker {
    private final Random random;
    private final StringBuilder text = new StringBuilder();
    final List<String> doorNames = new ArrayList<>();
    final List<String> personNames = new ArrayList<>();

    Maker(Random random) {
        this.random = random;
    }

    String text() {
        return text.toString();
    }

    Naive quarter(int mostRooms, int mostDoors, int mostPeople) {
        text.setLength(0);
        doorNames.clear();
        personNames.clear();
        Naive naive = new Naive();
        naive.rooms = 2 + random.nextInt(mostRooms - 1);
        put("rooms").put("" + naive.rooms).put(";");
        int doors = random.nextInt(mostDoors + 1);
        int people = random.nextInt(mostPeople + 1);
        int law = random.nextInt(3) == 0 ? 1 : 0;
        while (doors + people + law > 0) {
            int which = random.nextInt(doors + people + law);
            if (which < doors) {
                door(naive);
                doors--;
            } else if (which < doors + people) {
                person(naive);
                people--;
            } else {
                put("let");
                naive.law = e(0);
                put(";");
                law--;
            }
        }
        naive.now = naive.begin();
        return naive;
    }

    String day(Naive naive, int mostLines) {
        text.setLength(0);
        naive.day = new ArrayList<>();
        int lines = random.nextInt(mostLines + 1);
        for (int i = 0; i < lines; i++) {
            boolean hour = random.nextInt(3) == 0 || naive.people.isEmpty() || naive.doors.isEmpty();
            int person = hour ? -1 : random.nextInt(naive.people.size());
            int door = hour ? -1 : random.nextInt(naive.doors.size());
            if (hour) {
                put("hour").put(";");
            } else {
                put("go").put(personNames.get(person)).put(doorNames.get(door)).put(";");
            }
            naive.day.add(new int[] {person, door});
        }
        return text();
    }

    private Maker put(String token) {
        boolean glued = text.length() == 0
            || !Character.isLetterOrDigit(text.charAt(text.length() - 1))
            || !Character.isLetterOrDigit(token.charAt(0));
        if (!glued || random.nextInt(4) == 0) {
            text.append(random.nextInt(5) == 0 ? '\n' : ' ');
        }
        text.append(token);
        return this;
    }

    private String newName() {
        while (true) {
            StringBuilder name = new StringBuilder();
            int length = 1 + random.nextInt(3);
            for (int i = 0; i < length; i++) {
                name.append((char) ('a' + random.nextInt(26)));
            }
            String made = name.toString();
            boolean taken = doorNames.contains(made) || personNames.contains(made)
                || " to for at by let go not and or cat ".contains(" " + made + " ");
            if (!taken) {
                return made;
            }
        }
    }

    private void door(Naive naive) {
        Naive.D d = new Naive.D();
        String name = newName();
        d.first = random.nextInt(naive.rooms);
        d.second = (d.first + 1 + random.nextInt(naive.rooms - 1)) % naive.rooms;
        d.kind = random.nextInt(8);
        d.kind = d.kind > 3 ? 2 * (d.kind % 2) : d.kind;
        put("door").put(name).put("" + d.first).put("to").put("" + d.second).put(Naive.KINDS[d.kind]);
        if (random.nextInt(3) == 0) {
            d.opens = random.nextInt(24);
            d.closes = d.opens + 1 + random.nextInt(24 - d.opens);
            put("open").put("" + d.opens).put("to").put("" + d.closes);
        }
        if (random.nextInt(6) == 0) {
            d.only = random.nextInt(4);
            put("for").put(Naive.SORTS[d.only]);
        }
        if (random.nextInt(3) == 0) {
            d.holds = 1 + random.nextInt(9);
            put("holds").put("" + d.holds);
        }
        if (random.nextInt(3) == 0) {
            d.price = random.nextInt(10);
            put("price").put("" + d.price);
        }
        put(";");
        naive.doors.add(d);
        doorNames.add(name);
    }

    private void person(Naive naive) {
        Naive.P p = new Naive.P();
        String name = newName();
        p.sort = random.nextInt(4);
        p.home = random.nextInt(naive.rooms);
        p.errand = random.nextInt(naive.rooms);
        p.by = 1 + random.nextInt(24);
        put("person").put(name).put(Naive.SORTS[p.sort]).put("at").put("" + p.home);
        put("errand").put("" + p.errand).put("by").put("" + p.by).put(";");
        naive.people.add(p);
        personNames.add(name);
    }

    private Naive.E e(int depth) {
        Naive.E all = test(depth);
        while (random.nextInt(4) == 0) {
            boolean and = random.nextBoolean();
            put(and ? "and" : "or");
            all = new Naive.E(and ? '&' : '|', 0, all, test(depth));
        }
        return all;
    }

    private Naive.E test(int depth) {
        Naive.E left = sum(depth);
        if (random.nextInt(3) == 0) {
            return left;
        }
        boolean less = random.nextInt(3) != 0;
        put(less ? "<" : "=");
        return new Naive.E(less ? '<' : '=', 0, left, sum(depth));
    }

    private Naive.E sum(int depth) {
        Naive.E all = product(depth);
        while (random.nextInt(4) == 0) {
            boolean plus = random.nextBoolean();
            put(plus ? "+" : "-");
            all = new Naive.E(plus ? '+' : '-', 0, all, product(depth));
        }
        return all;
    }

    private Naive.E product(int depth) {
        Naive.E all = part(depth);
        while (random.nextInt(5) == 0) {
            put("*");
            all = new Naive.E('*', 0, all, part(depth));
        }
        return all;
    }

    private Naive.E part(int depth) {
        int which = random.nextInt(depth < 4 ? 10 : 7);
        if (which < 3) {
            int number = random.nextInt(random.nextInt(6) == 0 ? 10000 : 24);
            put("" + number);
            return new Naive.E('n', number, null, null);
        }
        if (which < 7) {
            put(new String[] {"time", "sort", "cost", "room"}[which - 3]);
            return new Naive.E("tscr".charAt(which - 3), 0, null, null);
        }
        if (which == 7) {
            put("not");
            return new Naive.E('!', 0, part(depth + 1), null);
        }
        put("(");
        Naive.E inner = e(depth + 1);
        put(")");
        return inner;
    }
}
