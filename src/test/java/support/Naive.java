import java.util.ArrayDeque;
import java.util.ArrayList;
import java.util.Arrays;
import java.util.Deque;
import java.util.List;

/** The document once more, by the longest and plainest ways, for small quarters. */
final class Naive {
    static final int NONE = -1;
    static final String[] KINDS = {"plain", "turning", "hinge", "blank"};
    static final String[] SORTS = {"tenant", "soldier", "child", "cat"};

    /** A door as told; a copy turned round has its rooms swapped. */
    static final class D {
        int kind, first, second, opens = 0, closes = 24, only = NONE, holds = 1, price = 0;

        D copy() {
            D d = new D();
            d.kind = kind;
            d.first = first;
            d.second = second;
            d.opens = opens;
            d.closes = closes;
            d.only = only;
            d.holds = holds;
            d.price = price;
            return d;
        }
    }

    static final class P {
        int sort, home, errand, by;
    }

    /** A law as a tree: op is n (a number), t s c r (facts), ! & | < = + - *. */
    static final class E {
        char op;
        int number;
        E left, right;

        E(char op, int number, E left, E right) {
            this.op = op;
            this.number = number;
            this.left = left;
            this.right = right;
        }

        int value(int time, int sort, int cost, int room) {
            int a = left == null ? 0 : left.value(time, sort, cost, room);
            int b = right == null ? 0 : right.value(time, sort, cost, room);
            switch (op) {
                case 'n': return number;
                case 't': return time;
                case 's': return sort;
                case 'c': return cost;
                case 'r': return room;
                case '!': return a == 0 ? 1 : 0;
                case '&': return a != 0 && b != 0 ? 1 : 0;
                case '|': return a != 0 || b != 0 ? 1 : 0;
                case '<': return a < b ? 1 : 0;
                case '=': return a == b ? 1 : 0;
                case '+': return a + b;
                case '-': return a - b;
                default: return a * b;
            }
        }
    }

    /** What changes by hand. */
    static final class Now {
        int hour;
        int[] where;
        boolean[] done, gone, shut;
        int[] through;

        Now copy() {
            Now n = new Now();
            n.hour = hour;
            n.where = where.clone();
            n.done = done.clone();
            n.gone = gone.clone();
            n.shut = shut.clone();
            n.through = through.clone();
            return n;
        }
    }

    int rooms = 2;
    List<D> doors = new ArrayList<>();
    List<P> people = new ArrayList<>();
    E law;
    Now now;
    List<int[]> day = new ArrayList<>();
    List<int[]> told = new ArrayList<>();
    Deque<Now> past = new ArrayDeque<>();
    Object[][] marks = new Object[4][];

    Now begin() {
        Now n = new Now();
        n.where = new int[people.size()];
        n.done = new boolean[people.size()];
        n.gone = new boolean[people.size()];
        n.shut = new boolean[doors.size()];
        n.through = new int[doors.size()];
        for (int i = 0; i < people.size(); i++) {
            n.where[i] = people.get(i).home;
            n.done[i] = people.get(i).home == people.get(i).errand;
        }
        return n;
    }

    int into(D d, boolean shut, int sort, int room, int hour) {
        int from = d.first;
        int to = d.second;
        if (d.kind == 1 && hour >= 12) {
            from = d.second;
            to = d.first;
        }
        if (sort == 3 && room == to) {
            to = from;
            from = room;
        }
        if (room != from || shut || d.kind == 3 || hour < d.opens || hour >= d.closes || hour > 23) {
            return NONE;
        }
        if (d.only != NONE && d.only != sort && sort != 3) {
            return NONE;
        }
        return law == null || law.value(hour, sort, d.price, to) != 0 ? to : NONE;
    }

    int leads(int door, int sort, int room, int hour) {
        return into(doors.get(door), now.shut[door], sort, room, hour);
    }

    int pass(Now n, int person, int door) {
        if (n.hour > 23 || n.gone[person]) {
            return NONE;
        }
        int to = into(doors.get(door), n.shut[door], people.get(person).sort, n.where[person], n.hour);
        if (to == NONE || n.through[door] >= doors.get(door).holds) {
            return NONE;
        }
        n.where[person] = to;
        n.gone[person] = true;
        n.through[door]++;
        if (to == people.get(person).errand) {
            n.done[person] = true;
        }
        return to;
    }

    void next(Now n) {
        if (n.hour < 24) {
            n.hour++;
        }
        Arrays.fill(n.gone, false);
        Arrays.fill(n.through, 0);
    }

    void keep(Now n) {
        past.addLast(n);
        if (past.size() > 16) {
            past.removeFirst();
        }
    }

    int go(int person, int door) {
        Now before = now.copy();
        int to = pass(now, person, door);
        if (to != NONE) {
            keep(before);
        }
        return to;
    }

    int hours(int many) {
        keep(now.copy());
        for (int i = 0; i < many; i++) {
            next(now);
        }
        return now.hour;
    }

    boolean shut(int door, boolean shut) {
        if (now.shut[door] == shut) {
            return false;
        }
        keep(now.copy());
        now.shut[door] = shut;
        return true;
    }

    boolean undo() {
        if (past.isEmpty()) {
            return false;
        }
        now = past.removeLast();
        return true;
    }

    int judged(int person) {
        Now n = begin();
        int wrong = NONE;
        for (int i = 0; i < day.size(); i++) {
            int[] line = day.get(i);
            if (line[0] == NONE) {
                next(n);
            } else if (pass(n, line[0], line[1]) == NONE && wrong == NONE) {
                wrong = i;
            }
        }
        return person == NONE ? wrong : n.where[person];
    }

    int soonest(Now n, int person, int room) {
        boolean[] in = new boolean[rooms];
        in[n.where[person]] = true;
        if (in[room]) {
            return n.hour;
        }
        for (int hour = n.hour + (n.gone[person] ? 1 : 0); hour < 24; hour++) {
            boolean[] then = in.clone();
            for (int from = 0; from < rooms; from++) {
                for (int d = 0; d < doors.size() && in[from]; d++) {
                    int to = into(doors.get(d), n.shut[d], people.get(person).sort, from, hour);
                    if (to != NONE) {
                        then[to] = true;
                    }
                }
            }
            in = then;
            if (in[room]) {
                return hour;
            }
        }
        return NONE;
    }

    int reach(int person) {
        int bits = 0;
        for (int room = 0; room < rooms; room++) {
            bits |= soonest(now, person, room) != NONE ? 1 << room : 0;
        }
        return bits;
    }

    /** The best row of doors to each state, hour by hour: {hour, row} or null. */
    Object[] plan(Now n, int person) {
        P p = people.get(person);
        String[][] rows = new String[rooms][2];
        rows[n.where[person]][n.done[person] ? 1 : 0] = "";
        if (rows[p.home][1] != null) {
            return new Object[] {n.hour, ""};
        }
        for (int hour = n.hour + (n.gone[person] ? 1 : 0); hour < 24; hour++) {
            String[][] then = new String[rooms][];
            for (int room = 0; room < rooms; room++) {
                then[room] = rows[room].clone();
            }
            for (int room = 0; room < rooms; room++) {
                for (int done = 0; done < 2; done++) {
                    for (int d = 0; d < doors.size() && rows[room][done] != null; d++) {
                        int to = into(doors.get(d), n.shut[d], p.sort, room, hour);
                        if (to != NONE) {
                            int doneThen = to == p.errand ? 1 : done;
                            String row = rows[room][done] + (char) ('a' + d);
                            then[to][doneThen] = better(then[to][doneThen], row);
                        }
                    }
                }
            }
            rows = then;
            if (rows[p.home][1] != null) {
                return new Object[] {hour, rows[p.home][1]};
            }
        }
        return null;
    }

    private static String better(String a, String b) {
        if (a == null || b.length() < a.length()) {
            return b;
        }
        return b.length() == a.length() && b.compareTo(a) < 0 ? b : a;
    }

    int errand(int person, int what) {
        Object[] plan = plan(now, person);
        if (plan == null) {
            return -2;
        }
        int hour = (Integer) plan[0];
        String row = (String) plan[1];
        if (what == NONE) {
            return hour;
        }
        if (what == 0) {
            return hour <= people.get(person).by ? 1 : 0;
        }
        return what <= row.length() ? row.charAt(what - 1) - 'a' : -2;
    }

    int stuck() {
        int bits = 0;
        for (int i = 0; i < people.size(); i++) {
            bits |= plan(now, i) == null ? 1 << i : 0;
        }
        return bits;
    }

    /** Whether one comes from a room to another one, by doors that aren't shut. */
    boolean[][] comes(List<D> by, boolean[] shut, int sort, int hour) {
        boolean[][] c = new boolean[rooms][rooms];
        for (int from = 0; from < rooms; from++) {
            c[from][from] = true;
            for (int d = 0; d < by.size(); d++) {
                int to = into(by.get(d), shut[d], sort, from, hour);
                if (to != NONE) {
                    c[from][to] = true;
                }
            }
        }
        return closed(c);
    }

    static boolean[][] closed(boolean[][] c) {
        for (int k = 0; k < c.length; k++) {
            for (int i = 0; i < c.length; i++) {
                for (int j = 0; j < c.length; j++) {
                    c[i][j] |= c[i][k] && c[k][j];
                }
            }
        }
        return c;
    }

    static boolean all(boolean[][] c) {
        for (boolean[] row : c) {
            for (boolean b : row) {
                if (!b) {
                    return false;
                }
            }
        }
        return true;
    }

    int ring(int room, int sort, int hour) {
        boolean[][] c = comes(doors, now.shut, sort, hour);
        int bits = 0;
        for (int i = 0; i < rooms; i++) {
            bits |= c[room][i] && c[i][room] ? 1 << i : 0;
        }
        return bits;
    }

    int homeless(int room, int sort, int hour) {
        boolean[][] c = comes(doors, now.shut, sort, hour);
        int bits = 0;
        for (int i = 0; i < rooms; i++) {
            bits |= c[i][room] ? 0 : 1 << i;
        }
        return bits;
    }

    int add(int sort, int hour) {
        boolean[][] c = comes(doors, now.shut, sort, hour);
        for (int many = 0; many <= rooms; many++) {
            if (addable(c, many, 0, sort == 3)) {
                return many;
            }
        }
        return -99;
    }

    private static boolean addable(boolean[][] c, int many, int from, boolean cat) {
        if (many == 0) {
            return all(c);
        }
        int n = c.length;
        for (int pair = from; pair < n * n; pair++) {
            int a = pair / n;
            int b = pair % n;
            if (a == b || c[a][b] && (!cat || c[b][a])) {
                continue;
            }
            boolean[][] then = new boolean[n][];
            for (int i = 0; i < n; i++) {
                then[i] = c[i].clone();
            }
            then[a][b] = true;
            then[b][a] |= cat;
            if (addable(closed(then), many - 1, pair + 1, cat)) {
                return true;
            }
        }
        return false;
    }

    int turn(int sort, int hour) {
        int best = NONE;
        for (int set = 0; set < 1 << doors.size(); set++) {
            List<D> turned = new ArrayList<>();
            for (int d = 0; d < doors.size(); d++) {
                D copy = doors.get(d).copy();
                if ((set >> d & 1) != 0) {
                    copy.first = doors.get(d).second;
                    copy.second = doors.get(d).first;
                }
                turned.add(copy);
            }
            boolean fewer = best == NONE || Integer.bitCount(set) < Integer.bitCount(best);
            if (fewer && all(comes(turned, now.shut, sort, hour))) {
                best = set;
            }
        }
        return best;
    }

    int cut(int from, int to, int sort, int hour) {
        int best = NONE;
        for (int set = 0; set < 1 << doors.size(); set++) {
            boolean[] shut = now.shut.clone();
            for (int d = 0; d < doors.size(); d++) {
                shut[d] |= (set >> d & 1) != 0;
            }
            boolean fewer = best == NONE || Integer.bitCount(set) < Integer.bitCount(best);
            if (fewer && !comes(doors, shut, sort, hour)[from][to]) {
                best = set;
            }
        }
        return best;
    }

    int crowd(int from, int to, int hour) {
        int layers = hour - now.hour + 2;
        int nodes = layers * rooms;
        int[][] left = new int[nodes][nodes];
        for (int t = 0; t + 1 < layers; t++) {
            for (int room = 0; room < rooms; room++) {
                left[t * rooms + room][(t + 1) * rooms + room] += 100000;
                for (int d = 0; d < doors.size(); d++) {
                    int next = leads(d, 0, room, now.hour + t);
                    if (next != NONE) {
                        left[t * rooms + room][(t + 1) * rooms + next] += doors.get(d).holds;
                    }
                }
            }
        }
        int all = 0;
        while (push(left, from, (layers - 1) * rooms + to, new boolean[nodes])) {
            all++;
        }
        return all;
    }

    private static boolean push(int[][] left, int node, int sink, boolean[] seen) {
        if (node == sink) {
            return true;
        }
        seen[node] = true;
        for (int next = 0; next < left.length; next++) {
            if (!seen[next] && left[node][next] > 0 && push(left, next, sink, seen)) {
                left[node][next]--;
                left[next][node]++;
                return true;
            }
        }
        return false;
    }

    boolean tell(int from, int to, boolean came) {
        if (told.size() == 10) {
            return false;
        }
        told.add(new int[] {from, to, came ? 1 : 0});
        return true;
    }

    int found(int what) {
        List<Integer> sets = new ArrayList<>();
        List<boolean[][]> webs = new ArrayList<>();
        for (int set = 0; set < 1 << doors.size(); set++) {
            boolean[] shut = new boolean[doors.size()];
            boolean fits = true;
            for (int d = 0; d < doors.size(); d++) {
                shut[d] = (set >> d & 1) == 0;
                fits &= shut[d] || !now.shut[d];
            }
            if (!fits) {
                continue;
            }
            boolean[][] c = comes(doors, shut, 0, now.hour);
            for (int[] t : told) {
                fits &= c[t[0]][t[1]] == (t[2] == 1);
            }
            if (fits) {
                sets.add(set);
                webs.add(c);
            }
        }
        if (sets.isEmpty()) {
            return NONE;
        }
        int inAll = -1;
        int inSome = 0;
        int fewest = sets.get(0);
        for (int set : sets) {
            inAll &= set;
            inSome |= set;
            if (Integer.bitCount(set) < Integer.bitCount(fewest)) {
                fewest = set;
            }
        }
        switch (what) {
            case 0: return sets.size();
            case 1: return inAll;
            case 2: return inSome;
            case 3: return telling(webs);
            default: return fewest;
        }
    }

    private int telling(List<boolean[][]> webs) {
        int best = NONE;
        int evenest = 0;
        for (int from = 0; from < rooms; from++) {
            for (int to = 0; to < rooms; to++) {
                int can = 0;
                for (boolean[][] c : webs) {
                    can += c[from][to] ? 1 : 0;
                }
                int lesser = Math.min(can, webs.size() - can);
                if (lesser > evenest) {
                    evenest = lesser;
                    best = from * 10 + to;
                }
            }
        }
        return best;
    }

    /** The best walk of those without a room twice: {price, doors...} or null. */
    private List<Integer> cheapest(int sort, int room, int goal, int seen) {
        if (room == goal) {
            return new ArrayList<>(List.of(0));
        }
        List<Integer> best = null;
        for (int d = 0; d < doors.size(); d++) {
            int to = leads(d, sort, room, now.hour);
            if (to == NONE || (seen >> to & 1) != 0) {
                continue;
            }
            List<Integer> rest = cheapest(sort, to, goal, seen | 1 << to);
            if (rest == null) {
                continue;
            }
            int price = rest.get(0) + doors.get(d).price;
            boolean better = best == null || price < best.get(0)
                || price == best.get(0) && rest.size() + 1 < best.size();
            if (better) {
                rest.set(0, price);
                rest.add(1, d);
                best = rest;
            }
        }
        return best;
    }

    int rests(int one, int other, int what) {
        int[][] has = new int[2][100];
        int kept = doors.get(one).price;
        int keptOther = doors.get(other).price;
        for (int pair = 0; pair < 100; pair++) {
            doors.get(one).price = pair / 10;
            doors.get(other).price = pair % 10;
            for (int i = 0; i < people.size(); i++) {
                P p = people.get(i);
                List<Integer> way = cheapest(p.sort, now.where[i], p.errand, 1 << now.where[i]);
                for (int k = 1; way != null && k < way.size(); k++) {
                    has[0][pair] += way.get(k) == one ? pair / 10 : 0;
                    has[1][pair] += way.get(k) == other ? pair % 10 : 0;
                }
            }
        }
        doors.get(one).price = kept;
        doors.get(other).price = keptOther;
        List<Integer> rests = new ArrayList<>();
        for (int pair = 0; pair < 100; pair++) {
            boolean rest = true;
            for (int price = 0; price < 10; price++) {
                rest &= has[0][price * 10 + pair % 10] <= has[0][pair];
                rest &= has[1][pair / 10 * 10 + price] <= has[1][pair];
            }
            if (rest) {
                rests.add(pair);
            }
        }
        if (what == NONE) {
            return rests.size();
        }
        return what < rests.size() ? rests.get(what) : NONE;
    }

    int chase(int thief, int tenant) {
        int far = 1000;
        int[][] thiefs = new int[rooms][rooms];
        int[][] tenants = new int[rooms][rooms];
        for (int i = 0; i < rooms; i++) {
            Arrays.fill(thiefs[i], far);
            Arrays.fill(tenants[i], far);
            thiefs[i][i] = 0;
            tenants[i][i] = 0;
        }
        for (int round = 0; round < 300; round++) {
            for (int t = 0; t < rooms; t++) {
                for (int c = 0; c < rooms; c++) {
                    if (t == c) {
                        continue;
                    }
                    int latest = tenants[t][c];
                    int soonest = thiefs[t][c];
                    for (int d = 0; d < doors.size(); d++) {
                        int thiefTo = leads(d, 0, t, now.hour);
                        int tenantTo = leads(d, 0, c, now.hour);
                        latest = thiefTo == NONE ? latest : Math.max(latest, tenants[thiefTo][c]);
                        soonest = tenantTo == NONE ? soonest : Math.min(soonest, thiefs[t][tenantTo]);
                    }
                    thiefs[t][c] = Math.min(far, latest + 1);
                    tenants[t][c] = Math.min(far, soonest + 1);
                }
            }
        }
        return thiefs[thief][tenant] >= far ? NONE : thiefs[thief][tenant];
    }

    int run(int what) {
        Now n = now.copy();
        boolean[] inTime = new boolean[people.size()];
        while (true) {
            for (int i = 0; i < people.size(); i++) {
                Object[] plan = n.gone[i] ? null : plan(n, i);
                if (plan != null && !((String) plan[1]).isEmpty()) {
                    pass(n, i, ((String) plan[1]).charAt(0) - 'a');
                }
            }
            for (int i = 0; i < people.size(); i++) {
                P p = people.get(i);
                inTime[i] |= n.done[i] && n.where[i] == p.home && n.hour <= p.by;
            }
            if (n.hour == 24) {
                break;
            }
            next(n);
        }
        int many = 0;
        int not = 0;
        for (int i = 0; i < people.size(); i++) {
            many += inTime[i] ? 1 : 0;
            not += n.done[i] && n.where[i] == people.get(i).home ? 0 : 1;
        }
        return what == 0 ? many : not;
    }

    int years(int seed, int days, int what) {
        if (doors.isEmpty()) {
            return NONE;
        }
        Now n = begin();
        n.shut = now.shut.clone();
        int all = 0;
        int worst = 99;
        long g = seed;
        for (int i = 0; i < days; i++) {
            g = (g * 1103515245L + 12345) & 0x7fffffffL;
            int d = (int) ((g >> 16) % doors.size());
            n.shut[d] = !n.shut[d];
            g = (g * 1103515245L + 12345) & 0x7fffffffL;
            if ((g >> 16) % 10 == 0) {
                Arrays.fill(n.shut, false);
            }
            int many = 0;
            for (int k = 0; k < people.size(); k++) {
                Object[] plan = plan(n, k);
                many += plan != null && (Integer) plan[0] <= people.get(k).by ? 1 : 0;
            }
            all += many;
            worst = Math.min(worst, many);
        }
        return what == 0 ? all : worst;
    }

    @SuppressWarnings("unchecked")
    boolean mark(int mark, boolean back) {
        if (!back) {
            marks[mark] = new Object[] {now.copy(), new ArrayList<>(day), new ArrayList<>(told)};
            return true;
        }
        if (marks[mark] == null) {
            return false;
        }
        now = ((Now) marks[mark][0]).copy();
        day = new ArrayList<>((List<int[]>) marks[mark][1]);
        told = new ArrayList<>((List<int[]>) marks[mark][2]);
        past.clear();
        return true;
    }

    int count(int what) {
        int shut = 0;
        int done = 0;
        for (boolean b : now.shut) {
            shut += b ? 1 : 0;
        }
        for (boolean b : now.done) {
            done += b ? 1 : 0;
        }
        int[] all = {rooms, doors.size(), people.size(), now.hour, shut, done, day.size(), told.size(), past.size()};
        return all[what];
    }
}
