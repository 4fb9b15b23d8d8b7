import java.util.ArrayList;
import java.util.List;

/** A OneSided that is made anew, by the same calls, behind its 512th call: more is not promised of one object. */
final class Lasting {
    private static final int MOST_CALLS = 512;

    /** A call; true counts 1. */
    private interface Call {
        int on(OneSided x);
    }

    private final List<Call> past = new ArrayList<>();
    private int pastReadings;
    private OneSided x = new OneSided();
    private int calls;

    private int ask(Call call) {
        if (calls == MOST_CALLS) {
            x = new OneSided();
            calls = past.size();
            for (Call again : past) {
                again.on(x);
            }
        }
        if (calls >= MOST_CALLS) {
            throw new IllegalStateException("the past alone takes " + calls + " calls");
        }
        calls++;
        return call.on(x);
    }

    /** A call that changes something, unless it answers that it was refused. */
    private int act(int refusal, Call call) {
        int answer = ask(call);
        if (answer != refusal) {
            past.add(call);
        }
        return answer;
    }

    /** A reading: with a fault, the tape that it took and the call itself leave nothing behind. */
    private int read(boolean anew, Call call) {
        int fault = ask(call);
        if (fault != 0) {
            past.subList(pastReadings, past.size()).clear();
        } else {
            past.add(call);
        }
        if (fault == 0 && anew) {
            past.subList(0, pastReadings).clear();
        }
        pastReadings = past.size();
        return fault;
    }

    /** What is acted between feeding and reading would be lost with a fault: texts are read at once. */
    int feed(String text) {
        pastReadings = past.size();
        for (int i = 0; i < text.length(); i += 24) {
            long a = Due.piece(text, i);
            long b = Due.piece(text, i + 8);
            long c = Due.piece(text, i + 16);
            act(-1, one -> one.feed(a, b, c));
        }
        return count(9);
    }

    int quarter() {
        return read(true, OneSided::quarter);
    }

    int quarter(String text) {
        feed(text);
        return quarter();
    }

    int day(String text) {
        feed(text);
        return read(false, OneSided::day);
    }

    int door(int door, int what) {
        return ask(one -> one.door(door, what));
    }

    int person(int person, int what) {
        return ask(one -> one.person(person, what));
    }

    int leads(int door, int sort, int room, int hour) {
        return ask(one -> one.leads(door, sort, room, hour));
    }

    int go(int person, int door) {
        return act(-1, one -> one.go(person, door));
    }

    int hours(int many) {
        return act(-1, one -> one.hours(many));
    }

    boolean shut(int door, boolean shut) {
        return act(0, one -> one.shut(door, shut) ? 1 : 0) == 1;
    }

    boolean undo() {
        return act(0, one -> one.undo() ? 1 : 0) == 1;
    }

    int judged(int person) {
        return ask(one -> one.judged(person));
    }

    int soonest(int person, int room) {
        return ask(one -> one.soonest(person, room));
    }

    int errand(int person, int what) {
        return ask(one -> one.errand(person, what));
    }

    int reach(int person) {
        return ask(one -> one.reach(person));
    }

    int stuck() {
        return ask(OneSided::stuck);
    }

    int ring(int room, int sort, int hour) {
        return ask(one -> one.ring(room, sort, hour));
    }

    int homeless(int room, int sort, int hour) {
        return ask(one -> one.homeless(room, sort, hour));
    }

    int add(int sort, int hour) {
        return ask(one -> one.add(sort, hour));
    }

    int turn(int sort, int hour) {
        return ask(one -> one.turn(sort, hour));
    }

    int cut(int from, int to, int sort, int hour) {
        return ask(one -> one.cut(from, to, sort, hour));
    }

    int crowd(int from, int to, int hour) {
        return ask(one -> one.crowd(from, to, hour));
    }

    boolean told(int from, int to, boolean came) {
        return act(0, one -> one.told(from, to, came) ? 1 : 0) == 1;
    }

    int found(int what) {
        return ask(one -> one.found(what));
    }

    int rests(int one, int other, int what) {
        return ask(it -> it.rests(one, other, what));
    }

    int chase(int thief, int tenant) {
        return ask(one -> one.chase(thief, tenant));
    }

    int run(int what) {
        return ask(one -> one.run(what));
    }

    int years(int seed, int days, int what) {
        return ask(one -> one.years(seed, days, what));
    }

    boolean mark(int mark, boolean back) {
        return act(0, one -> one.mark(mark, back) ? 1 : 0) == 1;
    }

    int count(int what) {
        return ask(one -> one.count(what));
    }
}
