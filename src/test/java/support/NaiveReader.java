import java.util.ArrayList;
import java.util.Arrays;
import java.util.List;

/** The faults of texts, read by a list of tokens; a fault is thrown. */
final class NaiveReader {
    private static final List<String> RESERVED = Arrays.asList(("rooms door to open for holds price person at "
        + "errand by let go hour plain turning hinge blank tenant soldier child cat not and or").split(" "));
    private static final List<String> KINDS = Arrays.asList(Naive.KINDS);
    private static final List<String> SORTS = Arrays.asList(Naive.SORTS);
    private static final List<String> FACTS = Arrays.asList("time", "sort", "cost", "room");

    private static final class Fault extends RuntimeException {
        private static final long serialVersionUID = 1L;
        final int kind;

        Fault(int kind) {
            this.kind = kind;
        }
    }

    private final List<String> tokens = new ArrayList<>();
    private final List<Integer> places = new ArrayList<>();
    private final List<String> doors = new ArrayList<>();
    private final List<String> people = new ArrayList<>();
    private int at;
    private int rooms;
    private boolean hasLaw;

    private NaiveReader(String text) {
        int i = 0;
        while (i < text.length()) {
            char c = text.charAt(i);
            if (c == ' ' || c == '\n') {
                i++;
                continue;
            }
            int end = i + 1;
            if (c >= 'a' && c <= 'z') {
                while (end < text.length() && text.charAt(end) >= 'a' && text.charAt(end) <= 'z') {
                    end++;
                }
            } else if (c >= '0' && c <= '9') {
                while (end < text.length() && text.charAt(end) >= '0' && text.charAt(end) <= '9') {
                    end++;
                }
            }
            String token = text.substring(i, end);
            boolean good = token.matches("[a-z]{1,8}|[0-9]{1,4}|[()<=+*;-]");
            tokens.add(good ? token : "?");
            places.add(i);
            i = end;
        }
        tokens.add("end of all");
        places.add(text.length());
    }

    static int quarterFault(String text) {
        NaiveReader reader = new NaiveReader(text);
        try {
            reader.quarter();
            return 0;
        } catch (Fault fault) {
            return fault.kind + 16 * reader.places.get(reader.at);
        }
    }

    static int dayFault(String text, List<String> people, List<String> doors) {
        NaiveReader reader = new NaiveReader(text);
        reader.people.addAll(people);
        reader.doors.addAll(doors);
        try {
            reader.day();
            return 0;
        } catch (Fault fault) {
            return fault.kind + 16 * reader.places.get(reader.at);
        }
    }

    private String token() {
        return tokens.get(at);
    }

    private void must(boolean good, int kind) {
        if (!good) {
            throw new Fault(kind);
        }
    }

    private void take(String wanted) {
        must(token().equals(wanted), 1);
        at++;
    }

    private boolean skip(String wanted) {
        boolean is = token().equals(wanted);
        at += is ? 1 : 0;
        return is;
    }

    private String oneOf(List<String> words) {
        must(words.contains(token()), 1);
        return tokens.get(at++);
    }

    private int number(int least, int most, int not) {
        must(token().matches("[0-9]+"), 1);
        int value = Integer.parseInt(token());
        must(value != not, 3);
        must(value >= least && value <= most, 4);
        at++;
        return value;
    }

    private String name() {
        must(token().matches("[a-z]+") && !RESERVED.contains(token()), 1);
        return token();
    }

    private String newName() {
        String name = name();
        must(!doors.contains(name) && !people.contains(name), 3);
        at++;
        return name;
    }

    private void quarter() {
        take("rooms");
        rooms = number(2, 10, -1);
        take(";");
        while (!token().equals("end of all")) {
            if (token().equals("door")) {
                door();
            } else if (token().equals("person")) {
                person();
            } else {
                must(token().equals("let"), 1);
                must(!hasLaw, 3);
                hasLaw = true;
                at++;
                e(0);
            }
            take(";");
        }
    }

    private void door() {
        must(doors.size() < 14, 5);
        at++;
        String name = newName();
        int first = number(0, rooms - 1, -1);
        take("to");
        number(0, rooms - 1, first);
        oneOf(KINDS);
        if (skip("open")) {
            int from = number(0, 23, -1);
            take("to");
            number(from + 1, 24, -1);
        }
        if (skip("for")) {
            oneOf(SORTS);
        }
        if (skip("holds")) {
            number(1, 9, -1);
        }
        if (skip("price")) {
            number(0, 9, -1);
        }
        doors.add(name);
    }

    private void person() {
        must(people.size() < 6, 5);
        at++;
        String name = newName();
        oneOf(SORTS);
        take("at");
        number(0, rooms - 1, -1);
        take("errand");
        number(0, rooms - 1, -1);
        take("by");
        number(1, 24, -1);
        people.add(name);
    }

    private void e(int within) {
        test(within);
        while (skip("and") || skip("or")) {
            test(within);
        }
    }

    private void test(int within) {
        sum(within);
        if (skip("<") || skip("=")) {
            sum(within);
        }
    }

    private void sum(int within) {
        product(within);
        while (skip("+") || skip("-")) {
            product(within);
        }
    }

    private void product(int within) {
        part(within);
        while (skip("*")) {
            part(within);
        }
    }

    private void part(int within) {
        boolean simple = token().matches("[0-9]+") || FACTS.contains(token());
        must(simple || token().equals("not") || token().equals("("), 1);
        must(within < 5, 5);
        if (simple) {
            at++;
        } else if (skip("not")) {
            part(within + 1);
        } else {
            take("(");
            e(within + 1);
            take(")");
        }
    }

    private void day() {
        int lines = 0;
        while (!token().equals("end of all")) {
            boolean go = token().equals("go");
            must(go || token().equals("hour"), 1);
            must(lines < 24, 5);
            lines++;
            at++;
            if (go) {
                must(people.contains(name()), 2);
                at++;
                must(doors.contains(name()), 2);
                at++;
            }
            take(";");
        }
    }
}
