import java.util.ArrayDeque;
import java.util.ArrayList;
import java.util.Arrays;
import java.util.Comparator;
import java.util.Deque;
import java.util.List;
import java.util.regex.Matcher;
import java.util.regex.Pattern;

/**
 * The document once more, written apart from the program, with lists and with no eye to speed:
 * ModelTest lets both answer the same calls.
 */
final class SlowRooms {
    private static final int INVALID = -1000001;
    private static final int IMPOSSIBLE = -1000002;
    private static final int LIMIT = -1000003;
    private static final int MISSING = -1000004;
    private static final Pattern ORDER = Pattern.compile(
        "(t)(\\d\\d?),(\\d\\d?),(\\d\\d?);|(w)(\\d\\d?);|(r)(\\d\\d?),(\\d\\d?),(\\d\\d?);|(u)(\\d\\d?);");

    private static final class Talk {
        int number;
        int first;
        int end;
        int size;
        int room;

        Talk copy() {
            Talk t = new Talk();
            t.number = number;
            t.first = first;
            t.end = end;
            t.size = size;
            t.room = room;
            return t;
        }

        boolean meets(int from, int to) {
            for (int hour = from; hour < to; hour++) {
                if (hour >= first && hour < end) {
                    return true;
                }
            }
            return false;
        }
    }

    private static final class State {
        List<Talk> talks = new ArrayList<>();
        int[] size = new int[8];
        int[] price = new int[8];
        boolean[] open = new boolean[8];
        int told;
        int withdrawn;
        int openings;
        int paid;
        int rule;

        State copy() {
            State s = new State();
            for (Talk t : talks) {
                s.talks.add(t.copy());
            }
            s.size = size.clone();
            s.price = price.clone();
            s.open = open.clone();
            s.told = told;
            s.withdrawn = withdrawn;
            s.openings = openings;
            s.paid = paid;
            s.rule = rule;
            return s;
        }
    }

    private State now = new State();
    private final Deque<State> history = new ArrayDeque<>();
    private String text = "";

    SlowRooms() {
        Arrays.fill(now.size, 9);
        Arrays.fill(now.price, 10);
    }

    private static boolean in(int value, int from, int to) {
        return value >= from && value <= to;
    }

    private static boolean isTalk(int first, int end, int size) {
        return in(first, 0, 47) && in(end, 0, 48) && end > first && in(size, 1, 9);
    }

    private static Talk find(State s, int number) {
        return s.talks.stream().filter(t -> t.number == number).findFirst().orElse(null);
    }

    private static List<Talk> inRoom(State s, int room) {
        return s.talks.stream().filter(t -> t.room == room).toList();
    }

    private static boolean free(State s, int room, int hour) {
        return inRoom(s, room).stream().noneMatch(t -> t.meets(hour, hour + 1));
    }

    /** Whether it could be in the room, its own hours there left aside. */
    private static boolean fits(State s, int room, int first, int end, int size, Talk self) {
        return s.size[room] >= size
            && inRoom(s, room).stream().noneMatch(t -> t != self && t.meets(first, end));
    }

    private static int hours(State s, int room) {
        return inRoom(s, room).stream().mapToInt(t -> t.end - t.first).sum();
    }

    private static int gap(State s, int room, int first) {
        int latest = inRoom(s, room).stream().filter(t -> t.end <= first).mapToInt(t -> t.end).max().orElse(0);
        return first - latest;
    }

    private static int choose(State s, int first, int end, int size, int rule) {
        List<Integer> can = new ArrayList<>();
        for (int room = 0; room < 8; room++) {
            if (fits(s, room, first, end, size, null)) {
                can.add(room);
            }
        }
        List<Integer> open = can.stream().filter(r -> s.open[r]).toList();
        Comparator<Integer> lowest = Comparator.naturalOrder();
        Comparator<Integer> order = lowest;
        if (rule == 1) {
            order = Comparator.<Integer>comparingInt(r -> gap(s, r, first)).thenComparing(lowest);
        } else if (rule == 2) {
            order = Comparator.<Integer>comparingInt(r -> s.size[r]).thenComparing(lowest);
        } else if (rule == 3) {
            order = Comparator.<Integer>comparingInt(r -> hours(s, r)).reversed().thenComparing(lowest);
        }
        if (!open.isEmpty()) {
            return open.stream().min(order).get();
        }
        return can.stream().min(Comparator.<Integer>comparingInt(r -> s.price[r])
            .thenComparingInt(r -> s.size[r]).thenComparing(lowest)).orElse(-1);
    }

    private static void enter(State s, Talk t, int room) {
        t.room = room;
        if (!s.open[room]) {
            s.open[room] = true;
            s.openings++;
            s.paid += s.price[room];
        }
    }

    private static int talk(State s, int first, int end, int size) {
        if (!isTalk(first, end, size)) {
            return INVALID;
        }
        int room = choose(s, first, end, size, s.rule);
        if (room < 0) {
            return IMPOSSIBLE;
        }
        if (s.told == 20) {
            return LIMIT;
        }
        Talk t = new Talk();
        t.number = s.told++;
        t.first = first;
        t.end = end;
        t.size = size;
        s.talks.add(t);
        enter(s, t, room);
        return room;
    }

    private static int withdraw(State s, int number) {
        Talk t = find(s, number);
        if (t == null) {
            return INVALID;
        }
        s.talks.remove(t);
        s.withdrawn++;
        return t.room;
    }

    private static int room(State s, int room, int size, int price) {
        if (!in(room, 0, 7) || !in(size, 1, 9) || !in(price, 1, 99)) {
            return INVALID;
        }
        if (s.open[room]) {
            return IMPOSSIBLE;
        }
        int was = s.size[room] * 100 + s.price[room];
        s.size[room] = size;
        s.price[room] = price;
        return was;
    }

    private static int set(State s, int value) {
        if (!in(value, 0, 3)) {
            return INVALID;
        }
        int was = s.rule;
        s.rule = value;
        return was;
    }

    private int change(State next, int answer) {
        if (answer >= 0) {
            history.addLast(now);
            if (history.size() == 5) {
                history.removeFirst();
            }
            now = next;
        }
        return answer;
    }

    int talk(int first, int end, int size) {
        State s = now.copy();
        return change(s, talk(s, first, end, size));
    }

    int withdraw(int talk) {
        State s = now.copy();
        return change(s, withdraw(s, talk));
    }

    int move(int talk, int room) {
        State s = now.copy();
        Talk t = find(s, talk);
        if (t == null || !in(room, 0, 7)) {
            return INVALID;
        }
        if (t.room == room || !s.open[room] || !fits(s, room, t.first, t.end, t.size, t)) {
            return IMPOSSIBLE;
        }
        int was = t.room;
        t.room = room;
        return change(s, was);
    }

    int room(int room, int size, int price) {
        State s = now.copy();
        return change(s, room(s, room, size, price));
    }

    int close(int room) {
        if (!in(room, 0, 7)) {
            return INVALID;
        }
        State s = now.copy();
        if (!s.open[room] || !inRoom(s, room).isEmpty()) {
            return IMPOSSIBLE;
        }
        s.open[room] = false;
        return change(s, opened(s));
    }

    private static int opened(State s) {
        int rooms = 0;
        for (boolean open : s.open) {
            rooms += open ? 1 : 0;
        }
        return rooms;
    }

    /** What there would be, or null. */
    private State again(int rule) {
        State s = now.copy();
        List<Talk> talks = new ArrayList<>(s.talks);
        s.talks.clear();
        Arrays.fill(s.open, false);
        s.paid = 0;
        talks.sort(Comparator.<Talk>comparingInt(t -> t.first).thenComparingInt(t -> t.number));
        for (Talk t : talks) {
            int room = choose(s, t.first, t.end, t.size, rule);
            if (room < 0) {
                return null;
            }
            s.talks.add(t);
            enter(s, t, room);
        }
        return s;
    }

    int anew() {
        State s = again(now.rule);
        return s == null ? IMPOSSIBLE : change(s, s.paid);
    }

    int set(int what, int value) {
        State s = now.copy();
        return what == 0 ? change(s, set(s, value)) : INVALID;
    }

    int talkOf(int talk, int what) {
        Talk t = find(now, talk);
        if (t == null || !in(what, 0, 5)) {
            return INVALID;
        }
        if (what < 4) {
            return new int[] {t.first, t.end, t.size, t.room}[what];
        }
        int set = 0;
        if (what == 4) {
            for (int room = 0; room < 8; room++) {
                if (now.open[room] && room != t.room && fits(now, room, t.first, t.end, t.size, t)) {
                    set += 1 << room;
                }
            }
            return set;
        }
        for (Talk other : now.talks) {
            if (other != t && other.meets(t.first, t.end)) {
                set += 1 << other.number;
            }
        }
        return set;
    }

    int roomOf(int room, int what) {
        if (!in(room, 0, 7) || !in(what, 0, 6)) {
            return INVALID;
        }
        StringBuilder day = new StringBuilder();
        for (int hour = 0; hour < 48; hour++) {
            day.append(free(now, room, hour) ? 'f' : ' ');
        }
        int longest = Arrays.stream(day.toString().split(" ")).mapToInt(String::length).max().orElse(0);
        return new int[] {now.size[room], now.price[room], now.open[room] ? 1 : 0, inRoom(now, room).size(),
            hours(now, room), inRoom(now, room).stream().mapToInt(t -> 1 << t.number).sum(), longest}[what];
    }

    int at(int room, int hour) {
        if (!in(room, 0, 7) || !in(hour, 0, 47)) {
            return INVALID;
        }
        return inRoom(now, room).stream().filter(t -> t.meets(hour, hour + 1)).mapToInt(t -> t.number)
            .findFirst().orElse(MISSING);
    }

    private int crowd(int hour) {
        return (int) now.talks.stream().filter(t -> t.meets(hour, hour + 1)).count();
    }

    int hourOf(int hour, int what) {
        if (!in(hour, 0, 47) || !in(what, 0, 1)) {
            return INVALID;
        }
        if (what == 0) {
            return crowd(hour);
        }
        int set = 0;
        for (int room = 0; room < 8; room++) {
            set += now.open[room] && free(now, room, hour) ? 1 << room : 0;
        }
        return set;
    }

    int would(int first, int end, int size, int rule) {
        if (!isTalk(first, end, size) || !in(rule, 0, 3)) {
            return INVALID;
        }
        int room = choose(now, first, end, size, rule);
        return room < 0 ? MISSING : room;
    }

    int known(int rule, int what) {
        if (!in(rule, 0, 3) || !in(what, 0, 2)) {
            return INVALID;
        }
        State s = again(rule);
        if (s == null) {
            return IMPOSSIBLE;
        }
        int others = (int) now.talks.stream().filter(t -> find(s, t.number).room != t.room).count();
        return new int[] {s.paid, opened(s), others}[what];
    }

    int unknowing() {
        State s = again(now.rule);
        return s == null ? IMPOSSIBLE : 10000 + now.paid - s.paid;
    }

    int share() {
        State s = again(now.rule);
        if (s == null) {
            return IMPOSSIBLE;
        }
        return now.talks.isEmpty() ? MISSING : Float.floatToIntBits((float) now.paid / (float) s.paid);
    }

    int bestRule(int what) {
        if (!in(what, 0, 1)) {
            return INVALID;
        }
        int[] best = null;
        for (int rule = 3; rule >= 0; rule--) {
            State s = again(rule);
            if (s != null && (best == null || s.paid <= best[1])) {
                best = new int[] {rule, s.paid};
            }
        }
        return best == null ? MISSING : best[what];
    }

    int emptied(int what) {
        if (!in(what, 0, 1)) {
            return INVALID;
        }
        int best = -1;
        for (int room = 7; room >= 0; room--) {
            if (couldEmpty(room) && (best < 0 || now.price[room] >= now.price[best])) {
                best = room;
            }
        }
        return best < 0 ? MISSING : what == 0 ? best : inRoom(now, best).size();
    }

    private boolean couldEmpty(int room) {
        State s = now.copy();
        List<Talk> talks = new ArrayList<>(inRoom(s, room));
        talks.sort(Comparator.comparingInt(t -> t.number));
        for (Talk t : talks) {
            int target = -1;
            for (int other = 7; other >= 0; other--) {
                if (other != room && s.open[other] && fits(s, other, t.first, t.end, t.size, t)) {
                    target = other;
                }
            }
            if (target < 0) {
                return false;
            }
            t.room = target;
        }
        return !talks.isEmpty();
    }

    int count(int what) {
        int most = 0;
        for (int hour = 0; hour < 48; hour++) {
            most = Math.max(most, crowd(hour));
        }
        int taken = now.talks.stream().mapToInt(t -> t.end - t.first).sum();
        int[] numbers = {now.talks.size(), now.told, opened(now), now.openings, now.paid, most, taken,
            now.withdrawn, history.size(), text.length()};
        return in(what, 0, 9) ? numbers[what] : what == 20 ? now.rule : INVALID;
    }

    int undo() {
        if (history.isEmpty()) {
            return IMPOSSIBLE;
        }
        now = history.removeLast();
        return history.size();
    }

    int type(int character) {
        if (!in(character, 32, 126)) {
            return INVALID;
        }
        if (text.length() == 60) {
            return LIMIT;
        }
        text += (char) character;
        return text.length();
    }

    int clearText() {
        int was = text.length();
        text = "";
        return was;
    }

    private static int doOrder(State s, String order) {
        String[] numbers = order.substring(1, order.length() - 1).split(",");
        int[] n = Arrays.stream(numbers).mapToInt(Integer::parseInt).toArray();
        switch (order.charAt(0)) {
            case 't':
                return talk(s, n[0], n[1], n[2]);
            case 'w':
                return withdraw(s, n[0]);
            case 'r':
                return room(s, n[0], n[1], n[2]);
            default:
                return set(s, n[0]);
        }
    }

    /** Position, reason and cause, or null; orders and what becomes of the state in the arguments. */
    private int[] firstFault(State s, int[] orders) {
        int from = 0;
        while (from < text.length()) {
            String rest = text.substring(from);
            Matcher whole = ORDER.matcher(rest);
            if (!whole.lookingAt()) {
                return new int[] {from, 1, breaksOff(rest)};
            }
            int answer = doOrder(s, whole.group());
            if (answer < 0) {
                return new int[] {from, 2, answer};
            }
            orders[0]++;
            from += whole.end();
        }
        return null;
    }

    /** The length of the longest beginning that some order has, too. */
    private static int breaksOff(String rest) {
        int length = 0;
        while (length < rest.length()) {
            Matcher beginning = ORDER.matcher(rest.substring(0, length + 1));
            if (!beginning.matches() && !beginning.hitEnd()) {
                return length;
            }
            length++;
        }
        return length;
    }

    int fault(int what) {
        if (!in(what, 0, 2)) {
            return INVALID;
        }
        int[] found = firstFault(now.copy(), new int[1]);
        return found == null ? MISSING : found[what];
    }

    int play() {
        State s = now.copy();
        int[] orders = new int[1];
        return firstFault(s, orders) != null ? IMPOSSIBLE : change(s, orders[0]);
    }
}
