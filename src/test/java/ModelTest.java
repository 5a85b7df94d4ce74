import java.util.Random;

/** Long runs of calls that are answered by the program and by SlowRooms: promises 1 to 24. */
public final class ModelTest {
    private static final int RUNS = 1500;
    private static final int CALLS = 512;
    private static final Check check = new Check();

    // Always the same numbers, since the seed is the number of the run.
    private final Random random;
    private final OnlineRooms fast = new OnlineRooms();
    private final SlowRooms slow = new SlowRooms();
    private final String name;
    private final int longest;
    private final int largest;
    private final int dearest;
    private final int changes;
    private final int writing;
    private String unwritten = "";

    private ModelTest(int run) {
        random = new Random(run);
        name = "run " + run + ", call ";
        longest = 1 + random.nextInt(run % 3 == 0 ? 48 : 12);
        largest = 1 + random.nextInt(9);
        dearest = 1 + random.nextInt(run % 4 == 0 ? 3 : 99);
        changes = 15 + random.nextInt(50);
        writing = random.nextInt(4) * 3;
    }

    public static void main(String[] args) {
        for (int run = 0; run < RUNS && !check.failed(); run++) {
            new ModelTest(run).run();
        }
        check.finish();
    }

    private void run() {
        if (random.nextInt(3) > 0) {
            furnish();
        }
        for (int call = 8; call < CALLS && !check.failed(); call++) {
            int which = random.nextInt(100);
            if (!unwritten.isEmpty() && which < 92) {
                write(call);
            } else if (which < writing) {
                unwritten = (random.nextInt(4) == 0 ? "" : "~") + orders();
            } else if (which < writing + changes) {
                change(call, random.nextInt(100));
            } else {
                ask(call, random.nextInt(14));
            }
        }
    }

    private void furnish() {
        for (int room = 0; room < 8; room++) {
            int size = 1 + random.nextInt(9);
            int price = 1 + random.nextInt(dearest);
            due(room, "room", fast.room(room, size, price), slow.room(room, size, price), room, size, price);
        }
    }

    private void due(int call, String method, int got, int want, int... arguments) {
        StringBuilder told = new StringBuilder(name).append(call).append(": ").append(method);
        for (int argument : arguments) {
            told.append(' ').append(argument);
        }
        check.due(told.toString(), got, want);
    }

    /** Mostly from the range, now and then beside it or far away. */
    private int pick(int from, int to) {
        int which = random.nextInt(60);
        switch (which) {
            case 0:
                return from - 1;
            case 1:
                return to + 1;
            case 2:
                return random.nextInt();
            case 3:
                return random.nextBoolean() ? Integer.MIN_VALUE : Integer.MAX_VALUE;
            default:
                return from + random.nextInt(to - from + 1);
        }
    }

    private int pickTalk() {
        return pick(0, Math.min(19, slow.count(1)));
    }

    private int pickEnd(int first) {
        return random.nextInt(40) == 0 ? pick(0, 49) : Math.min(48, Math.max(first, 0) + 1 + random.nextInt(longest));
    }

    private void change(int call, int which) {
        if (which < 45) {
            int first = pick(0, 47);
            int end = pickEnd(first);
            int size = pick(1, largest);
            due(call, "talk", fast.talk(first, end, size), slow.talk(first, end, size), first, end, size);
        } else if (which < 58) {
            int talk = pickTalk();
            due(call, "withdraw", fast.withdraw(talk), slow.withdraw(talk), talk);
        } else if (which < 70) {
            int talk = pickTalk();
            int room = pick(0, 7);
            due(call, "move", fast.move(talk, room), slow.move(talk, room), talk, room);
        } else if (which < 78) {
            int room = pick(0, 7);
            int size = pick(1, 9);
            int price = pick(1, dearest);
            due(call, "room", fast.room(room, size, price), slow.room(room, size, price), room, size, price);
        } else if (which < 83) {
            int room = pick(0, 7);
            due(call, "close", fast.close(room), slow.close(room), room);
        } else if (which < 86) {
            due(call, "anew", fast.anew(), slow.anew());
        } else if (which < 92) {
            int what = random.nextInt(10) == 0 ? pick(0, 1) : 0;
            int value = pick(0, 3);
            due(call, "set", fast.set(what, value), slow.set(what, value), what, value);
        } else if (which < 98) {
            due(call, "undo", fast.undo(), slow.undo());
        } else {
            due(call, "play", fast.play(), slow.play());
        }
    }

    private void ask(int call, int which) {
        int what = pick(0, 7);
        switch (which) {
            case 0:
            case 1:
                int talk = pickTalk();
                due(call, "talkOf", fast.talkOf(talk, what), slow.talkOf(talk, what), talk, what);
                break;
            case 2:
                int room = pick(0, 7);
                due(call, "roomOf", fast.roomOf(room, what), slow.roomOf(room, what), room, what);
                break;
            case 3:
                int where = pick(0, 7);
                int when = pick(0, 47);
                due(call, "at", fast.at(where, when), slow.at(where, when), where, when);
                break;
            case 4:
                int hour = pick(0, 47);
                int which1 = pick(0, 1);
                due(call, "hourOf", fast.hourOf(hour, which1), slow.hourOf(hour, which1), hour, which1);
                break;
            case 5:
            case 6:
                askWould(call);
                break;
            default:
                askWhatWouldBe(call, which);
        }
    }

    private void askWould(int call) {
        int first = pick(0, 47);
        int end = pickEnd(first);
        int size = pick(1, largest);
        int rule = pick(0, 3);
        due(call, "would", fast.would(first, end, size, rule), slow.would(first, end, size, rule),
            first, end, size, rule);
    }

    private void askWhatWouldBe(int call, int which) {
        int what = pick(0, 2);
        switch (which) {
            case 7:
                int rule = pick(0, 3);
                due(call, "known", fast.known(rule, what), slow.known(rule, what), rule, what);
                break;
            case 8:
                due(call, "unknowing", fast.unknowing(), slow.unknowing());
                break;
            case 9:
                due(call, "share", fast.share(), slow.share());
                break;
            case 10:
                due(call, "bestRule", fast.bestRule(what), slow.bestRule(what), what);
                break;
            case 11:
                due(call, "emptied", fast.emptied(what), slow.emptied(what), what);
                break;
            case 12:
                int number = pick(0, 21);
                due(call, "count", fast.count(number), slow.count(number), number);
                break;
            default:
                due(call, "fault", fast.fault(what), slow.fault(what), what);
        }
    }

    /** Types the next character; "~" stands for emptying the text, "!" for playing it. */
    private void write(int call) {
        char sign = unwritten.charAt(0);
        unwritten = unwritten.substring(1);
        if (sign == '~') {
            due(call, "clearText", fast.clearText(), slow.clearText());
        } else if (sign == '!') {
            due(call, "play", fast.play(), slow.play());
        } else if (sign == '?') {
            int what = random.nextInt(3);
            due(call, "fault", fast.fault(what), slow.fault(what), what);
        } else {
            int typed = random.nextInt(200) == 0 ? pick(32, 126) : sign;
            due(call, "type", fast.type(typed), slow.type(typed), typed);
        }
    }

    private String orders() {
        StringBuilder text = new StringBuilder();
        int orders = 1 + random.nextInt(6);
        for (int i = 0; i < orders; i++) {
            text.append(order());
            text.append(random.nextInt(5) == 0 ? "?" : "");
        }
        if (random.nextInt(4) == 0) {
            int at = random.nextInt(text.length());
            text.setCharAt(at, "0123456789,;twruTx /:".charAt(random.nextInt(21)));
        }
        if (random.nextInt(8) == 0) {
            text.deleteCharAt(random.nextInt(text.length()));
        }
        return text.append(random.nextInt(3) == 0 ? "?" : "").append("!").toString();
    }

    private String order() {
        switch (random.nextInt(7)) {
            case 0:
                return "w" + number(random.nextInt(Math.min(20, slow.count(1) + 2))) + ";";
            case 1:
                return "r" + number(random.nextInt(9)) + "," + number(random.nextInt(11)) + ","
                    + number(random.nextInt(100)) + ";";
            case 2:
                return "u" + number(random.nextInt(5)) + ";";
            default:
                int first = random.nextInt(48);
                return "t" + number(first) + "," + number(first + 1 + random.nextInt(longest)) + ","
                    + number(1 + random.nextInt(largest)) + ";";
        }
    }

    private String number(int value) {
        return value < 10 && random.nextInt(4) == 0 ? "0" + value : Integer.toString(value % 100);
    }
}
