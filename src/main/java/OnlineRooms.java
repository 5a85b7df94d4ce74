/**
 * Rooms for talks that are told one by one, beside what would be if all talks were known at once.
 * The document's promises say what each call of the face does; errors are answers below 0.
 */
public final class OnlineRooms {
    /** An argument is out of its range, or there is no such talk. */
    public static final int INVALID_ARGUMENT = -1000001;
    /** The call is not possible in the present state. */
    public static final int NOT_POSSIBLE = -1000002;
    /** A fixed limit has been reached. */
    public static final int LIMIT_REACHED = -1000003;
    /** There is no such value. */
    public static final int NOT_FOUND = -1000004;

    private static final int HOURS = 48;
    private static final int TALKS = 20;
    private static final int ROOMS = 8;
    private static final int RULES = 4;
    private static final int GREATEST_SIZE = 9;
    private static final int GREATEST_PRICE = 99;
    private static final int FIRST_PRICE = 10;
    private static final int TEXT_LIMIT = 60;
    private static final int NONE = -1;

    private final Board now = new Board();
    // Whatever may fail or only would be is done here, so that the board of now needs no repair.
    private final Board trial = new Board();
    private final History history = new History();
    private final Script script = new Script();

    public OnlineRooms() {
    }

    // ---- talks

    public int talk(int first, int end, int size) {
        trial.copyFrom(now);
        return keepTrial(trial.tell(first, end, size));
    }

    public int withdraw(int talk) {
        trial.copyFrom(now);
        return keepTrial(trial.drop(talk));
    }

    public int move(int talk, int room) {
        trial.copyFrom(now);
        return keepTrial(trial.shift(talk, room));
    }

    // ---- rooms

    public int room(int room, int size, int price) {
        trial.copyFrom(now);
        return keepTrial(trial.furnish(room, size, price));
    }

    public int close(int room) {
        trial.copyFrom(now);
        return keepTrial(trial.shut(room));
    }

    public int anew() {
        return keepTrial(tryAnew(now.ruleOfNow()));
    }

    public int set(int what, int value) {
        trial.copyFrom(now);
        return keepTrial(what == 0 ? trial.chooseRule(value) : INVALID_ARGUMENT);
    }

    // ---- what there is

    public int talkOf(int talk, int what) {
        return now.ofTalk(talk, what);
    }

    public int roomOf(int room, int what) {
        return now.ofRoom(room, what);
    }

    public int at(int room, int hour) {
        if (!isRoom(room) || !isHour(hour)) {
            return INVALID_ARGUMENT;
        }
        int talk = now.talkIn(room, hour);
        return talk == NONE ? NOT_FOUND : talk;
    }

    public int hourOf(int hour, int what) {
        if (!isHour(hour)) {
            return INVALID_ARGUMENT;
        }
        switch (what) {
            case 0:
                return now.talksAt(hour);
            case 1:
                return now.freeRoomsAt(hour);
            default:
                return INVALID_ARGUMENT;
        }
    }

    // ---- what would be

    public int would(int first, int end, int size, int rule) {
        if (!isTalk(first, end, size) || !isRule(rule)) {
            return INVALID_ARGUMENT;
        }
        int room = now.roomFor(first, end, size, rule);
        return room == NONE ? NOT_FOUND : room;
    }

    public int known(int rule, int what) {
        if (!isRule(rule) || what < 0 || what > 2) {
            return INVALID_ARGUMENT;
        }
        int price = tryAnew(rule);
        if (price < 0 || what == 0) {
            return price;
        }
        return what == 1 ? trial.openRooms() : trial.placedElsewhereThan(now);
    }

    public int unknowing() {
        int price = tryAnew(now.ruleOfNow());
        return price < 0 ? price : now.paidSoFar() - price + 10000;
    }

    public int share() {
        int price = tryAnew(now.ruleOfNow());
        if (price < 0) {
            return price;
        }
        // No room is without a price, so it is 0 only where there is no talk.
        if (price == 0) {
            return NOT_FOUND;
        }
        return bitsOf((float) now.paidSoFar() / (float) price);
    }

    public int bestRule(int what) {
        if (what < 0 || what > 1) {
            return INVALID_ARGUMENT;
        }
        int best = NONE;
        int least = 0;
        for (int rule = 0; rule < RULES; rule++) {
            int price = tryAnew(rule);
            if (price >= 0 && (best == NONE || price < least)) {
                best = rule;
                least = price;
            }
        }
        if (best == NONE) {
            return NOT_FOUND;
        }
        return what == 0 ? best : least;
    }

    public int emptied(int what) {
        if (what < 0 || what > 1) {
            return INVALID_ARGUMENT;
        }
        int best = NONE;
        int greatest = 0;
        for (int room = 0; room < ROOMS; room++) {
            int price = now.ofRoom(room, 1);
            if (price > greatest && couldBeEmptied(room)) {
                best = room;
                greatest = price;
            }
        }
        if (best == NONE) {
            return NOT_FOUND;
        }
        return what == 0 ? best : now.ofRoom(best, 3);
    }

    public int count(int what) {
        switch (what) {
            case 8:
                return history.size();
            case 9:
                return script.size();
            case 20:
                return now.ruleOfNow();
            default:
                return now.number(what);
        }
    }

    public int undo() {
        return history.giveBack(now);
    }

    // ---- texts

    public int type(int character) {
        if (character < 32 || character > 126) {
            return INVALID_ARGUMENT;
        }
        return script.append((char) character);
    }

    public int clearText() {
        return script.clear();
    }

    public int fault(int what) {
        if (what < 0 || what > 2) {
            return INVALID_ARGUMENT;
        }
        trial.copyFrom(now);
        return script.runOn(trial) ? NOT_FOUND : script.ofFault(what);
    }

    public int play() {
        trial.copyFrom(now);
        return keepTrial(script.runOn(trial) ? script.ordersDone() : NOT_POSSIBLE);
    }

    /** Ends every change: an answer that is no error makes the trial the state of now. */
    private int keepTrial(int answer) {
        if (answer >= 0) {
            history.keep(now);
            now.copyFrom(trial);
        }
        return answer;
    }

    /** The price of telling anew, or NOT_POSSIBLE; the trial then holds what would be. */
    private int tryAnew(int rule) {
        trial.copyFrom(now);
        return trial.tellAnew(rule);
    }

    private boolean couldBeEmptied(int room) {
        trial.copyFrom(now);
        return trial.emptyOut(room);
    }

    private static boolean isTalk(int first, int end, int size) {
        return isHour(first) && end > first && end <= HOURS && isSize(size);
    }

    private static boolean isHour(int hour) {
        return hour >= 0 && hour < HOURS;
    }

    private static boolean isSize(int size) {
        return size >= 1 && size <= GREATEST_SIZE;
    }

    private static boolean isRoom(int room) {
        return room >= 0 && room < ROOMS;
    }

    private static boolean isRule(int rule) {
        return rule >= 0 && rule < RULES;
    }

    /**
     * The bits of a float above 0 that is neither tiny nor infinite. They are counted out, since
     * the library's own way to them is ruled out; halving and doubling lose nothing.
     */
    private static int bitsOf(float value) {
        float part = value;
        int exponent = 127;
        while (part >= 2f && exponent < 254) {
            part = part / 2f;
            exponent++;
        }
        while (part < 1f && exponent > 1) {
            part = part * 2f;
            exponent--;
        }
        return (exponent << 23) + (int) ((part - 1f) * 8388608f);
    }

    /** Everything that a change records: all but the text. */
    private static final class Board {
        private final int[] first = new int[TALKS];
        private final int[] end = new int[TALKS];
        private final int[] size = new int[TALKS];
        // NONE for a talk that has not been told yet, or that was withdrawn.
        private final int[] place = new int[TALKS];
        private final int[] roomSize = new int[ROOMS];
        private final int[] price = new int[ROOMS];
        // Bit h of a room's number is for its hour h.
        private final long[] taken = new long[ROOMS];
        private int open;
        private int told;
        private int withdrawn;
        private int openings;
        private int paid;
        private int rule;

        Board() {
            for (int talk = 0; talk < TALKS; talk++) {
                place[talk] = NONE;
            }
            for (int room = 0; room < ROOMS; room++) {
                roomSize[room] = GREATEST_SIZE;
                price[room] = FIRST_PRICE;
            }
        }

        void copyFrom(Board other) {
            System.arraycopy(other.first, 0, first, 0, TALKS);
            System.arraycopy(other.end, 0, end, 0, TALKS);
            System.arraycopy(other.size, 0, size, 0, TALKS);
            System.arraycopy(other.place, 0, place, 0, TALKS);
            System.arraycopy(other.roomSize, 0, roomSize, 0, ROOMS);
            System.arraycopy(other.price, 0, price, 0, ROOMS);
            System.arraycopy(other.taken, 0, taken, 0, ROOMS);
            open = other.open;
            told = other.told;
            withdrawn = other.withdrawn;
            openings = other.openings;
            paid = other.paid;
            rule = other.rule;
        }

        int tell(int begin, int stop, int need) {
            if (!isTalk(begin, stop, need)) {
                return INVALID_ARGUMENT;
            }
            int room = roomFor(begin, stop, need, rule);
            if (!isRoom(room)) {
                return NOT_POSSIBLE;
            }
            if (told >= TALKS) {
                return LIMIT_REACHED;
            }
            first[told] = begin;
            end[told] = stop;
            size[told] = need;
            putIn(told, room);
            told++;
            return room;
        }

        int drop(int talk) {
            int room = placeOf(talk);
            if (!isRoom(room)) {
                return INVALID_ARGUMENT;
            }
            takeOut(talk, room);
            withdrawn++;
            return room;
        }

        int shift(int talk, int room) {
            int old = placeOf(talk);
            if (!isRoom(old) || !isRoom(room)) {
                return INVALID_ARGUMENT;
            }
            if (!couldGo(talk, room)) {
                return NOT_POSSIBLE;
            }
            takeOut(talk, old);
            putIn(talk, room);
            return old;
        }

        int furnish(int room, int newSize, int newPrice) {
            if (!isRoom(room) || !isSize(newSize) || newPrice < 1 || newPrice > GREATEST_PRICE) {
                return INVALID_ARGUMENT;
            }
            if (isOpen(room)) {
                return NOT_POSSIBLE;
            }
            int old = 100 * roomSize[room] + price[room];
            roomSize[room] = newSize;
            price[room] = newPrice;
            return old;
        }

        int shut(int room) {
            if (!isRoom(room)) {
                return INVALID_ARGUMENT;
            }
            if (!isOpen(room) || taken[room] != 0) {
                return NOT_POSSIBLE;
            }
            open &= ~(1 << room);
            return openRooms();
        }

        int chooseRule(int newRule) {
            if (!isRule(newRule)) {
                return INVALID_ARGUMENT;
            }
            int old = rule;
            rule = newRule;
            return old;
        }

        /** Returns the price, or NOT_POSSIBLE: then the board is left half told and of no use. */
        int tellAnew(int byRule) {
            forgetRooms();
            for (int hour = 0; hour < HOURS; hour++) {
                for (int talk = 0; talk < TALKS; talk++) {
                    if (place[talk] != NONE && first[talk] == hour) {
                        int room = roomFor(hour, end[talk], size[talk], byRule);
                        if (!isRoom(room)) {
                            return NOT_POSSIBLE;
                        }
                        putIn(talk, room);
                    }
                }
            }
            return paid;
        }

        /** Talks keep their places until they get others: a place also tells that there is a talk. */
        private void forgetRooms() {
            for (int room = 0; room < ROOMS; room++) {
                taken[room] = 0;
            }
            open = 0;
            paid = 0;
        }

        /** Returns false if some talk has nowhere to go (the board is of no use then), or none is in. */
        boolean emptyOut(int room) {
            if (!isRoom(room) || taken[room] == 0) {
                return false;
            }
            for (int talk = 0; talk < TALKS; talk++) {
                if (place[talk] == room && shift(talk, lowestOther(talk)) < 0) {
                    return false;
                }
            }
            return true;
        }

        private int lowestOther(int talk) {
            for (int room = 0; room < ROOMS; room++) {
                if (couldGo(talk, room)) {
                    return room;
                }
            }
            return NONE;
        }

        /** The room that a talk would get by a rule, or NONE. */
        int roomFor(int begin, int stop, int need, int byRule) {
            long hours = hoursOf(begin, stop);
            int best = NONE;
            int least = 0;
            for (int room = 0; room < ROOMS; room++) {
                if (isOpen(room) && canHold(room, need, hours)) {
                    int rank = rankByRule(room, begin, byRule);
                    if (best == NONE || rank < least) {
                        best = room;
                        least = rank;
                    }
                }
            }
            return best == NONE ? roomToOpen(need) : best;
        }

        /** The room with the least rank comes first, of several the lowest: so rule 0 needs no rank. */
        private int rankByRule(int room, int begin, int byRule) {
            switch (byRule) {
                case 1:
                    return gapAhead(room, begin);
                case 2:
                    return roomSize[room];
                case 3:
                    return -Long.bitCount(taken[room]);
                default:
                    return 0;
            }
        }

        private int gapAhead(int room, int begin) {
            long hours = taken[room];
            int gap = 0;
            while (gap < begin && (hours >> (begin - 1 - gap) & 1L) == 0) {
                gap++;
            }
            return gap;
        }

        private int roomToOpen(int need) {
            int best = NONE;
            int least = 0;
            for (int room = 0; room < ROOMS; room++) {
                if (!isOpen(room) && roomSize[room] >= need) {
                    // A size is below 10, so the price goes ahead of it.
                    int rank = 10 * price[room] + roomSize[room];
                    if (best == NONE || rank < least) {
                        best = room;
                        least = rank;
                    }
                }
            }
            return best;
        }

        private void putIn(int talk, int room) {
            if (!isOpen(room)) {
                open |= 1 << room;
                openings++;
                paid += price[room];
            }
            place[talk] = room;
            taken[room] |= hoursOf(first[talk], end[talk]);
        }

        private void takeOut(int talk, int room) {
            place[talk] = NONE;
            taken[room] &= ~hoursOf(first[talk], end[talk]);
        }

        private boolean couldGo(int talk, int room) {
            return room != place[talk] && isOpen(room)
                && canHold(room, size[talk], hoursOf(first[talk], end[talk]));
        }

        private boolean canHold(int room, int need, long hours) {
            return roomSize[room] >= need && (taken[room] & hours) == 0;
        }

        private boolean isOpen(int room) {
            return (open >> room & 1) == 1;
        }

        private boolean isTaken(int room, int hour) {
            return (taken[room] >> hour & 1L) == 1L;
        }

        private boolean takesHour(int talk, int hour) {
            return place[talk] != NONE && first[talk] <= hour && hour < end[talk];
        }

        private static long hoursOf(int begin, int stop) {
            return ((1L << (stop - begin)) - 1L) << begin;
        }

        private int placeOf(int talk) {
            return talk >= 0 && talk < TALKS ? place[talk] : NONE;
        }

        int ofTalk(int talk, int what) {
            int room = placeOf(talk);
            if (room == NONE) {
                return INVALID_ARGUMENT;
            }
            switch (what) {
                case 0:
                    return first[talk];
                case 1:
                    return end[talk];
                case 2:
                    return size[talk];
                case 3:
                    return room;
                case 4:
                    return otherRooms(talk);
                case 5:
                    return talksBeside(talk);
                default:
                    return INVALID_ARGUMENT;
            }
        }

        private int otherRooms(int talk) {
            int set = 0;
            for (int room = 0; room < ROOMS; room++) {
                if (couldGo(talk, room)) {
                    set |= 1 << room;
                }
            }
            return set;
        }

        private int talksBeside(int talk) {
            long hours = hoursOf(first[talk], end[talk]);
            int set = 0;
            for (int other = 0; other < TALKS; other++) {
                if (other != talk && place[other] != NONE
                    && (hours & hoursOf(first[other], end[other])) != 0) {
                    set |= 1 << other;
                }
            }
            return set;
        }

        int ofRoom(int room, int what) {
            if (!isRoom(room)) {
                return INVALID_ARGUMENT;
            }
            switch (what) {
                case 0:
                    return roomSize[room];
                case 1:
                    return price[room];
                case 2:
                    return isOpen(room) ? 1 : 0;
                case 3:
                    return Integer.bitCount(talksIn(room));
                case 4:
                    return Long.bitCount(taken[room]);
                case 5:
                    return talksIn(room);
                case 6:
                    return longestFree(room);
                default:
                    return INVALID_ARGUMENT;
            }
        }

        private int talksIn(int room) {
            int set = 0;
            for (int talk = 0; talk < TALKS; talk++) {
                if (place[talk] == room) {
                    set |= 1 << talk;
                }
            }
            return set;
        }

        private int longestFree(int room) {
            int longest = 0;
            int row = 0;
            for (int hour = 0; hour < HOURS; hour++) {
                row = isTaken(room, hour) ? 0 : row + 1;
                longest = Math.max(longest, row);
            }
            return longest;
        }

        /** The talk that takes an hour of a room, or NONE. */
        int talkIn(int room, int hour) {
            for (int talk = 0; talk < TALKS; talk++) {
                if (place[talk] == room && takesHour(talk, hour)) {
                    return talk;
                }
            }
            return NONE;
        }

        int talksAt(int hour) {
            int talks = 0;
            for (int talk = 0; talk < TALKS; talk++) {
                if (takesHour(talk, hour)) {
                    talks++;
                }
            }
            return talks;
        }

        int freeRoomsAt(int hour) {
            int set = 0;
            for (int room = 0; room < ROOMS; room++) {
                if (isOpen(room) && !isTaken(room, hour)) {
                    set |= 1 << room;
                }
            }
            return set;
        }

        int number(int what) {
            switch (what) {
                case 0:
                    return told - withdrawn;
                case 1:
                    return told;
                case 2:
                    return openRooms();
                case 3:
                    return openings;
                case 4:
                    return paid;
                case 5:
                    return fewestRooms();
                case 6:
                    return hoursTaken();
                case 7:
                    return withdrawn;
                default:
                    return INVALID_ARGUMENT;
            }
        }

        private int fewestRooms() {
            int fewest = 0;
            for (int hour = 0; hour < HOURS; hour++) {
                fewest = Math.max(fewest, talksAt(hour));
            }
            return fewest;
        }

        private int hoursTaken() {
            int hours = 0;
            for (int room = 0; room < ROOMS; room++) {
                hours += Long.bitCount(taken[room]);
            }
            return hours;
        }

        int openRooms() {
            return Integer.bitCount(open);
        }

        int paidSoFar() {
            return paid;
        }

        int ruleOfNow() {
            return rule;
        }

        int placedElsewhereThan(Board other) {
            int talks = 0;
            for (int talk = 0; talk < TALKS; talk++) {
                if (place[talk] != other.place[talk]) {
                    talks++;
                }
            }
            return talks;
        }
    }

    /** The latest boards; one that is dropped is written over by the next. */
    private static final class History {
        // A power of two, so that a count of changes can be cut down to a place.
        private static final int STATES = 4;

        private final Board[] states = new Board[STATES];
        private int next;
        private int kept;

        void keep(Board board) {
            int slot = next & (STATES - 1);
            Board state = states[slot];
            if (state == null) {
                state = new Board();
                states[slot] = state;
            }
            state.copyFrom(board);
            next++;
            kept = Math.min(kept + 1, STATES);
        }

        int giveBack(Board board) {
            Board state = states[(next - 1) & (STATES - 1)];
            if (kept == 0 || state == null) {
                return NOT_POSSIBLE;
            }
            board.copyFrom(state);
            next--;
            kept--;
            return kept;
        }

        int size() {
            return kept;
        }
    }

    /** The text, and what the latest run of its orders came to. */
    private static final class Script {
        private static final int NOT_OF_THE_FORM = 1;
        private static final int CALL_FAILS = 2;

        private final char[] signs = new char[TEXT_LIMIT];
        private final Order order = new Order();
        private int length;
        private int orders;
        private int position;
        private int reason;
        private int cause;

        int append(char sign) {
            if (length >= TEXT_LIMIT) {
                return LIMIT_REACHED;
            }
            signs[length] = sign;
            length++;
            return length;
        }

        int clear() {
            int old = length;
            length = 0;
            return old;
        }

        int size() {
            return length;
        }

        /** Does the orders up to the first that is not possible; true if there is none such. */
        boolean runOn(Board board) {
            int from = 0;
            orders = 0;
            while (orders < TEXT_LIMIT && from < length) {
                if (!order.read(signs, length, from)) {
                    return stopAt(from, NOT_OF_THE_FORM, order.next() - from);
                }
                int answer = order.doOn(board);
                if (answer < 0) {
                    return stopAt(from, CALL_FAILS, answer);
                }
                orders++;
                from = order.next();
            }
            return true;
        }

        private boolean stopAt(int newPosition, int newReason, int newCause) {
            position = newPosition;
            reason = newReason;
            cause = newCause;
            return false;
        }

        int ordersDone() {
            return orders;
        }

        int ofFault(int what) {
            switch (what) {
                case 0:
                    return position;
                case 1:
                    return reason;
                default:
                    return cause;
            }
        }
    }

    /** One order of a text. */
    private static final class Order {
        private static final int MOST_NUMBERS = 3;

        private final int[] numbers = new int[MOST_NUMBERS];
        private char kind;
        // The first character that has not been read: where the order breaks off, or what is behind it.
        private int unread;

        /** False if no order of the form, its ";" included, begins there. */
        boolean read(char[] signs, int length, int from) {
            unread = from;
            int wanted = readKind(signs, length);
            for (int i = 0; i < wanted; i++) {
                char last = i == wanted - 1 ? ';' : ',';
                if (!readNumber(signs, length, i) || !readSign(signs, length, last)) {
                    return false;
                }
            }
            return wanted > 0;
        }

        int next() {
            return unread;
        }

        int doOn(Board board) {
            switch (kind) {
                case 't':
                    return board.tell(numbers[0], numbers[1], numbers[2]);
                case 'w':
                    return board.drop(numbers[0]);
                case 'r':
                    return board.furnish(numbers[0], numbers[1], numbers[2]);
                case 'u':
                    return board.chooseRule(numbers[0]);
                default:
                    return INVALID_ARGUMENT;
            }
        }

        /** Returns how many numbers follow, 0 if no order begins so. */
        private int readKind(char[] signs, int length) {
            if (!isSignLeft(signs, length)) {
                return 0;
            }
            kind = signs[unread];
            switch (kind) {
                case 't':
                case 'r':
                    unread++;
                    return MOST_NUMBERS;
                case 'w':
                case 'u':
                    unread++;
                    return 1;
                default:
                    return 0;
            }
        }

        private boolean readNumber(char[] signs, int length, int which) {
            if (which < 0 || which >= MOST_NUMBERS || !isDigitLeft(signs, length)) {
                return false;
            }
            numbers[which] = signs[unread] - '0';
            unread++;
            if (isDigitLeft(signs, length)) {
                numbers[which] = 10 * numbers[which] + signs[unread] - '0';
                unread++;
            }
            return true;
        }

        private boolean readSign(char[] signs, int length, char sign) {
            if (!isSignLeft(signs, length) || signs[unread] != sign) {
                return false;
            }
            unread++;
            return true;
        }

        private boolean isDigitLeft(char[] signs, int length) {
            return isSignLeft(signs, length) && signs[unread] >= '0' && signs[unread] <= '9';
        }

        private boolean isSignLeft(char[] signs, int length) {
            return unread >= 0 && unread < length && unread < signs.length;
        }
    }
}
