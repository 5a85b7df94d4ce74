/** Promises 21 to 24: type, clearText, fault, play. */
public final class TextsTest {
    private static final int INVALID = OnlineRooms.INVALID_ARGUMENT;
    private static final int IMPOSSIBLE = OnlineRooms.NOT_POSSIBLE;
    private static final int LIMIT = OnlineRooms.LIMIT_REACHED;
    private static final int MISSING = OnlineRooms.NOT_FOUND;
    private static final Check check = new Check();

    public static void main(String[] args) {
        typeAppendsUpToSixty();
        clearTextEmpties();
        textsWithoutAFault();
        formBreaksOff();
        formBreaksOffBehindGoodOrders();
        callsFail();
        ordersAheadAreDone();
        firstFaultCounts();
        faultDoesNothing();
        faultRefusesWhatIsOutOfRange();
        playDoesAllOrders();
        playIsOneChange();
        playOfNoOrders();
        playOfAFaultDoesNothing();
        playStaysInTheText();
        playReachesTheLimit();
        check.finish();
    }

    private static void write(OnlineRooms x, String text) {
        x.clearText();
        for (int i = 0; i < text.length(); i++) {
            check.due("type " + text.charAt(i), x.type(text.charAt(i)), i + 1);
        }
    }

    private static OnlineRooms with(String text) {
        OnlineRooms x = new OnlineRooms();
        write(x, text);
        return x;
    }

    private static void fault(OnlineRooms x, String text, int position, int reason, int cause) {
        check.due("position in " + text, x.fault(0), position);
        check.due("reason in " + text, x.fault(1), reason);
        check.due("cause in " + text, x.fault(2), cause);
    }

    private static void noFault(OnlineRooms x, String text) {
        fault(x, text, MISSING, MISSING, MISSING);
    }

    private static void typeAppendsUpToSixty() {
        OnlineRooms x = new OnlineRooms();
        int[] wrong = {31, 127, 0, -1, 200, 65536 + 65, Integer.MIN_VALUE, Integer.MAX_VALUE};
        for (int sign : wrong) {
            check.due("type(" + sign + ")", x.type(sign), INVALID);
        }
        check.due("type(32)", x.type(32), 1);
        check.due("type(126)", x.type(126), 2);
        for (int length = 3; length <= 60; length++) {
            check.due("type a character", x.type('a'), length);
        }
        check.due("the 61st", x.type('a'), LIMIT);
        check.due("the 61st, out of range", x.type(31), INVALID);
        check.due("its length", x.count(9), 60);
        check.due("typing is no change", x.count(8), 0);
        check.due("clearText", x.clearText(), 60);
        check.due("type again", x.type('a'), 1);
    }

    private static void clearTextEmpties() {
        OnlineRooms x = with("u1;");
        check.due("clearText", x.clearText(), 3);
        check.due("clearText again", x.clearText(), 0);
        check.due("length", x.count(9), 0);
        check.due("clearing is no change", x.count(8), 0);
        noFault(x, "");
        check.due("no orders", x.play(), 0);
        check.due("the rule", x.count(20), 0);
        write(x, "u");
        fault(x, "u behind a longer text", 0, 1, 1);
    }

    private static void textsWithoutAFault() {
        String[] texts = {"", "t0,1,1;", "t00,01,01;", "t47,48,9;", "r0,1,1;", "r07,09,99;", "u0;", "u03;",
            "t0,48,9;w0;", "t0,2,1;t1,3,1;w1;w00;r2,9,9;u2;"};
        for (String text : texts) {
            noFault(with(text), text);
        }
    }

    private static void formBreaksOff() {
        String[] texts = {"x", " t0,1,1;", "T0,1,1;", ";", ",", "1", "t", "t;", "t,", "tx", "t1", "t1;", "t1x", "t12",
            "t123", "t1,", "t1,;", "t1,2", "t1,2;", "t1,2,", "t1,2,,", "t1,2,3", "t1,2,3,", "t1,2,33", "t1,2,333;",
            "t-1,2,3;", "t1 ,2,3;", "w", "w;", "w1", "w1,", "w123;", "r1;", "r1,2;", "r1,2,3", "r1,2,3 ;", "r10,20,300;",
            "u", "u0", "u0,", "u000;", "t0,1,", "t0,1:", "w/;", "w:;", "w1/;", "w1:;"};
        int[] causes = {0, 0, 0, 0, 0, 0, 1, 1, 1, 1, 2, 2, 2, 3,
            3, 3, 3, 4, 4, 5, 5, 6, 6, 7, 7,
            1, 2, 1, 1, 2, 2, 3, 2, 4, 6, 6, 9,
            1, 2, 2, 3, 5, 4, 1, 1, 2, 2};
        check.due("as many causes", causes.length, texts.length);
        for (int i = 0; i < texts.length; i++) {
            fault(with(texts[i]), texts[i], 0, 1, causes[i]);
        }
    }

    private static void formBreaksOffBehindGoodOrders() {
        fault(with("u1;u2;u3"), "u1;u2;u3", 6, 1, 2);
        fault(with("u1; u2;"), "u1; u2;", 3, 1, 0);
        fault(with("t0,1,1;t1,2,1"), "t0,1,1;t1,2,1", 7, 1, 6);
        fault(with("u1;;"), "u1;;", 3, 1, 0);
        StringBuilder full = new StringBuilder();
        while (full.length() < 57) {
            full.append("u1;");
        }
        fault(with(full + "u11"), "19 orders and u11", 57, 1, 3);
        noFault(with(full + "u1;"), "20 orders");
    }

    private static void callsFail() {
        String[] texts = {"t0,0,1;", "t5,4,1;", "t48,49,1;", "t0,49,1;", "t0,1,0;", "t0,1,10;", "t99,99,99;", "w0;",
            "w99;", "r8,1,1;", "r0,0,1;", "r0,10,1;", "r0,1,0;", "r99,1,1;", "u4;", "u99;"};
        for (String text : texts) {
            fault(with(text), text, 0, 2, INVALID);
        }
        String full = "t0,9,1;r0,9,1;";
        fault(with(full), full, 7, 2, IMPOSSIBLE);
        String twice = "t0,9,1;w0;w0;";
        fault(with(twice), twice, 10, 2, INVALID);
        OnlineRooms x = new OnlineRooms();
        for (int i = 0; i < 7; i++) {
            x.talk(0, 48, 1);
        }
        write(x, "t0,48,9;t47,48,1;");
        fault(x, "the eighth and the ninth", 8, 2, IMPOSSIBLE);
    }

    private static void ordersAheadAreDone() {
        OnlineRooms x = with("t0,9,1;w0;r1,9,1;t0,9,1;");
        noFault(x, "orders as they come");
        check.due("played", x.play(), 4);
        check.due("room 0 was left open", x.talkOf(1, 3), 0);
        write(x, "w1;w1;");
        fault(x, "w1;w1;", 3, 2, INVALID);
        x.withdraw(1);
        fault(x, "w1;w1; behind withdraw(1)", 0, 2, INVALID);
        write(x, "r0,9,1;");
        fault(x, "r0,9,1; of an open room", 0, 2, IMPOSSIBLE);
        x.close(0);
        noFault(x, "r0,9,1; of a closed room");
    }

    private static void firstFaultCounts() {
        fault(with("w5;x"), "w5;x", 0, 2, INVALID);
        fault(with("u1;x;w5;"), "u1;x;w5;", 3, 1, 0);
    }

    private static void faultDoesNothing() {
        OnlineRooms x = with("t0,9,1;u3;x");
        x.fault(0);
        write(x, "t0,9,1;u3;");
        x.fault(0);
        check.due("no talk", x.count(1), 0);
        check.due("no state", x.count(8), 0);
        check.due("no rule", x.count(20), 0);
        check.due("the text stays", x.count(9), 10);
    }

    private static void faultRefusesWhatIsOutOfRange() {
        OnlineRooms x = new OnlineRooms();
        int[] wrong = {-1, 3, Integer.MIN_VALUE, Integer.MAX_VALUE};
        for (int what : wrong) {
            check.due("fault(" + what + ") of no text", x.fault(what), INVALID);
        }
        write(x, "x");
        for (int what : wrong) {
            check.due("fault(" + what + ")", x.fault(what), INVALID);
        }
    }

    private static void playDoesAllOrders() {
        OnlineRooms x = with("r3,4,5;t12,18,4;t9,13,04;u2;t8,9,9;w1;");
        check.due("play", x.play(), 6);
        check.due("talk 0", x.talkOf(0, 3), 3);
        check.due("its first hour", x.talkOf(0, 0), 12);
        check.due("its end", x.talkOf(0, 1), 18);
        check.due("its size", x.talkOf(0, 2), 4);
        check.due("talk 1", x.talkOf(1, 3), INVALID);
        check.due("talk 2", x.talkOf(2, 3), 0);
        check.due("size of room 3", x.roomOf(3, 0), 4);
        check.due("price of room 3", x.roomOf(3, 1), 5);
        check.due("paid", x.count(4), 15);
        check.due("openings", x.count(3), 2);
        check.due("the rule", x.count(20), 2);
        check.due("withdrawn so far", x.count(7), 1);
    }

    private static void playIsOneChange() {
        OnlineRooms x = with("u1;u2;t0,1,1;");
        x.set(0, 3);
        check.due("play", x.play(), 3);
        check.due("states", x.count(8), 2);
        check.due("undo", x.undo(), 1);
        check.due("the rule", x.count(20), 3);
        check.due("no talk", x.count(1), 0);
        check.due("the text stays", x.count(9), 13);
        check.due("play again", x.play(), 3);
        check.due("the rule", x.count(20), 2);
    }

    private static void playOfNoOrders() {
        OnlineRooms x = new OnlineRooms();
        check.due("play", x.play(), 0);
        check.due("one change", x.count(8), 1);
        check.due("undo", x.undo(), 0);
    }

    private static void playOfAFaultDoesNothing() {
        OnlineRooms x = with("t0,1,1;u1;x");
        check.due("play", x.play(), IMPOSSIBLE);
        write(x, "t0,1,1;u1;w1;");
        check.due("play", x.play(), IMPOSSIBLE);
        write(x, "t0,1,1;u1");
        check.due("play", x.play(), IMPOSSIBLE);
        check.due("no talk", x.count(1), 0);
        check.due("no rule", x.count(20), 0);
        check.due("no state", x.count(8), 0);
    }

    private static void playStaysInTheText() {
        OnlineRooms x = with("t0,1,1;");
        for (int times = 0; times < 8; times++) {
            check.due("play", x.play(), 1);
            check.due("its room", x.talkOf(times, 3), times);
        }
        check.due("play", x.play(), IMPOSSIBLE);
        fault(x, "no room is left", 0, 2, IMPOSSIBLE);
        check.due("the text stays", x.count(9), 7);
    }

    private static void playReachesTheLimit() {
        OnlineRooms x = new OnlineRooms();
        for (int hour = 0; hour < 18; hour++) {
            x.talk(hour, hour + 1, 1);
        }
        write(x, "u1;t30,31,1;t31,32,1;t32,33,1;");
        fault(x, "the 21st talk", 21, 2, LIMIT);
        check.due("play", x.play(), IMPOSSIBLE);
        write(x, "t30,31,1;t31,32,1;");
        check.due("play", x.play(), 2);
        check.due("talks so far", x.count(1), 20);
    }
}
