/** One test for each sentence of "Texts" that names a boundary case. */
public final class TextsSentencesTest {
    public static void main(String[] args) {
        Sentences.test(TextsSentencesTest.class);
    }

    /** "u1;" as often as told: orders that are possible in every state. */
    private static String orders(int times) {
        return "u1;".repeat(times);
    }

    private static void fault(Check check, String text, int position, int reason, int cause) {
        new Run(check).write(text).fault(position, reason, cause).due("play() = NOT_POSSIBLE", "count(8) = 0");
    }

    private static void noFault(Check check, String text) {
        new Run(check).write(text).noFault();
    }

    /** With a wrong character in the place of one of its own, the order breaks off there. */
    private static void breaksOffAtEach(Check check, String order, char wrong) {
        for (int cause = 0; cause < order.length(); cause++) {
            fault(check, order.substring(0, cause) + wrong + order.substring(cause + 1), 0, 1, cause);
        }
    }

    @Sentence(of = "Texts", words = "There is a text of at most 60 characters")
    static void textsAtMost60Characters(Check check) {
        Run x = new Run(check);
        x.write(orders(20)).due("count(9) = 60", "type(117) = LIMIT_REACHED", "count(9) = 60").noFault();
        x.due("play() = 20", "clearText() = 60", "type(117) = 1");
    }

    @Sentence(of = "Texts", words = "initially empty")
    static void textsInitiallyEmpty(Check check) {
        new Run(check).due("count(9) = 0").noFault().due("play() = 0", "clearText() = 0", "type(32) = 1");
    }

    @Sentence(of = "Texts", words = "orders, each followed by \";\"")
    static void textsEachOrderIsFollowedByItsSign(Check check) {
        noFault(check, "u1;");
        noFault(check, "u1;u2;");
        fault(check, "u1", 0, 1, 2);
        fault(check, "u1;u2", 3, 1, 2);
        fault(check, "u1u2;", 0, 1, 2);
        fault(check, "u1,u2;", 0, 1, 2);
        fault(check, ";", 0, 1, 0);
        fault(check, "u1;;", 3, 1, 0);
        fault(check, "u1; u2;", 3, 1, 0);
        fault(check, "u1 ;", 0, 1, 2);
    }

    @Sentence(of = "Texts", words = "\"t\" a first hour, \",\", an end, \",\", a size (a talk is told)")
    static void textsTalkWithItsThreeNumbers(Check check) {
        Run x = new Run(check).write("t0,48,9;t47,48,1;");
        x.noFault().due("play() = 2", "talkOf(0, 0) = 0", "talkOf(0, 1) = 48", "talkOf(0, 2) = 9", "talkOf(0, 3) = 0");
        x.due("talkOf(1, 0) = 47", "talkOf(1, 1) = 48", "talkOf(1, 2) = 1", "talkOf(1, 3) = 1");
        fault(check, "t;", 0, 1, 1);
        fault(check, "t,1,1;", 0, 1, 1);
        fault(check, "t0;", 0, 1, 2);
        fault(check, "t0,;", 0, 1, 3);
        fault(check, "t0,,1;", 0, 1, 3);
        fault(check, "t0,1;", 0, 1, 4);
        fault(check, "t0,1,;", 0, 1, 5);
        fault(check, "t0,1,1,;", 0, 1, 6);
        fault(check, "T0,1,1;", 0, 1, 0);
        breaksOffAtEach(check, "t0,1,1;", '.');
        breaksOffAtEach(check, "t10,11,1;", ' ');
    }

    @Sentence(of = "Texts", words = "\"w\" a talk (withdrawn)")
    static void textsWithdrawalWithItsNumber(Check check) {
        Run x = new Run(check).write("t0,1,1;t0,1,1;w1;w00;");
        x.noFault().due("play() = 4", "count(0) = 0", "count(1) = 2", "count(7) = 2");
        fault(check, "w;", 0, 1, 1);
        fault(check, "w0,", 0, 1, 2);
        fault(check, "w-1;", 0, 1, 1);
        fault(check, "W0;", 0, 1, 0);
        breaksOffAtEach(check, "w0;", 'x');
        breaksOffAtEach(check, "w19;", '-');
    }

    @Sentence(of = "Texts", words = "\"r\" a room, \",\", a size, \",\", a price (as by the call)")
    static void textsRoomWithItsThreeNumbers(Check check) {
        Run x = new Run(check).write("r0,1,1;r7,9,99;");
        x.noFault().due("play() = 2", "roomOf(0, 0) = 1", "roomOf(0, 1) = 1", "roomOf(7, 0) = 9", "roomOf(7, 1) = 99");
        x.due("count(2) = 0");
        fault(check, "r;", 0, 1, 1);
        fault(check, "r0;", 0, 1, 2);
        fault(check, "r0,1;", 0, 1, 4);
        fault(check, "r0,1,;", 0, 1, 5);
        fault(check, "r0,1,1,1;", 0, 1, 6);
        fault(check, "R0,1,1;", 0, 1, 0);
        breaksOffAtEach(check, "r0,1,1;", '/');
        breaksOffAtEach(check, "r0,1,10;", 'R');
    }

    @Sentence(of = "Texts", words = "or \"u\" a rule (set)")
    static void textsRuleWithItsNumber(Check check) {
        Run x = new Run(check).write("u3;").noFault().due("play() = 1", "count(20) = 3");
        x.write("u0;").noFault().due("play() = 1", "count(20) = 0");
        fault(check, "u;", 0, 1, 1);
        fault(check, "u1,1;", 0, 1, 2);
        fault(check, "U1;", 0, 1, 0);
        fault(check, "v1;", 0, 1, 0);
        breaksOffAtEach(check, "u1;", ':');
    }

    @Sentence(of = "Texts", words = "numbers of 1 or 2 digits")
    static void textsNumbersOf1Or2Digits(Check check) {
        noFault(check, "t0,1,1;");
        noFault(check, "t10,11,1;");
        fault(check, "u;", 0, 1, 1);
        fault(check, "u99;", 0, 2, -1000001);
        fault(check, "u001;", 0, 1, 3);
        fault(check, "t,11,1;", 0, 1, 1);
        fault(check, "t010,11,1;", 0, 1, 3);
        fault(check, "t10,,1;", 0, 1, 4);
        fault(check, "t10,011,1;", 0, 1, 6);
        fault(check, "t10,11,;", 0, 1, 7);
        fault(check, "t10,11,001;", 0, 1, 9);
        fault(check, "r0,9,100;", 0, 1, 7);
        fault(check, "w/;", 0, 1, 1);
        fault(check, "w:;", 0, 1, 1);
        fault(check, "w1/;", 0, 1, 2);
        fault(check, "w1:;", 0, 1, 2);
    }

    @Sentence(of = "Texts", words = "0 ahead allowed")
    static void texts0AheadOfADigit(Check check) {
        Run x = new Run(check).write("r00,01,09;t00,01,01;t08,09,09;w00;u03;");
        x.noFault().due("play() = 5", "roomOf(0, 0) = 1", "roomOf(0, 1) = 9", "talkOf(0, 0) = INVALID_ARGUMENT");
        x.due("talkOf(1, 0) = 8", "talkOf(1, 1) = 9", "talkOf(1, 2) = 9", "count(20) = 3");
        fault(check, "u00", 0, 1, 3);
        fault(check, "u000;", 0, 1, 3);
    }

    @Sentence(of = "Texts", words = "The fault of the text is the position, from 0, of the first character of the first "
        + "order that is not possible")
    static void textsPositionFrom0To59(Check check) {
        fault(check, "x", 0, 1, 0);
        fault(check, "u4;", 0, 2, -1000001);
        fault(check, "u1;u4;u5;", 3, 2, -1000001);
        fault(check, "u4;x", 0, 2, -1000001);
        fault(check, "x;u4;", 0, 1, 0);
        fault(check, orders(17) + "u01;u01;t", 59, 1, 1);
        fault(check, orders(17) + "u01;u01;;", 59, 1, 0);
        fault(check, orders(19) + "u4;", 57, 2, -1000001);
    }

    @Sentence(of = "Texts", words = "its reason is 1 if it is not of this form, its \";\" included")
    static void textsReason1WithoutTheFormEvenForItsSignAlone(Check check) {
        fault(check, "u4", 0, 1, 2);
        fault(check, "u4x", 0, 1, 2);
        fault(check, "w0", 0, 1, 2);
        fault(check, "t99,99,99", 0, 1, 9);
        fault(check, "r9,9,9x", 0, 1, 6);
        fault(check, "u1;u1", 3, 1, 2);
        fault(check, orders(19) + "u11", 57, 1, 3);
        fault(check, " ", 0, 1, 0);
    }

    @Sentence(of = "Texts", words = "and otherwise 2, when those ahead of it are done")
    static void textsReason2BehindThoseAhead(Check check) {
        fault(check, "w0;", 0, 2, -1000001);
        noFault(check, "t0,1,1;w0;");
        fault(check, "t0,1,1;w0;w0;", 10, 2, -1000001);
        fault(check, "t0,1,1;w1;", 7, 2, -1000001);
        noFault(check, "r0,5,5;t0,1,1;");
        fault(check, "t0,1,1;r0,5,5;", 7, 2, -1000002);
        fault(check, "t0,1,1;w0;r0,5,5;", 10, 2, -1000002);
        Run x = new Run(check).due("talk(0, 1, 1) = 0").write("w0;w0;").fault(3, 2, -1000001);
        x.due("withdraw(0) = 0").fault(0, 2, -1000001).due("undo() = 1").fault(3, 2, -1000001);
    }

    @Sentence(of = "Texts", words = "its cause is with the reason 1 at which character of the order, from 0, it breaks off")
    static void textsCauseFrom0OfTheOrderNotOfTheText(Check check) {
        fault(check, "x1;", 0, 1, 0);
        fault(check, "u1;x1;", 3, 1, 0);
        fault(check, "u1;ux;", 3, 1, 1);
        fault(check, "u1;u1x", 3, 1, 2);
        fault(check, "u1;t10,20,30x", 3, 1, 9);
        fault(check, "u1;t10,20,300;", 3, 1, 9);
        fault(check, orders(16) + "t10,20,3 ;..", 48, 1, 8);
    }

    @Sentence(of = "Texts", words = "of one that the text ends too early it is its length")
    static void textsCauseIsTheLengthIfTheTextEndsTooEarly(Check check) {
        String[] orders = {"t10,12,9;", "w19;", "r7,9,99;", "u03;"};
        for (String order : orders) {
            for (int length = 1; length < order.length(); length++) {
                fault(check, order.substring(0, length), 0, 1, length);
                fault(check, "u1;" + order.substring(0, length), 3, 1, length);
            }
        }
        fault(check, orders(17) + "t10,20,30", 51, 1, 9);
    }

    @Sentence(of = "Texts", words = "and with the reason 2 the error code that the call returns for it")
    static void textsCauseIsTheErrorCodeOfTheCall(Check check) {
        String[] invalid = {"t48,49,1;", "t0,0,1;", "t1,0,1;", "t0,49,1;", "t0,1,0;", "t0,1,10;", "w0;", "w20;", "w99;",
            "r8,1,1;", "r32,1,1;", "r0,0,1;", "r0,10,1;", "r0,1,0;", "r0,1,00;", "u4;", "u32;", "u99;"};
        for (String order : invalid) {
            fault(check, order, 0, 2, -1000001);
        }
        Run x = new Run(check);
        for (int room = 0; room < 8; room++) {
            x.due(room, "talk(0, 47, 1)");
        }
        x.write("t0,1,1;").fault(0, 2, -1000002).write("r7,1,1;").fault(0, 2, -1000002);
        for (int room = 0; room < 8; room++) {
            x.due(room, "talk(47, 48, 1)");
        }
        for (int talk = 0; talk < 4; talk++) {
            x.due(talk, "withdraw(%d)", talk).due(0, "talk(%d, %d, 1)", talk, talk + 1);
        }
        x.write("t5,6,1;").fault(0, 2, -1000003).write("t47,48,1;").fault(0, 2, -1000002);
        x.write("t5,49,1;").fault(0, 2, -1000001);
    }
}
