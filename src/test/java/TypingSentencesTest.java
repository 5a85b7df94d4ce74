/** One test for each sentence of promises 21 to 24 (texts) that names a boundary case. */
public final class TypingSentencesTest {
    public static void main(String[] args) {
        Sentences.test(TypingSentencesTest.class);
    }

    @Sentence(of = "Promise 21", words = "Appends a character to the text.")
    static void promise21AppendsBehindTheLast(Check check) {
        Run x = new Run(check).due("type(117) = 1").fault(0, 1, 1).due("type(51) = 2").fault(0, 1, 2);
        x.due("type(59) = 3").noFault().due("play() = 1", "count(20) = 3", "count(9) = 3", "type(59) = 4").fault(3, 1, 0);
        x.due("undo() = 0", "count(9) = 4", "count(8) = 0");
    }

    @Sentence(of = "Promise 21", words = "`character`: 32 to 126")
    static void promise21CharacterFrom32To126(Check check) {
        Run x = new Run(check);
        for (int sign = 32; sign <= 126; sign++) {
            x.due(1, "type(%d)", sign).due(1, "clearText()");
        }
        x.invalid("type(%d)", 32, 126).due("count(9) = 0");
    }

    @Sentence(of = "Promise 21", words = "Returns the length of the text")
    static void promise21ReturnsTheLengthFrom1To60(Check check) {
        Run x = new Run(check);
        for (int length = 1; length <= 60; length++) {
            x.due(length, "type(126)").due(length, "count(9)");
        }
        x.due("clearText() = 60", "type(32) = 1");
    }

    @Sentence(of = "Promise 21", words = "INVALID_ARGUMENT if character is out of range")
    static void promise21InvalidArgumentIfCharacterIsOutOfRange(Check check) {
        Run x = new Run(check).due("type(31) = INVALID_ARGUMENT", "type(127) = INVALID_ARGUMENT", "count(9) = 0");
        x.due("type(0) = INVALID_ARGUMENT", "type(-1) = INVALID_ARGUMENT", "type(10) = INVALID_ARGUMENT");
        // 65536 more or less would be the same char.
        x.due(-1000001, "type(%d)", 65536 + 'u').due(-1000001, "type(%d)", 'u' - 65536).due(-1000001, "type(%d)", 256 + 'u');
        x.due(-1000001, "type(%d)", Integer.MIN_VALUE).due(-1000001, "type(%d)", Integer.MAX_VALUE);
        x.write("u1;".repeat(20)).due("type(31) = INVALID_ARGUMENT", "type(127) = INVALID_ARGUMENT", "count(9) = 60");
    }

    @Sentence(of = "Promise 21", words = "LIMIT_REACHED if it has 60 characters")
    static void promise21LimitReachedAt60Characters(Check check) {
        Run x = new Run(check).write("u1;".repeat(19) + "u1").fault(57, 1, 2).due("type(59) = 60").noFault();
        x.due("type(59) = LIMIT_REACHED", "type(32) = LIMIT_REACHED", "type(126) = LIMIT_REACHED", "count(9) = 60");
        x.noFault().due("clearText() = 60", "type(32) = 1");
    }

    @Sentence(of = "Promise 22", words = "Empties the text.")
    static void promise22EmptiesAnEmptyAndAFullText(Check check) {
        Run x = new Run(check).due("clearText() = 0", "count(9) = 0").write("w0;".repeat(20)).fault(0, 2, -1000001);
        x.due("clearText() = 60", "count(9) = 0").noFault().due("play() = 0", "clearText() = 0", "type(117) = 1");
        x.fault(0, 1, 1).due("count(8) = 1");
    }

    @Sentence(of = "Promise 22", words = "Returns the length it had.")
    static void promise22ReturnsTheLengthFrom0To60(Check check) {
        Run x = new Run(check).due("clearText() = 0", "clearText() = 0", "type(32) = 1", "clearText() = 1");
        x.due("clearText() = 0").write(" ".repeat(59)).due("clearText() = 59").write(" ".repeat(60));
        x.due("type(32) = LIMIT_REACHED", "clearText() = 60", "clearText() = 0");
    }

    @Sentence(of = "Promise 23", words = "0: its position; 1: its reason; 2: its cause")
    static void promise23PositionReasonAndCause(Check check) {
        new Run(check).write("x").due("fault(0) = 0", "fault(1) = 1", "fault(2) = 0");
        new Run(check).write("u1;w0;").due("fault(0) = 3", "fault(1) = 2", "fault(2) = INVALID_ARGUMENT");
        Run x = new Run(check).write("t0,9,1;r0,9,1").due("fault(0) = 7", "fault(1) = 1", "fault(2) = 6", "type(59) = 14");
        x.due("fault(2) = NOT_POSSIBLE", "fault(1) = 2", "fault(0) = 7", "count(1) = 0", "count(8) = 0");
    }

    @Sentence(of = "Promise 23", words = "INVALID_ARGUMENT if what is out of range")
    static void promise23InvalidArgumentIfWhatIsOutOfRange(Check check) {
        Run x = new Run(check).invalid("fault(%d)", 0, 2).write("u1;").invalid("fault(%d)", 0, 2);
        x.write("x").invalid("fault(%d)", 0, 2).write("w0;").invalid("fault(%d)", 0, 2);
    }

    @Sentence(of = "Promise 23", words = "NOT_FOUND if the text has no fault (also if it is empty)")
    static void promise23NotFoundWithoutAFaultOrAText(Check check) {
        Run x = new Run(check).noFault().write("t0,1,1;").noFault().write("u1;".repeat(20)).noFault();
        x.write("x").fault(0, 1, 0).due("clearText() = 1").noFault().write("w0;").fault(0, 2, -1000001);
        x.due("talk(0, 1, 1) = 0").noFault();
    }

    @Sentence(of = "Promise 24", words = "Does all orders of the text, which stays.")
    static void promise24DoesAllOrdersAndKeepsTheText(Check check) {
        Run x = new Run(check).write("r5,1,1;t0,1,1;t0,2,9;w0;t1,3,1;u2;r1,9,7;").due("play() = 7", "count(9) = 41");
        x.due("roomOf(5, 0) = 1", "talkOf(0, 0) = INVALID_ARGUMENT", "talkOf(1, 3) = 0", "talkOf(2, 3) = 5");
        x.due("count(20) = 2", "roomOf(1, 1) = 7", "count(3) = 2", "count(4) = 11", "count(7) = 1");
        x.fault(0, 2, -1000002).due("play() = NOT_POSSIBLE", "count(9) = 41", "clearText() = 41");
        Run y = new Run(check).write("t0,48,9;");
        for (int room = 0; room < 8; room++) {
            y.due("play() = 1").due(room, "talkOf(%d, 3)", room);
        }
        y.due("play() = NOT_POSSIBLE", "count(1) = 8", "count(9) = 8");
    }

    @Sentence(of = "Promise 24", words = "They are one change, also if there are none.")
    static void promise24OneChangeAlsoOfNone(Check check) {
        Run x = new Run(check).due("play() = 0", "count(8) = 1", "play() = 0", "count(8) = 2", "undo() = 1", "undo() = 0");
        x.write("u1;u2;u3;u1;u2;u3;").due("play() = 6", "count(8) = 1", "count(20) = 3", "undo() = 0", "count(20) = 0");
        x.due("undo() = NOT_POSSIBLE", "count(9) = 18");
        for (int times = 0; times < 6; times++) {
            x.due("play() = 6");
        }
        x.due("count(8) = 4", "undo() = 3", "count(20) = 3");
    }

    @Sentence(of = "Promise 24", words = "Returns how many there are in it")
    static void promise24ReturnsHowManyFrom0To20(Check check) {
        Run x = new Run(check).due("play() = 0");
        for (int orders = 1; orders <= 20; orders++) {
            x.due(3 * orders - 2, "type(117)").due(3 * orders - 1, "type(50)").due(3 * orders, "type(59)");
            x.due(orders, "play()");
        }
        Run y = new Run(check).write("t00,01,01;").due("play() = 1").write("t00,01,01;r06,09,99;").due("play() = 2");
    }

    @Sentence(of = "Promise 24", words = "NOT_POSSIBLE if it has a fault")
    static void promise24NotPossibleWithAFault(Check check) {
        String[] texts = {"x", "u", "u1", "u1;u2", "u1;u4;", "u1;;", "t0,1,1;w1;", "t0,1,1;r0,1,1;", " u1;"};
        for (String text : texts) {
            Run x = new Run(check).write(text).due("play() = NOT_POSSIBLE", "count(1) = 0", "count(20) = 0", "count(8) = 0");
            x.due(text.length(), "count(9)");
        }
        Run y = new Run(check);
        for (int talk = 0; talk < 19; talk++) {
            y.due(0, "talk(%d, %d, 1)", talk, talk + 1);
        }
        y.write("t30,31,1;t31,32,1;").fault(9, 2, -1000003).due("play() = NOT_POSSIBLE", "count(1) = 19");
        y.write("t30,31,1;").noFault().due("play() = 1", "count(1) = 20", "play() = NOT_POSSIBLE").fault(0, 2, -1000003);
    }
}
