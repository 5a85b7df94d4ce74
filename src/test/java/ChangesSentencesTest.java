import java.util.function.Consumer;

/** One test for each sentence of "Changes and errors" and "Not promised" that names a boundary case. */
public final class ChangesSentencesTest {
    public static void main(String[] args) {
        Sentences.test(ChangesSentencesTest.class);
    }

    @Sentence(of = "Changes and errors", words = "The changes are the calls of talk, withdraw, room, move, close, anew, "
        + "set and play")
    static void changesAreTheseEvenIfTheyLeaveAllAsItWas(Check check) {
        Run x = new Run(check);
        x.due("talk(0, 1, 1) = 0", "count(8) = 1", "withdraw(0) = 0", "count(8) = 2", "close(0) = 0", "count(8) = 3");
        x.due("room(0, 9, 10) = 910", "count(8) = 4");
        Run y = new Run(check);
        y.due("anew() = 0", "count(8) = 1", "set(0, 0) = 0", "count(8) = 2", "play() = 0", "count(8) = 3");
        Run z = new Run(check);
        z.due("talk(0, 1, 1) = 0", "talk(0, 1, 1) = 1", "withdraw(0) = 0", "move(1, 0) = 1", "count(8) = 4");
        z.due("undo() = 3", "talkOf(1, 3) = 1");
        // Asking, typing, emptying the text and undoing are none.
        Run w = new Run(check);
        w.due("talk(0, 1, 1) = 0").write("u1;").due("clearText() = 3", "would(1, 2, 1, 0) = 0", "known(0, 0) = 10");
        w.due("unknowing() = 10000", "share() = 1065353216", "bestRule(0) = 0", "emptied(0) = NOT_FOUND");
        w.due("fault(0) = NOT_FOUND", "talkOf(0, 0) = 0", "roomOf(0, 0) = 9", "at(0, 0) = 0", "hourOf(0, 0) = 1");
        w.due("count(8) = 1", "undo() = 0", "count(8) = 0");
    }

    @Sentence(of = "Changes and errors", words = "that return no error")
    static void changesAreNoneOfThoseThatReturnAnError(Check check) {
        Run x = new Run(check);
        x.due("talk(0, 1, 0) = INVALID_ARGUMENT", "withdraw(0) = INVALID_ARGUMENT", "move(0, 0) = INVALID_ARGUMENT");
        x.due("room(0, 0, 1) = INVALID_ARGUMENT", "close(0) = NOT_POSSIBLE", "set(0, 4) = INVALID_ARGUMENT");
        x.write("u4;").due("play() = NOT_POSSIBLE", "count(8) = 0", "undo() = NOT_POSSIBLE");
        x.due("talk(0, 1, 1) = 0", "move(0, 0) = NOT_POSSIBLE", "room(0, 1, 1) = NOT_POSSIBLE", "count(8) = 1");
        for (int room = 1; room < 8; room++) {
            x.due(910, "room(%d, 1, %d)", room, 20);
        }
        x.due("withdraw(0) = 0", "talk(5, 9, 9) = 0", "talk(4, 9, 1) = 1", "talk(4, 9, 9) = NOT_POSSIBLE");
        x.due("anew() = NOT_POSSIBLE", "count(8) = 4", "undo() = 3", "undo() = 2", "count(0) = 0");
    }

    @Sentence(of = "Changes and errors", words = "A history of at most 4 states is kept")
    static void historyOf0To4States(Check check) {
        Run x = new Run(check);
        x.due("count(8) = 0", "undo() = NOT_POSSIBLE");
        for (int change = 1; change <= 4; change++) {
            x.due(0, "talk(%d, %d, 1)", change, change + 1).due(change, "count(8)");
        }
        x.due("talk(5, 6, 1) = 0", "count(8) = 4", "undo() = 3", "undo() = 2", "undo() = 1", "undo() = 0");
        x.due("count(1) = 1", "undo() = NOT_POSSIBLE", "count(1) = 1", "count(8) = 0");
    }

    @Sentence(of = "Changes and errors", words = "each change records everything before it but the text")
    static void changeRecordsEverythingButTheText(Check check) {
        Run x = new Run(check);
        x.due("room(1, 4, 3) = 910", "talk(0, 4, 2) = 1", "talk(6, 8, 9) = 0", "withdraw(0) = 1", "set(0, 2) = 0");
        x.write("r1,9,9;").due("close(1) = 1", "count(8) = 4").write("r1,9,9;t0,1,1;w1;u3;").due("play() = 4");
        x.due("anew() = 9", "count(8) = 4", "undo() = 3", "undo() = 2", "undo() = 1", "count(9) = 20");
        x.due("clearText() = 20", "undo() = 0", "count(9) = 0");
        // As it was behind withdraw(0), ahead of set(0, 2).
        x.due("count(20) = 0", "count(0) = 1", "count(1) = 2", "count(2) = 2", "count(3) = 2", "count(4) = 13");
        x.due("count(5) = 1", "count(6) = 2", "count(7) = 1", "count(8) = 0", "roomOf(1, 0) = 4", "roomOf(1, 1) = 3");
        x.due("roomOf(1, 2) = 1", "roomOf(1, 5) = 0", "roomOf(0, 5) = 2", "talkOf(0, 0) = INVALID_ARGUMENT");
        x.due("talkOf(1, 0) = 6", "talkOf(1, 1) = 8", "talkOf(1, 2) = 9", "talkOf(1, 3) = 0", "talk(6, 7, 1) = 1");
    }

    @Sentence(of = "Changes and errors", words = "and if there are 5 states then, the oldest one is dropped")
    static void theOldestOf5StatesIsDropped(Check check) {
        Run x = new Run(check);
        for (int price = 11; price <= 40; price++) {
            x.due(899 + price, "room(0, 9, %d)", price);
        }
        for (int left = 3; left >= 0; left--) {
            x.due(left, "undo()").due(36 + left, "roomOf(0, 1)");
        }
        x.due("undo() = NOT_POSSIBLE", "roomOf(0, 1) = 36");
        // The history goes on from there, two ahead and one back.
        int states = 0;
        for (int price = 37; price <= 60; price++) {
            x.due(899 + price, "room(0, 9, %d)", price).due(900 + price, "room(0, 9, 1)");
            states = Math.min(states + 2, 4) - 1;
            x.due(states, "undo()").due(price, "roomOf(0, 1)");
        }
        for (int left = states - 1; left >= 0; left--) {
            x.due(left, "undo()").due(60 - states + left, "roomOf(0, 1)");
        }
    }

    /** The small talk would take the room of the large one, so that telling anew is not possible. */
    private static void fillSoThatAnewFails(Run x) {
        for (int room = 1; room < 8; room++) {
            x.due(910, "room(%d, 1, 20)", room);
        }
        x.due("talk(5, 9, 9) = 0", "talk(4, 9, 1) = 1");
    }

    @Sentence(of = "Changes and errors", words = "INVALID_ARGUMENT is returned rather than NOT_POSSIBLE")
    static void invalidArgumentRatherThanNotPossible(Check check) {
        Run x = new Run(check);
        fillSoThatAnewFails(x);
        x.due("talk(5, 9, 9) = NOT_POSSIBLE", "talk(5, 5, 9) = INVALID_ARGUMENT", "talk(5, 49, 9) = INVALID_ARGUMENT");
        x.due("talk(5, 9, 10) = INVALID_ARGUMENT", "move(0, 1) = NOT_POSSIBLE", "move(0, 8) = INVALID_ARGUMENT");
        x.due("move(2, 0) = INVALID_ARGUMENT", "room(0, 9, 10) = NOT_POSSIBLE", "room(0, 10, 10) = INVALID_ARGUMENT");
        x.due("room(0, 9, 0) = INVALID_ARGUMENT", "close(0) = NOT_POSSIBLE", "close(8) = INVALID_ARGUMENT");
        x.due("known(0, 0) = NOT_POSSIBLE", "known(0, 3) = INVALID_ARGUMENT", "known(4, 0) = INVALID_ARGUMENT");
        // It goes ahead of the others, too.
        x.due("bestRule(0) = NOT_FOUND", "bestRule(2) = INVALID_ARGUMENT", "emptied(0) = NOT_FOUND");
        x.due("emptied(2) = INVALID_ARGUMENT", "at(2, 0) = NOT_FOUND", "at(2, 48) = INVALID_ARGUMENT");
        x.due("would(5, 9, 9, 0) = NOT_FOUND", "would(5, 9, 9, 4) = INVALID_ARGUMENT", "fault(0) = NOT_FOUND");
        x.due("fault(3) = INVALID_ARGUMENT").write("u1;".repeat(20));
        x.due("type(32) = LIMIT_REACHED", "type(31) = INVALID_ARGUMENT");
    }

    @Sentence(of = "Changes and errors", words = "NOT_POSSIBLE rather than LIMIT_REACHED")
    static void notPossibleRatherThanLimitReached(Check check) {
        Run x = new Run(check);
        fillSoThatAnewFails(x);
        for (int talk = 2; talk < 20; talk++) {
            x.due(0, "talk(%d, %d, 9)", 8 + talk, 9 + talk);
        }
        x.due("talk(0, 1, 9) = LIMIT_REACHED", "talk(5, 9, 9) = NOT_POSSIBLE", "talk(27, 28, 2) = NOT_POSSIBLE");
        x.due("talk(28, 29, 2) = LIMIT_REACHED", "talk(5, 9, 0) = INVALID_ARGUMENT");
    }

    @Sentence(of = "Changes and errors", words = "and LIMIT_REACHED rather than NOT_FOUND")
    static void limitReachedIsNotForCallsThatNameNotFoundAlone(Check check) {
        // No call names both: each answers its own where both would apply.
        Run x = new Run(check);
        for (int talk = 0; talk < 20; talk++) {
            x.due(0, "talk(%d, %d, 9)", talk, talk + 1);
        }
        for (int room = 1; room < 8; room++) {
            x.due(910, "room(%d, 1, 20)", room);
        }
        x.due("would(20, 21, 9, 0) = 0", "would(19, 21, 2, 0) = NOT_FOUND", "talk(20, 21, 9) = LIMIT_REACHED");
        x.write("u1;".repeat(20)).due("type(32) = LIMIT_REACHED", "fault(0) = NOT_FOUND", "at(0, 20) = NOT_FOUND");
    }

    /** Two runs that began alike answer alike, after one more call on the first, and back through the history. */
    private static void changesNothing(Check check, String refused, Consumer<Run> beginning) {
        Run x = new Run(check);
        Run twin = new Run(check);
        beginning.accept(x);
        beginning.accept(twin);
        x.due(refused);
        sameAnswers(check, refused, x, twin);
        for (int states = twin.ask("count(8)"); states > 0; states--) {
            check.due("undo() behind " + refused, x.ask("undo()"), twin.ask("undo()"));
            sameAnswers(check, refused, x, twin);
        }
    }

    private static void sameAnswers(Check check, String refused, Run x, Run twin) {
        for (int what = 0; what < 11; what++) {
            same(check, refused, x, twin, "count(" + (what < 10 ? what : 20) + ")");
        }
        int talks = twin.ask("count(1)");
        for (int talk = 0; talk < talks; talk++) {
            same(check, refused, x, twin, "talkOf(" + talk + ", 3)");
        }
        for (int room = 0; room < 8; room++) {
            same(check, refused, x, twin, "roomOf(" + room + ", 0)", "roomOf(" + room + ", 1)",
                "roomOf(" + room + ", 2)", "roomOf(" + room + ", 5)");
        }
        same(check, refused, x, twin, "fault(0)", "fault(1)", "fault(2)");
    }

    private static void same(Check check, String refused, Run x, Run twin, String... calls) {
        for (String call : calls) {
            check.due(call + " behind " + refused, x.ask(call), twin.ask(call));
        }
    }

    private static void someChanges(Run x) {
        x.due("room(0, 5, 20) = 910", "talk(0, 9, 1) = 1", "talk(5, 12, 9) = 2", "withdraw(0) = 1", "set(0, 1) = 0");
        x.write("t9,12,1;w2;u3;w2;");
    }

    private static void twentyTalks(Run x) {
        for (int talk = 0; talk < 20; talk++) {
            x.due(0, "talk(%d, %d, 9)", talk, talk + 1);
        }
        x.write("r1,1,20;t20,21,1;");
    }

    @Sentence(of = "Changes and errors", words = "A call that returns an error changes nothing.")
    static void callThatReturnsAnErrorChangesNothing(Check check) {
        String[] behindSomeChanges = {"talk(0, 0, 1) = INVALID_ARGUMENT", "talk(0, 1, 10) = INVALID_ARGUMENT",
            "withdraw(0) = INVALID_ARGUMENT", "withdraw(2) = INVALID_ARGUMENT", "move(0, 1) = INVALID_ARGUMENT",
            "move(1, 8) = INVALID_ARGUMENT", "move(1, 2) = NOT_POSSIBLE", "move(1, 0) = NOT_POSSIBLE",
            "room(8, 1, 1) = INVALID_ARGUMENT", "room(0, 1, 100) = INVALID_ARGUMENT", "room(1, 1, 1) = NOT_POSSIBLE",
            "close(8) = INVALID_ARGUMENT", "close(0) = NOT_POSSIBLE", "close(2) = NOT_POSSIBLE",
            "set(0, 4) = INVALID_ARGUMENT", "set(1, 0) = INVALID_ARGUMENT", "type(31) = INVALID_ARGUMENT",
            "type(127) = INVALID_ARGUMENT", "play() = NOT_POSSIBLE", "fault(3) = INVALID_ARGUMENT",
            "known(4, 0) = INVALID_ARGUMENT", "at(7, 0) = NOT_FOUND", "count(10) = INVALID_ARGUMENT"};
        for (String refused : behindSomeChanges) {
            changesNothing(check, refused, ChangesSentencesTest::someChanges);
        }
        String[] behindTwentyTalks = {"talk(20, 21, 1) = LIMIT_REACHED", "play() = NOT_POSSIBLE",
            "emptied(0) = NOT_FOUND"};
        for (String refused : behindTwentyTalks) {
            changesNothing(check, refused, ChangesSentencesTest::twentyTalks);
        }
        String[] whereAnewFails = {"anew() = NOT_POSSIBLE", "talk(4, 9, 2) = NOT_POSSIBLE", "known(0, 0) = NOT_POSSIBLE",
            "unknowing() = NOT_POSSIBLE", "share() = NOT_POSSIBLE", "bestRule(0) = NOT_FOUND",
            "would(4, 9, 2, 0) = NOT_FOUND"};
        for (String refused : whereAnewFails) {
            changesNothing(check, refused, ChangesSentencesTest::fillSoThatAnewFails);
        }
        changesNothing(check, "move(0, 1) = NOT_POSSIBLE", x -> x.due("talk(0, 1, 1) = 0", "talk(0, 1, 1) = 1"));
        changesNothing(check, "undo() = NOT_POSSIBLE", x -> x.write("u1;x"));
        changesNothing(check, "type(32) = LIMIT_REACHED", x -> x.due("set(0, 3) = 0").write("u2;".repeat(20)));
        changesNothing(check, "share() = NOT_FOUND", x -> x.due("talk(0, 1, 1) = 0", "withdraw(0) = 0"));
    }

    @Sentence(of = "Changes and errors", words = "If there is no talk with a certain number (any more), this is "
        + "INVALID_ARGUMENT.")
    static void noTalkWithTheNumberIsAnInvalidArgument(Check check) {
        Run x = new Run(check);
        int[] none = {-1, 0, 1, 19, 20, 31, 32, 33, 64, Integer.MIN_VALUE, Integer.MIN_VALUE + 1, Integer.MAX_VALUE};
        for (int talk : none) {
            noTalk(x, talk);
        }
        x.due("talk(0, 1, 1) = 0", "talk(1, 2, 1) = 0", "talk(0, 2, 1) = 1");
        for (int talk : none) {
            if (talk < 0 || talk > 1) {
                noTalk(x, talk);
            }
        }
        x.due("withdraw(1) = 0");
        noTalk(x, 1);
        x.due("undo() = 3", "talkOf(1, 0) = 1", "undo() = 2", "talkOf(2, 0) = INVALID_ARGUMENT");
        noTalk(x, 2);
        x.due("anew() = 10", "talkOf(0, 0) = 0", "talkOf(1, 0) = 1");
    }

    private static void noTalk(Run x, int talk) {
        x.due(-1000001, "talkOf(%d, 0)", talk).due(-1000001, "talkOf(%d, 4)", talk).due(-1000001, "talkOf(%d, 5)", talk);
        x.due(-1000001, "withdraw(%d)", talk).due(-1000001, "move(%d, 0)", talk).due(-1000001, "move(%d, 1)", talk);
    }

    @Sentence(of = "Changes and errors", words = "`INVALID_ARGUMENT = -1000001`: An argument is out of its range, or "
        + "there is no such talk.")
    static void constantInvalidArgument(Check check) {
        check.due("INVALID_ARGUMENT", OnlineRooms.INVALID_ARGUMENT, -1000001);
        new Run(check).due("roomOf(8, 0) = INVALID_ARGUMENT", "talkOf(0, 0) = INVALID_ARGUMENT");
    }

    @Sentence(of = "Changes and errors", words = "`NOT_POSSIBLE = -1000002`: The call is not possible in the present "
        + "state.")
    static void constantNotPossible(Check check) {
        check.due("NOT_POSSIBLE", OnlineRooms.NOT_POSSIBLE, -1000002);
        new Run(check).due("undo() = NOT_POSSIBLE", "set(0, 0) = 0", "undo() = 0", "undo() = NOT_POSSIBLE");
    }

    @Sentence(of = "Changes and errors", words = "`LIMIT_REACHED = -1000003`: A fixed limit has been reached.")
    static void constantLimitReached(Check check) {
        check.due("LIMIT_REACHED", OnlineRooms.LIMIT_REACHED, -1000003);
        new Run(check).write(" ".repeat(60)).due("type(32) = LIMIT_REACHED");
    }

    @Sentence(of = "Changes and errors", words = "`NOT_FOUND = -1000004`: There is no such value.")
    static void constantNotFound(Check check) {
        check.due("NOT_FOUND", OnlineRooms.NOT_FOUND, -1000004);
        new Run(check).due("at(0, 0) = NOT_FOUND", "talk(0, 1, 1) = 0", "at(0, 0) = 0", "at(0, 1) = NOT_FOUND");
    }

    @Sentence(of = "Not promised", words = "nothing about an object after its 512th call")
    static void oneObjectsLastCallsAreNothingToANewOne(Check check) {
        Run x = new Run(check);
        x.write("u1;");
        while (x.calls() < 511) {
            x.due("play() = 1");
        }
        x.due("count(20) = 1");
        new Run(check).due("count(20) = 0", "count(9) = 0", "count(8) = 0", "undo() = NOT_POSSIBLE");
    }
}
