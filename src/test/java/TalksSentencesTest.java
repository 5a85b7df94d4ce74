/** One test for each sentence of promises 1 to 4 and 13 (talks) that names a boundary case. */
public final class TalksSentencesTest {
    public static void main(String[] args) {
        Sentences.test(TalksSentencesTest.class);
    }

    /** Room 0 is the only one of more than size 1, and dearer than the others. */
    private static Run oneLargeRoom(Check check) {
        Run x = new Run(check);
        for (int room = 1; room < 8; room++) {
            x.due(910, "room(%d, 1, 9)", room);
        }
        return x;
    }

    @Sentence(of = "Promise 1", words = "Creates closed rooms without talks.")
    static void promise01ClosedRoomsWithoutTalks(Check check) {
        new Run(check).due("room(0, 1, 1) = 910", "talk(0, 1, 1) = 0", "set(0, 3) = 0").write("u1;");
        Run x = new Run(check);
        int[] ofRoom = {9, 10, 0, 0, 0, 0, 48};
        for (int room = 0; room < 8; room++) {
            for (int what = 0; what < ofRoom.length; what++) {
                x.due(ofRoom[what], "roomOf(%d, %d)", room, what);
            }
            x.due(-1000002, "close(%d)", room).due(-1000004, "at(%d, 0)", room).due(-1000004, "at(%d, 47)", room);
        }
        for (int what = 0; what < 10; what++) {
            x.due(0, "count(%d)", what);
        }
        x.due("count(20) = 0", "hourOf(0, 0) = 0", "hourOf(0, 1) = 0", "hourOf(47, 0) = 0", "hourOf(47, 1) = 0");
        x.due("withdraw(0) = INVALID_ARGUMENT", "undo() = NOT_POSSIBLE", "emptied(0) = NOT_FOUND");
        x.due("known(0, 0) = 0", "unknowing() = 10000", "share() = NOT_FOUND", "bestRule(0) = 0", "bestRule(1) = 0");
    }

    @Sentence(of = "Promise 2", words = "Tells a talk, which gets a room.")
    static void promise02TalkGetsARoom(Check check) {
        Run x = new Run(check).due("talk(3, 7, 4) = 0", "count(0) = 1", "count(1) = 1", "count(6) = 4");
        x.due("talkOf(0, 0) = 3", "talkOf(0, 1) = 7", "talkOf(0, 2) = 4", "talkOf(0, 3) = 0", "roomOf(0, 5) = 1");
    }

    @Sentence(of = "Promise 2", words = "`first`: 0 to 47")
    static void promise02FirstFrom0To47(Check check) {
        Run x = new Run(check).due("talk(0, 1, 1) = 0", "talk(47, 48, 1) = 0", "talk(0, 48, 1) = 1");
        x.invalid("talk(%d, 48, 1)", 0, 47).due("talk(-1, 1, 1) = INVALID_ARGUMENT", "count(1) = 3", "count(8) = 3");
        x.due("talk(48, 49, 1) = INVALID_ARGUMENT", "talk(-2, -1, 1) = INVALID_ARGUMENT");
    }

    @Sentence(of = "Promise 2", words = "`end`: above first, 48 at most")
    static void promise02EndAboveFirst48AtMost(Check check) {
        Run x = new Run(check).due("talk(0, 1, 1) = 0", "talk(0, 48, 1) = 1", "talk(46, 47, 1) = 0");
        x.due("talk(47, 48, 1) = 0", "talkOf(3, 1) = 48", "talk(0, 49, 1) = INVALID_ARGUMENT");
        for (int first = 0; first < 48; first++) {
            x.due(-1000001, "talk(%d, %d, 1)", first, first).due(-1000001, "talk(%d, %d, 1)", first, first - 1);
        }
        x.invalid("talk(0, %d, 1)", 1, 48).invalid("talk(47, %d, 1)", 48, 48).invalid("talk(20, %d, 1)", 21, 48);
        x.due("count(1) = 4");
    }

    @Sentence(of = "Promise 2", words = "`size`: 1 to 9")
    static void promise02SizeFrom1To9(Check check) {
        Run x = new Run(check);
        for (int size = 1; size <= 9; size++) {
            x.due(0, "talk(%d, %d, %d)", size, size + 1, size).due(size, "talkOf(%d, 2)", size - 1);
        }
        x.invalid("talk(0, 1, %d)", 1, 9).due("count(1) = 9");
    }

    @Sentence(of = "Promise 2", words = "Returns the room")
    static void promise02ReturnsTheRoomFrom0To7(Check check) {
        Run x = new Run(check);
        for (int room = 0; room < 8; room++) {
            x.due(room, "talk(0, 48, 9)").due(room, "talkOf(%d, 3)", room);
        }
    }

    @Sentence(of = "Promise 2", words = "INVALID_ARGUMENT if an argument is out of range")
    static void promise02InvalidArgumentIfOneIsOutOfRange(Check check) {
        Run x = new Run(check);
        int min = Integer.MIN_VALUE;
        int max = Integer.MAX_VALUE;
        int[][] wrong = {{-1, 1, 1}, {48, 49, 1}, {0, 0, 1}, {0, 49, 1}, {0, 1, 0}, {0, 1, 10}, {-1, 49, 10}, {5, 4, 1},
            {min, max, 1}, {max, min, 1}, {min, min, min}, {max, max, max}, {0, max, 1}, {0, 1, max}, {min, 1, 1}};
        for (int[] w : wrong) {
            x.due(-1000001, "talk(%d, %d, %d)", w[0], w[1], w[2]);
        }
        x.due("count(1) = 0", "count(8) = 0");
    }

    @Sentence(of = "Promise 2", words = "NOT_POSSIBLE if there is no room for it")
    static void promise02NotPossibleWithoutARoom(Check check) {
        Run x = oneLargeRoom(check);
        x.due("talk(0, 2, 9) = 0", "talk(1, 2, 2) = NOT_POSSIBLE", "talk(0, 1, 2) = NOT_POSSIBLE", "talk(2, 3, 2) = 0");
        for (int room = 1; room < 8; room++) {
            x.due(room, "talk(0, 2, 1)");
        }
        x.due("talk(1, 2, 1) = NOT_POSSIBLE", "talk(1, 48, 1) = NOT_POSSIBLE", "count(1) = 9", "withdraw(8) = 7");
        x.due("talk(1, 48, 1) = 7", "talk(1, 2, 1) = NOT_POSSIBLE");
    }

    @Sentence(of = "Promise 2", words = "LIMIT_REACHED if there have been 20 talks")
    static void promise02LimitReachedBehind20Talks(Check check) {
        Run x = new Run(check);
        for (int talk = 0; talk < 19; talk++) {
            x.due(0, "talk(%d, %d, 1)", talk, talk + 1);
        }
        x.due("talk(19, 20, 1) = 0", "talk(20, 21, 1) = LIMIT_REACHED", "withdraw(19) = 0", "withdraw(0) = 0");
        x.due("talk(0, 1, 1) = LIMIT_REACHED", "count(0) = 18", "undo() = 3", "undo() = 2", "undo() = 1");
        x.due("talk(20, 21, 1) = 0", "talkOf(19, 0) = 20", "talk(19, 20, 1) = LIMIT_REACHED");
    }

    @Sentence(of = "Promise 3", words = "Withdraws a talk.")
    static void promise03WithdrawsFromTheFirstToTheLastTalk(Check check) {
        Run x = new Run(check);
        for (int talk = 0; talk < 20; talk++) {
            x.due(0, "talk(%d, %d, 1)", 2 * talk, 2 * talk + 1);
        }
        for (int talk = 19; talk >= 0; talk--) {
            x.due(talk, "at(0, %d)", 2 * talk).due(0, "withdraw(%d)", talk).due(-1000004, "at(0, %d)", 2 * talk);
            x.due(talk, "count(0)").due(20 - talk, "count(7)").due(talk, "roomOf(0, 4)");
        }
        x.due("roomOf(0, 5) = 0", "roomOf(0, 6) = 48", "roomOf(0, 2) = 1", "count(1) = 20", "count(4) = 10");
    }

    @Sentence(of = "Promise 3", words = "`talk`: number of the talk")
    static void promise03NumberOfATalkThatThereIs(Check check) {
        Run x = new Run(check).invalid("withdraw(%d)", 0, -1).due("talk(0, 1, 1) = 0", "talk(0, 1, 1) = 1");
        x.invalid("withdraw(%d)", 0, 1).due("withdraw(2) = INVALID_ARGUMENT", "count(0) = 2");
        x.due("withdraw(1) = 1", "withdraw(1) = INVALID_ARGUMENT", "withdraw(0) = 0", "withdraw(0) = INVALID_ARGUMENT");
        x.due("count(7) = 2", "count(8) = 4");
    }

    @Sentence(of = "Promise 3", words = "Returns the room that it had; INVALID_ARGUMENT.")
    static void promise03ReturnsTheRoomFrom0To7(Check check) {
        Run x = new Run(check);
        for (int room = 0; room < 8; room++) {
            x.due(room, "talk(0, 1, 1)");
        }
        x.due("talk(1, 2, 1) = 0", "move(8, 7) = 0", "withdraw(8) = 7", "withdraw(8) = INVALID_ARGUMENT");
        for (int room = 0; room < 8; room++) {
            x.due(room, "withdraw(%d)", room);
        }
    }

    @Sentence(of = "Promise 4", words = "Moves a talk to another room that is open.")
    static void promise04MovesFromRoom0ToRoom7AndBack(Check check) {
        Run x = new Run(check);
        for (int room = 0; room < 8; room++) {
            x.due(room, "talk(0, 1, 1)");
        }
        x.due("talk(5, 9, 3) = 0", "move(8, 7) = 0", "talkOf(8, 3) = 7", "at(0, 5) = NOT_FOUND", "at(7, 5) = 8");
        x.due("at(7, 8) = 8", "roomOf(0, 4) = 1", "roomOf(7, 4) = 5", "roomOf(0, 5) = 1", "roomOf(7, 5) = 384");
        x.due("talkOf(8, 0) = 5", "talkOf(8, 1) = 9", "talkOf(8, 2) = 3", "move(8, 0) = 7", "talkOf(8, 3) = 0");
        x.due("count(2) = 8", "count(3) = 8", "count(4) = 80", "count(0) = 9", "count(7) = 0");
        // An open room without talks is one, too.
        x.due("withdraw(7) = 7", "move(8, 7) = 0", "at(7, 5) = 8", "count(3) = 8");
    }

    @Sentence(of = "Promise 4", words = "`talk`: number of the talk")
    static void promise04NumberOfATalkThatThereIs(Check check) {
        Run x = new Run(check).due("talk(0, 1, 1) = 0", "talk(0, 1, 1) = 1", "withdraw(0) = 0");
        x.due("move(0, 1) = INVALID_ARGUMENT", "move(0, 0) = INVALID_ARGUMENT").invalid("move(%d, 0)", 1, 1);
        x.due("move(1, 0) = 1");
    }

    @Sentence(of = "Promise 4", words = "`room`: 0 to 7")
    static void promise04RoomFrom0To7(Check check) {
        Run x = new Run(check).due("talk(0, 1, 1) = 0").invalid("move(0, %d)", 0, 7);
        for (int room = 0; room < 8; room++) {
            x.due(-1000002, "move(0, %d)", room);
        }
    }

    @Sentence(of = "Promise 4", words = "Returns the room that it had")
    static void promise04ReturnsTheRoomThatItHad(Check check) {
        Run x = new Run(check);
        for (int room = 0; room < 8; room++) {
            x.due(room, "talk(0, 1, 1)");
        }
        x.due("withdraw(0) = 0");
        for (int room = 1; room < 8; room++) {
            x.due(room, "move(%d, %d)", room, room - 1);
        }
        x.due("move(7, 7) = 6");
    }

    @Sentence(of = "Promise 4", words = "INVALID_ARGUMENT if an argument is out of range")
    static void promise04InvalidArgumentIfOneIsOutOfRange(Check check) {
        Run x = new Run(check).due("talk(0, 1, 1) = 0", "talk(0, 1, 1) = 1", "withdraw(1) = 1");
        x.due("move(-1, 1) = INVALID_ARGUMENT", "move(1, 0) = INVALID_ARGUMENT", "move(2, 1) = INVALID_ARGUMENT");
        x.due("move(0, -1) = INVALID_ARGUMENT", "move(0, 8) = INVALID_ARGUMENT", "move(20, 8) = INVALID_ARGUMENT");
        x.due("count(8) = 3", "talkOf(0, 3) = 0");
    }

    @Sentence(of = "Promise 4", words = "NOT_POSSIBLE if it is there already")
    static void promise04NotPossibleIfItIsThereAlready(Check check) {
        Run x = new Run(check).due("talk(0, 48, 9) = 0", "move(0, 0) = NOT_POSSIBLE", "talk(0, 1, 1) = 1");
        x.due("withdraw(1) = 1", "move(0, 1) = 0", "move(0, 1) = NOT_POSSIBLE", "move(0, 0) = 1", "count(8) = 4");
        x.due("undo() = 3", "talkOf(0, 3) = 1", "undo() = 2", "talkOf(0, 3) = 0");
    }

    @Sentence(of = "Promise 4", words = "the room is not open")
    static void promise04NotPossibleIfTheRoomIsNotOpen(Check check) {
        Run x = new Run(check).due("talk(0, 1, 1) = 0", "talk(0, 1, 1) = 1", "move(0, 2) = NOT_POSSIBLE");
        x.due("move(0, 7) = NOT_POSSIBLE", "withdraw(1) = 1", "close(1) = 1", "move(0, 1) = NOT_POSSIBLE");
        x.due("undo() = 3", "move(0, 1) = 0");
    }

    @Sentence(of = "Promise 4", words = "or it cannot be in it")
    static void promise04NotPossibleIfItCannotBeInIt(Check check) {
        Run x = oneLargeRoom(check).due("talk(0, 4, 2) = 0", "talk(4, 8, 1) = 0", "talk(3, 4, 1) = 1");
        x.due("move(0, 1) = NOT_POSSIBLE", "move(2, 0) = NOT_POSSIBLE", "move(1, 1) = 0", "move(1, 0) = 1");
        x.due("withdraw(2) = 1", "move(0, 1) = NOT_POSSIBLE", "talk(7, 9, 1) = 1", "move(1, 1) = NOT_POSSIBLE");
        x.due("withdraw(0) = 0", "move(3, 0) = NOT_POSSIBLE", "withdraw(1) = 0", "move(3, 0) = 1");
    }

    @Sentence(of = "Promise 13", words = "Tells which room a talk would get.")
    static void promise13TellsAndChangesNothing(Check check) {
        Run x = new Run(check).due("would(0, 48, 9, 3) = 0", "count(1) = 0", "count(2) = 0", "count(8) = 0");
        x.due("count(20) = 0", "would(0, 48, 9, 3) = 0", "talk(0, 48, 9) = 0", "would(0, 1, 1, 0) = 1");
        Run y = new Run(check);
        for (int talk = 0; talk < 20; talk++) {
            y.due(0, "talk(%d, %d, 1)", talk, talk + 1);
        }
        y.due("would(20, 48, 9, 0) = 0", "would(19, 20, 9, 1) = 1", "talk(20, 48, 9) = LIMIT_REACHED");
    }

    @Sentence(of = "Promise 13", words = "`first`: 0 to 47")
    static void promise13FirstFrom0To47(Check check) {
        Run x = new Run(check).due("would(0, 1, 1, 0) = 0", "would(47, 48, 1, 0) = 0").invalid("would(%d, 48, 1, 0)", 0, 47);
        x.due("would(-1, 1, 1, 0) = INVALID_ARGUMENT", "would(48, 49, 1, 0) = INVALID_ARGUMENT");
    }

    @Sentence(of = "Promise 13", words = "`end`: above first, 48 at most")
    static void promise13EndAboveFirst48AtMost(Check check) {
        Run x = new Run(check).due("would(0, 48, 1, 0) = 0", "would(47, 48, 1, 0) = 0", "would(0, 1, 1, 0) = 0");
        x.invalid("would(0, %d, 1, 0)", 1, 48).invalid("would(47, %d, 1, 0)", 48, 48);
        for (int first = 0; first < 48; first++) {
            x.due(-1000001, "would(%d, %d, 1, 0)", first, first).due(0, "would(%d, %d, 1, 0)", first, first + 1);
        }
    }

    @Sentence(of = "Promise 13", words = "`size`: 1 to 9")
    static void promise13SizeFrom1To9(Check check) {
        new Run(check).due("would(0, 1, 1, 0) = 0", "would(0, 1, 9, 0) = 0").invalid("would(0, 1, %d, 0)", 1, 9);
    }

    @Sentence(of = "Promise 13", words = "`rule`: 0 to 3")
    static void promise13RuleFrom0To3(Check check) {
        Run x = new Run(check).due("would(0, 1, 1, 0) = 0", "would(0, 1, 1, 1) = 0", "would(0, 1, 1, 2) = 0");
        x.due("would(0, 1, 1, 3) = 0").invalid("would(0, 1, 1, %d)", 0, 3);
    }

    @Sentence(of = "Promise 13", words = "Returns the room")
    static void promise13ReturnsTheRoomFrom0To7(Check check) {
        Run x = new Run(check);
        for (int room = 0; room < 8; room++) {
            for (int rule = 0; rule < 4; rule++) {
                x.due(room, "would(0, 48, 9, %d)", rule);
            }
            x.due(room, "talk(0, 48, 9)");
        }
    }

    @Sentence(of = "Promise 13", words = "INVALID_ARGUMENT if an argument is out of range")
    static void promise13InvalidArgumentIfOneIsOutOfRange(Check check) {
        Run x = new Run(check);
        int min = Integer.MIN_VALUE;
        int max = Integer.MAX_VALUE;
        int[][] wrong = {{-1, 1, 1, 0}, {48, 49, 1, 0}, {0, 0, 1, 0}, {0, 49, 1, 0}, {0, 1, 0, 0}, {0, 1, 10, 0},
            {0, 1, 1, -1}, {0, 1, 1, 4}, {min, max, 1, 0}, {max, min, 1, 0}, {0, 1, 1, max}, {0, 1, max, 0}};
        for (int[] w : wrong) {
            x.due(-1000001, "would(%d, %d, %d, %d)", w[0], w[1], w[2], w[3]);
        }
    }

    @Sentence(of = "Promise 13", words = "NOT_FOUND if there is none")
    static void promise13NotFoundWithoutARoom(Check check) {
        Run x = oneLargeRoom(check);
        x.due("talk(0, 2, 9) = 0", "would(1, 2, 2, 0) = NOT_FOUND", "would(1, 2, 2, 1) = NOT_FOUND");
        x.due("would(1, 2, 2, 2) = NOT_FOUND", "would(1, 2, 2, 3) = NOT_FOUND", "would(2, 3, 2, 3) = 0");
        for (int room = 1; room < 8; room++) {
            x.due(room, "would(1, 48, 1, 0)").due(room, "talk(0, 2, 1)");
        }
        x.due("would(1, 48, 1, 0) = NOT_FOUND", "would(2, 48, 1, 0) = 0");
    }
}
