/** One test for each sentence of promises 5 to 8 (rooms) that names a boundary case. */
public final class RoomsSentencesTest {
    public static void main(String[] args) {
        Sentences.test(RoomsSentencesTest.class);
    }

    @Sentence(of = "Promise 5", words = "Sets the size and the price of a room that is not open.")
    static void promise05SetsAClosedRoomAlsoOneThatWasOpen(Check check) {
        Run x = new Run(check).due("room(0, 3, 42) = 910", "roomOf(0, 0) = 3", "roomOf(0, 1) = 42", "roomOf(1, 0) = 9");
        x.due("roomOf(1, 1) = 10", "roomOf(0, 2) = 0", "count(3) = 0", "count(4) = 0", "talk(0, 1, 3) = 1");
        x.due("withdraw(0) = 1", "close(1) = 0", "room(1, 2, 5) = 910", "talk(0, 1, 3) = 2", "talk(0, 1, 2) = 1");
    }

    @Sentence(of = "Promise 5", words = "`room`: 0 to 7")
    static void promise05RoomFrom0To7(Check check) {
        Run x = new Run(check);
        for (int room = 0; room < 8; room++) {
            x.due(910, "room(%d, %d, %d)", room, 1 + room, 11 + room);
        }
        x.invalid("room(%d, 1, 1)", 0, 7);
        for (int room = 0; room < 8; room++) {
            x.due(1 + room, "roomOf(%d, 0)", room).due(11 + room, "roomOf(%d, 1)", room);
        }
    }

    @Sentence(of = "Promise 5", words = "`size`: 1 to 9")
    static void promise05SizeFrom1To9(Check check) {
        Run x = new Run(check);
        for (int size = 1; size <= 9; size++) {
            x.ask("room(0, %d, 10)", size);
            x.due(size, "roomOf(0, 0)");
        }
        x.invalid("room(0, %d, 10)", 1, 9).due("roomOf(0, 0) = 9");
    }

    @Sentence(of = "Promise 5", words = "`price`: 1 to 99")
    static void promise05PriceFrom1To99(Check check) {
        Run x = new Run(check);
        for (int price = 1; price <= 99; price++) {
            x.ask("room(0, 9, %d)", price);
            x.due(price, "roomOf(0, 1)");
        }
        x.invalid("room(0, 9, %d)", 1, 99).due("roomOf(0, 1) = 99");
    }

    @Sentence(of = "Promise 5", words = "Returns 100 times the size that it had, plus the price that it had")
    static void promise05ReturnsWhatItWasFrom101To999(Check check) {
        Run x = new Run(check).due("room(7, 1, 1) = 910", "room(7, 9, 99) = 101", "room(7, 1, 99) = 999");
        x.due("room(7, 9, 1) = 199", "room(7, 9, 1) = 901", "room(6, 9, 1) = 910");
    }

    @Sentence(of = "Promise 5", words = "INVALID_ARGUMENT if an argument is out of range")
    static void promise05InvalidArgumentIfOneIsOutOfRange(Check check) {
        Run x = new Run(check);
        int min = Integer.MIN_VALUE;
        int max = Integer.MAX_VALUE;
        int[][] wrong = {{-1, 1, 1}, {8, 1, 1}, {0, 0, 1}, {0, 10, 1}, {0, 1, 0}, {0, 1, 100}, {0, -1, -1}, {8, 10, 100},
            {min, 1, 1}, {max, 1, 1}, {0, min, 1}, {0, max, 1}, {0, 1, min}, {0, 1, max}};
        for (int[] w : wrong) {
            x.due(-1000001, "room(%d, %d, %d)", w[0], w[1], w[2]);
        }
        x.due("roomOf(0, 0) = 9", "roomOf(0, 1) = 10", "count(8) = 0");
    }

    @Sentence(of = "Promise 5", words = "NOT_POSSIBLE if it is open")
    static void promise05NotPossibleIfItIsOpen(Check check) {
        Run x = new Run(check).due("talk(0, 1, 1) = 0", "room(0, 9, 10) = NOT_POSSIBLE", "room(0, 1, 1) = NOT_POSSIBLE");
        x.due("withdraw(0) = 0", "room(0, 1, 1) = NOT_POSSIBLE", "roomOf(0, 0) = 9", "roomOf(0, 1) = 10");
        x.due("close(0) = 0", "room(0, 1, 1) = 910", "undo() = 3", "undo() = 2", "room(0, 1, 1) = NOT_POSSIBLE");
        x.due("room(1, 1, 1) = 910");
    }

    @Sentence(of = "Promise 6", words = "Closes a room in which there is no talk (nothing is paid back).")
    static void promise06ClosesAnEmptyRoomAndPaysNothingBack(Check check) {
        Run x = new Run(check).due("talk(0, 1, 1) = 0", "talk(0, 1, 1) = 1", "move(0, 1) = NOT_POSSIBLE");
        x.due("talk(1, 2, 1) = 0", "withdraw(0) = 0", "move(2, 1) = 0", "close(0) = 1", "roomOf(0, 2) = 0");
        x.due("count(2) = 1", "count(3) = 2", "count(4) = 20", "hourOf(5, 1) = 2", "talkOf(2, 4) = 0");
        x.due("talk(1, 2, 1) = 0", "count(3) = 3", "count(4) = 30");
    }

    @Sentence(of = "Promise 6", words = "`room`: 0 to 7")
    static void promise06RoomFrom0To7(Check check) {
        Run x = new Run(check);
        for (int room = 0; room < 8; room++) {
            x.due(room, "talk(0, 1, 1)");
        }
        x.invalid("close(%d)", 0, 7).due("withdraw(0) = 0", "withdraw(7) = 7", "close(0) = 7", "close(7) = 6");
        x.due("roomOf(0, 2) = 0", "roomOf(1, 2) = 1", "roomOf(6, 2) = 1", "roomOf(7, 2) = 0");
    }

    @Sentence(of = "Promise 6", words = "Returns how many rooms are open then; INVALID_ARGUMENT")
    static void promise06ReturnsHowManyAreOpenFrom7To0(Check check) {
        Run x = new Run(check);
        for (int room = 0; room < 8; room++) {
            x.due(room, "talk(0, 1, 1)");
        }
        for (int room = 0; room < 8; room++) {
            x.due(room, "withdraw(%d)", room);
        }
        for (int open = 7; open >= 0; open--) {
            x.due(open, "close(%d)", open).due(open, "count(2)");
        }
        x.invalid("close(%d)", 0, 7);
    }

    @Sentence(of = "Promise 6", words = "NOT_POSSIBLE if it is not open")
    static void promise06NotPossibleIfItIsNotOpen(Check check) {
        Run x = new Run(check).due("close(0) = NOT_POSSIBLE", "close(7) = NOT_POSSIBLE", "talk(0, 1, 1) = 0");
        x.due("close(1) = NOT_POSSIBLE", "withdraw(0) = 0", "close(0) = 0", "close(0) = NOT_POSSIBLE", "count(8) = 3");
    }

    @Sentence(of = "Promise 6", words = "or there is a talk in it")
    static void promise06NotPossibleIfThereIsATalkInIt(Check check) {
        Run x = new Run(check).due("talk(0, 1, 1) = 0", "close(0) = NOT_POSSIBLE", "talk(47, 48, 1) = 0");
        x.due("withdraw(0) = 0", "close(0) = NOT_POSSIBLE", "withdraw(1) = 0", "close(0) = 0");
    }

    @Sentence(of = "Promise 7", words = "Tells all talks anew in order")
    static void promise07TellsAllTalksAnewFromNoneTo20(Check check) {
        Run x = new Run(check).due("anew() = 0", "count(8) = 1", "count(2) = 0", "count(3) = 0");
        for (int talk = 0; talk < 20; talk++) {
            x.due(talk % 5, "talk(%d, %d, 1)", 45 - talk / 5 * 3, 46 - talk / 5 * 3 + talk % 2);
        }
        x.due("anew() = 50", "count(0) = 20", "count(1) = 20", "count(2) = 5", "count(3) = 10", "talkOf(19, 3) = 4");
    }

    @Sentence(of = "Promise 7", words = "they get the rooms as told, all others are closed")
    static void promise07OtherRoomsAreClosed(Check check) {
        Run x = new Run(check);
        for (int room = 0; room < 8; room++) {
            x.due(room, "talk(0, 2, 1)");
        }
        for (int talk = 0; talk < 7; talk++) {
            x.due(talk, "withdraw(%d)", talk);
        }
        x.due("anew() = 10", "talkOf(7, 3) = 0", "count(2) = 1", "at(0, 1) = 7", "at(7, 1) = NOT_FOUND");
        for (int room = 1; room < 8; room++) {
            x.due(0, "roomOf(%d, 2)", room).due(910, "room(%d, 1, 1)", room);
        }
        x.due("withdraw(7) = 0", "anew() = 0", "count(2) = 0", "roomOf(0, 2) = 0", "count(1) = 8", "count(7) = 8");
    }

    @Sentence(of = "Promise 7", words = "what was paid so far is then the price of that")
    static void promise07PaidIsTheNewPriceAlsoIfItIsMore(Check check) {
        Run x = new Run(check).due("talk(0, 2, 1) = 0", "talk(0, 2, 1) = 1", "withdraw(1) = 1", "count(4) = 20");
        x.due("anew() = 10", "count(4) = 10", "withdraw(0) = 0", "anew() = 0", "count(4) = 0", "unknowing() = 10000");
        Run y = new Run(check).due("room(1, 1, 20) = 910", "room(2, 9, 70) = 910");
        for (int room = 3; room < 8; room++) {
            y.due(910, "room(%d, 9, 99)", room);
        }
        y.due("talk(5, 9, 9) = 0", "talk(4, 9, 1) = 1", "count(4) = 30", "anew() = 80", "count(4) = 80");
    }

    @Sentence(of = "Promise 7", words = "Returns what is paid then")
    static void promise07ReturnsWhatIsPaidFrom0To8Rooms(Check check) {
        Run x = new Run(check);
        for (int room = 0; room < 8; room++) {
            x.due(910, "room(%d, 9, 99)", room);
        }
        x.due("anew() = 0");
        for (int room = 0; room < 8; room++) {
            x.due(room, "talk(0, 48, 1)").due(99 * (room + 1), "anew()").due(99 * (room + 1), "count(4)");
        }
    }

    @Sentence(of = "Promise 7", words = "NOT_POSSIBLE if some talk would get no room")
    static void promise07NotPossibleIfSomeTalkWouldGetNoRoom(Check check) {
        Run x = new Run(check);
        for (int room = 1; room < 8; room++) {
            x.due(910, "room(%d, 1, 20)", room);
        }
        x.due("talk(5, 9, 9) = 0", "talk(4, 9, 1) = 1", "anew() = NOT_POSSIBLE", "talkOf(0, 3) = 0", "talkOf(1, 3) = 1");
        x.due("count(2) = 2", "count(3) = 2", "count(4) = 30", "count(8) = 4", "roomOf(0, 4) = 4", "at(1, 4) = 1");
        for (int rule = 1; rule < 4; rule++) {
            x.due(rule - 1, "set(0, %d)", rule).due(-1000002, "anew()");
        }
        x.due("withdraw(1) = 1", "anew() = 10", "count(2) = 1", "talkOf(0, 3) = 0");
    }

    @Sentence(of = "Promise 8", words = "`what`: 0")
    static void promise08What0Alone(Check check) {
        new Run(check).due("set(0, 1) = 0").invalid("set(%d, 0)", 0, 0).due("count(20) = 1", "count(8) = 1");
    }

    @Sentence(of = "Promise 8", words = "`value`: a value in its range")
    static void promise08ValueFrom0To3(Check check) {
        Run x = new Run(check).due("set(0, 0) = 0", "set(0, 1) = 0", "set(0, 2) = 1", "set(0, 3) = 2");
        x.invalid("set(0, %d)", 0, 3).due("count(20) = 3", "count(8) = 4");
    }

    @Sentence(of = "Promise 8", words = "Returns what it was")
    static void promise08ReturnsWhatItWasFrom0To3(Check check) {
        Run x = new Run(check);
        int was = 0;
        for (int times = 0; times < 16; times++) {
            int value = (times / 4 + times) % 4;
            x.due(was, "set(0, %d)", value).due(value, "count(20)");
            was = value;
        }
    }

    @Sentence(of = "Promise 8", words = "INVALID_ARGUMENT if an argument is out of range")
    static void promise08InvalidArgumentIfOneIsOutOfRange(Check check) {
        Run x = new Run(check).due("set(-1, 0) = INVALID_ARGUMENT", "set(1, 0) = INVALID_ARGUMENT");
        x.due("set(0, -1) = INVALID_ARGUMENT", "set(0, 4) = INVALID_ARGUMENT", "set(1, 4) = INVALID_ARGUMENT");
        x.due(-1000001, "set(%d, %d)", Integer.MIN_VALUE, Integer.MIN_VALUE);
        x.due(-1000001, "set(%d, %d)", Integer.MAX_VALUE, Integer.MAX_VALUE).due("count(20) = 0", "count(8) = 0");
    }
}
