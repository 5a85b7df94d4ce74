/** One test for each sentence of promises 9 to 12 (what there is) that names a boundary case. */
public final class WhatThereIsSentencesTest {
    public static void main(String[] args) {
        Sentences.test(WhatThereIsSentencesTest.class);
    }

    /** Talk k takes hour 0 of room k; all eight rooms are open. */
    private static Run eightTalks(Check check) {
        Run x = new Run(check);
        for (int room = 0; room < 8; room++) {
            x.due(room, "talk(0, 1, 1)");
        }
        return x;
    }

    /** Talk k takes hour k of room 0. */
    private static Run twentyTalks(Check check) {
        Run x = new Run(check);
        for (int talk = 0; talk < 20; talk++) {
            x.due(0, "talk(%d, %d, 1)", talk, talk + 1);
        }
        return x;
    }

    @Sentence(of = "Promise 9", words = "`talk`: number of the talk")
    static void promise09NumberOfATalkThatThereIs(Check check) {
        Run x = twentyTalks(check);
        x.due("talkOf(0, 0) = 0", "talkOf(19, 0) = 19", "withdraw(19) = 0", "withdraw(0) = 0");
        for (int what = 0; what < 6; what++) {
            x.due(-1000001, "talkOf(0, %d)", what).due(-1000001, "talkOf(19, %d)", what);
        }
        x.invalid("talkOf(%d, 0)", 1, 18).invalid("talkOf(%d, 5)", 1, 18).due("talkOf(1, 0) = 1", "talkOf(18, 0) = 18");
    }

    @Sentence(of = "Promise 9", words = "0: its first hour; 1: its end; 2: its size; 3: its room")
    static void promise09HoursSizeAndRoomAtTheirEdges(Check check) {
        Run x = new Run(check).due("talk(0, 48, 9) = 0", "talk(47, 48, 1) = 1", "talk(0, 1, 5) = 1");
        x.due("talkOf(0, 0) = 0", "talkOf(0, 1) = 48", "talkOf(0, 2) = 9", "talkOf(0, 3) = 0");
        x.due("talkOf(1, 0) = 47", "talkOf(1, 1) = 48", "talkOf(1, 2) = 1", "talkOf(1, 3) = 1");
        x.due("talkOf(2, 0) = 0", "talkOf(2, 1) = 1", "talkOf(2, 2) = 5", "talkOf(2, 3) = 1");
        Run y = eightTalks(check).due("talkOf(7, 3) = 7", "withdraw(0) = 0", "move(7, 0) = 7", "talkOf(7, 3) = 0");
        y.due("undo() = 3", "talkOf(7, 3) = 7");
    }

    @Sentence(of = "Promise 9", words = "4: the rooms that are open, in which it could be instead, as a set")
    static void promise09RoomsInsteadFromNoneTo7(Check check) {
        Run x = new Run(check).due("talk(9, 11, 9) = 0", "talkOf(0, 4) = 0");
        for (int room = 1; room < 8; room++) {
            x.due(room, "talk(9, 11, 1)").due(0, "talkOf(0, 4)");
        }
        for (int talk = 1; talk < 8; talk++) {
            x.due(talk, "withdraw(%d)", talk).due((2 << talk) - 2, "talkOf(0, 4)");
        }
        x.due("talk(8, 10, 1) = 1", "talkOf(0, 4) = 252", "talk(10, 12, 1) = 1", "talk(11, 12, 1) = 0", "move(10, 2) = 0");
        x.due("talkOf(0, 4) = 252", "close(7) = 7", "talkOf(0, 4) = 124", "move(0, 3) = 0", "talkOf(0, 4) = 117");
        Run y = new Run(check).due("room(1, 4, 10) = 910", "room(2, 5, 10) = 910", "talk(0, 1, 9) = 0");
        y.due("talk(0, 1, 4) = 1", "talk(0, 1, 5) = 2", "talk(1, 2, 5) = 0", "talk(1, 2, 4) = 1", "withdraw(4) = 1");
        y.due("talkOf(3, 4) = 4", "withdraw(3) = 0", "talk(1, 2, 4) = 0", "talkOf(5, 4) = 6");
    }

    @Sentence(of = "Promise 9", words = "5: other talks that take an hour of it, as a set")
    static void promise09TalksOfItsHoursFromNoneToAllOthers(Check check) {
        Run x = new Run(check).due("talk(5, 9, 1) = 0", "talkOf(0, 5) = 0", "talk(9, 10, 1) = 0", "talk(4, 5, 1) = 0");
        x.due("talkOf(0, 5) = 0", "talk(8, 9, 1) = 1", "talk(5, 6, 1) = 1", "talk(6, 7, 1) = 1", "talkOf(0, 5) = 56");
        x.due("talk(0, 48, 1) = 2", "talkOf(0, 5) = 120", "talkOf(6, 5) = 63", "talkOf(1, 5) = 64", "withdraw(0) = 0");
        x.due("talkOf(6, 5) = 62", "talkOf(3, 5) = 64");
        Run y = new Run(check).due("talk(0, 48, 1) = 0");
        for (int talk = 1; talk < 20; talk++) {
            y.due(1, "talk(%d, %d, 1)", 28 + talk, 29 + talk).due(1, "talkOf(%d, 5)", talk);
        }
        y.due((1 << 20) - 2, "talkOf(0, 5)");
    }

    @Sentence(of = "Promise 9", words = "INVALID_ARGUMENT if an argument is out of range")
    static void promise09InvalidArgumentIfOneIsOutOfRange(Check check) {
        Run x = new Run(check).due("talkOf(0, 0) = INVALID_ARGUMENT", "talk(0, 1, 1) = 0").invalid("talkOf(0, %d)", 0, 5);
        x.invalid("talkOf(%d, 0)", 0, 0).invalid("talkOf(%d, 3)", 0, 0).due("talkOf(-1, 6) = INVALID_ARGUMENT");
    }

    @Sentence(of = "Promise 10", words = "`room`: 0 to 7")
    static void promise10RoomFrom0To7(Check check) {
        Run x = eightTalks(check);
        for (int room = 0; room < 8; room++) {
            x.due(1 << room, "roomOf(%d, 5)", room);
        }
        for (int what = 0; what < 7; what++) {
            x.due(-1000001, "roomOf(-1, %d)", what).due(-1000001, "roomOf(8, %d)", what);
        }
        x.invalid("roomOf(%d, 2)", 0, 7);
    }

    @Sentence(of = "Promise 10", words = "0: its size; 1: its price")
    static void promise10SizeAndPriceAtTheirEdges(Check check) {
        Run x = new Run(check).due("roomOf(0, 0) = 9", "roomOf(0, 1) = 10", "room(0, 1, 1) = 910", "roomOf(0, 0) = 1");
        x.due("roomOf(0, 1) = 1", "room(0, 9, 99) = 101", "roomOf(0, 0) = 9", "roomOf(0, 1) = 99", "undo() = 1");
        x.due("talk(0, 1, 1) = 0", "roomOf(0, 0) = 1", "roomOf(0, 1) = 1");
    }

    @Sentence(of = "Promise 10", words = "2: 1 if it is open, otherwise 0")
    static void promise10OpenOrNot(Check check) {
        Run x = new Run(check).due("roomOf(0, 2) = 0", "talk(0, 1, 1) = 0", "roomOf(0, 2) = 1", "roomOf(1, 2) = 0");
        x.due("withdraw(0) = 0", "roomOf(0, 2) = 1", "close(0) = 0", "roomOf(0, 2) = 0", "undo() = 2", "roomOf(0, 2) = 1");
        x.due("anew() = 0", "roomOf(0, 2) = 0");
        Run y = eightTalks(check).due("roomOf(7, 2) = 1", "roomOf(0, 2) = 1");
    }

    @Sentence(of = "Promise 10", words = "3: how many talks it has")
    static void promise10TalksFromNoneTo20(Check check) {
        Run x = new Run(check).due("roomOf(0, 3) = 0");
        for (int talk = 0; talk < 20; talk++) {
            x.due(0, "talk(%d, %d, 1)", 2 * talk, 2 * talk + 2).due(talk + 1, "roomOf(0, 3)");
        }
        x.due("withdraw(0) = 0", "roomOf(0, 3) = 19", "roomOf(1, 3) = 0");
    }

    @Sentence(of = "Promise 10", words = "4: how many hours of it are taken")
    static void promise10HoursFromNoneTo48(Check check) {
        Run x = new Run(check).due("roomOf(0, 4) = 0", "talk(0, 47, 1) = 0", "roomOf(0, 4) = 47", "talk(47, 48, 1) = 0");
        x.due("roomOf(0, 4) = 48", "roomOf(1, 4) = 0", "withdraw(0) = 0", "roomOf(0, 4) = 1", "talk(31, 33, 1) = 0");
        x.due("roomOf(0, 4) = 3", "talk(0, 48, 1) = 1", "roomOf(1, 4) = 48", "withdraw(3) = 1", "roomOf(1, 4) = 0");
    }

    @Sentence(of = "Promise 10", words = "5: its talks, as a set")
    static void promise10TalksAsASetFromNoneToAll20(Check check) {
        Run x = twentyTalks(check).due((1 << 20) - 1, "roomOf(0, 5)").due(0, "roomOf(1, 5)");
        for (int talk = 0; talk < 20; talk++) {
            x.due(0, "withdraw(%d)", talk).due((1 << 20) - (2 << talk), "roomOf(0, 5)");
        }
    }

    @Sentence(of = "Promise 10", words = "6: the longest row of free hours")
    static void promise10LongestFreeRowFromNoneTo48(Check check) {
        Run x = new Run(check).due("roomOf(0, 6) = 48", "talk(0, 1, 1) = 0", "roomOf(0, 6) = 47", "roomOf(1, 6) = 48");
        x.due("talk(47, 48, 1) = 0", "roomOf(0, 6) = 46", "talk(20, 21, 1) = 0", "roomOf(0, 6) = 26");
        x.due("talk(40, 47, 1) = 0", "roomOf(0, 6) = 19", "talk(21, 40, 1) = 0", "roomOf(0, 6) = 19");
        x.due("talk(2, 20, 1) = 0", "roomOf(0, 6) = 1", "talk(1, 2, 1) = 0", "roomOf(0, 6) = 0", "withdraw(0) = 0");
        x.due("roomOf(0, 6) = 1", "withdraw(1) = 0", "roomOf(0, 6) = 1", "withdraw(3) = 0", "roomOf(0, 6) = 8");
        x.due("talk(0, 48, 1) = 1", "roomOf(1, 6) = 0", "withdraw(7) = 1", "roomOf(1, 6) = 48");
    }

    @Sentence(of = "Promise 10", words = "INVALID_ARGUMENT if an argument is out of range")
    static void promise10InvalidArgumentIfOneIsOutOfRange(Check check) {
        Run x = new Run(check).invalid("roomOf(%d, 0)", 0, 7).invalid("roomOf(0, %d)", 0, 6);
        x.invalid("roomOf(7, %d)", 0, 6).due("roomOf(8, 7) = INVALID_ARGUMENT", "roomOf(-1, -1) = INVALID_ARGUMENT");
    }

    @Sentence(of = "Promise 11", words = "`room`: 0 to 7")
    static void promise11RoomFrom0To7(Check check) {
        Run x = eightTalks(check);
        for (int room = 0; room < 8; room++) {
            x.due(room, "at(%d, 0)", room);
        }
        x.invalid("at(%d, 0)", 0, 7).invalid("at(%d, 47)", 0, 7);
    }

    @Sentence(of = "Promise 11", words = "`hour`: 0 to 47")
    static void promise11HourFrom0To47(Check check) {
        Run x = new Run(check).due("talk(0, 48, 1) = 0");
        for (int hour = 0; hour < 48; hour++) {
            x.due(0, "at(0, %d)", hour);
        }
        x.invalid("at(0, %d)", 0, 47).invalid("at(1, %d)", 0, 47);
    }

    @Sentence(of = "Promise 11", words = "Returns the talk")
    static void promise11ReturnsTheTalkFrom0To19(Check check) {
        Run x = twentyTalks(check);
        for (int talk = 0; talk < 20; talk++) {
            x.due(talk, "at(0, %d)", talk);
        }
        x.due("withdraw(0) = 0", "at(0, 0) = NOT_FOUND", "at(0, 1) = 1", "undo() = 3", "at(0, 0) = 0");
    }

    @Sentence(of = "Promise 11", words = "INVALID_ARGUMENT if an argument is out of range")
    static void promise11InvalidArgumentIfOneIsOutOfRange(Check check) {
        Run x = new Run(check).due("at(-1, 0) = INVALID_ARGUMENT", "at(8, 0) = INVALID_ARGUMENT");
        x.due("at(0, -1) = INVALID_ARGUMENT", "at(0, 48) = INVALID_ARGUMENT", "at(8, 48) = INVALID_ARGUMENT");
        x.due(-1000001, "at(%d, %d)", Integer.MIN_VALUE, Integer.MAX_VALUE);
        x.due(-1000001, "at(%d, %d)", Integer.MAX_VALUE, Integer.MIN_VALUE);
    }

    @Sentence(of = "Promise 11", words = "NOT_FOUND if it is free")
    static void promise11NotFoundIfItIsFree(Check check) {
        Run x = new Run(check).due("at(0, 0) = NOT_FOUND", "at(7, 47) = NOT_FOUND", "talk(5, 7, 1) = 0");
        x.due("at(0, 4) = NOT_FOUND", "at(0, 5) = 0", "at(0, 6) = 0", "at(0, 7) = NOT_FOUND", "at(1, 5) = NOT_FOUND");
        x.due("withdraw(0) = 0", "at(0, 5) = NOT_FOUND", "close(0) = 0", "at(0, 5) = NOT_FOUND");
    }

    @Sentence(of = "Promise 12", words = "`hour`: 0 to 47")
    static void promise12HourFrom0To47(Check check) {
        Run x = new Run(check).due("talk(0, 48, 1) = 0", "talk(0, 1, 1) = 1");
        for (int hour = 0; hour < 48; hour++) {
            x.due(hour == 0 ? 2 : 1, "hourOf(%d, 0)", hour).due(hour == 0 ? 0 : 2, "hourOf(%d, 1)", hour);
        }
        x.invalid("hourOf(%d, 0)", 0, 47).invalid("hourOf(%d, 1)", 0, 47);
    }

    @Sentence(of = "Promise 12", words = "0: how many talks take it")
    static void promise12TalksFromNoneTo8(Check check) {
        Run x = new Run(check).due("hourOf(47, 0) = 0");
        for (int room = 0; room < 8; room++) {
            x.due(room, "talk(46, 48, 1)").due(room + 1, "hourOf(47, 0)").due(room + 1, "hourOf(46, 0)");
        }
        x.due("hourOf(45, 0) = 0", "withdraw(3) = 3", "hourOf(47, 0) = 7", "talk(47, 48, 1) = 3", "hourOf(47, 0) = 8");
        x.due("hourOf(46, 0) = 7");
    }

    @Sentence(of = "Promise 12", words = "1: open rooms that are free in it, as a set")
    static void promise12FreeRoomsFromNoneToAll8(Check check) {
        Run x = new Run(check).due("hourOf(5, 1) = 0");
        for (int room = 0; room < 8; room++) {
            x.due(room, "talk(5, 6, 1)").due(0, "hourOf(5, 1)").due((2 << room) - 1, "hourOf(6, 1)");
            x.due((2 << room) - 1, "hourOf(4, 1)");
        }
        for (int talk = 0; talk < 8; talk++) {
            x.due(talk, "withdraw(%d)", talk).due((2 << talk) - 1, "hourOf(5, 1)");
        }
        x.due("close(0) = 7", "hourOf(5, 1) = 254", "close(7) = 6", "hourOf(5, 1) = 126", "anew() = 0", "hourOf(5, 1) = 0");
    }

    @Sentence(of = "Promise 12", words = "INVALID_ARGUMENT if an argument is out of range")
    static void promise12InvalidArgumentIfOneIsOutOfRange(Check check) {
        Run x = new Run(check).invalid("hourOf(%d, 0)", 0, 47).invalid("hourOf(%d, 1)", 0, 47);
        x.invalid("hourOf(0, %d)", 0, 1).invalid("hourOf(47, %d)", 0, 1).due("hourOf(48, 2) = INVALID_ARGUMENT");
    }
}
