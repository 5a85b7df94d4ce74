/** Promises 1 to 4 (a new object, talk, withdraw, move) and 13 (would, which asks what talk would do). */
public final class TalksTest {
    private static final int INVALID = OnlineRooms.INVALID_ARGUMENT;
    private static final int IMPOSSIBLE = OnlineRooms.NOT_POSSIBLE;
    private static final int LIMIT = OnlineRooms.LIMIT_REACHED;
    private static final int MISSING = OnlineRooms.NOT_FOUND;
    private static final Check check = new Check();

    public static void main(String[] args) {
        errorCodesAreThoseOfTheDocument();
        newObjectIsClosedAndEmpty();
        talkAndWouldRefuseWhatIsOutOfRange();
        talkTakesTheEdgesOfItsRanges();
        ruleZeroTakesTheLowestOpen();
        ruleOneTakesTheLeastGap();
        ruleOneMeasuresFromHourZero();
        ruleTwoTakesTheLeastSize();
        ruleThreeTakesTheFullest();
        closedRoomIsTheCheapestThenTheSmallestThenTheLowest();
        openRoomGoesAheadOfCheaperClosedOne();
        talkThatFitsNowhereIsNotTold();
        wouldDoesNothing();
        talkLimitComesBehindNoRoom();
        withdrawLeavesTheRoomOpen();
        withdrawnNumberNeverComesAgain();
        moveGoesToOpenRoomsOnly();
        moveNeedsSizeAndFreeHours();
        errorsChangeNothing();
        check.finish();
    }

    private static void errorCodesAreThoseOfTheDocument() {
        check.due("INVALID_ARGUMENT", INVALID, -1000001);
        check.due("NOT_POSSIBLE", IMPOSSIBLE, -1000002);
        check.due("LIMIT_REACHED", LIMIT, -1000003);
        check.due("NOT_FOUND", MISSING, -1000004);
    }

    private static void newObjectIsClosedAndEmpty() {
        OnlineRooms x = new OnlineRooms();
        int[] ofRoom = {9, 10, 0, 0, 0, 0, 48};
        for (int room = 0; room < 8; room++) {
            for (int what = 0; what < ofRoom.length; what++) {
                check.due("new: roomOf(" + room + ", " + what + ")", x.roomOf(room, what), ofRoom[what]);
            }
        }
        for (int what = 0; what <= 9; what++) {
            check.due("new: count(" + what + ")", x.count(what), 0);
        }
        check.due("new: the rule", x.count(20), 0);
        check.due("new: talkOf(0, 0)", x.talkOf(0, 0), INVALID);
        check.due("new: undo()", x.undo(), IMPOSSIBLE);
        check.due("new: clearText()", x.clearText(), 0);
    }

    private static void talkAndWouldRefuseWhatIsOutOfRange() {
        OnlineRooms x = new OnlineRooms();
        int least = Integer.MIN_VALUE;
        int most = Integer.MAX_VALUE;
        int[][] wrong = {{-1, 1, 1}, {48, 49, 1}, {48, 48, 1}, {0, 0, 1}, {7, 6, 1}, {47, 49, 1}, {0, 1, 0},
            {0, 1, 10}, {0, -1, 1}, {least, 1, 1}, {most, least, 1}, {0, most, 1}, {0, 1, least}, {0, 1, most}};
        for (int[] w : wrong) {
            String arguments = "(" + w[0] + ", " + w[1] + ", " + w[2] + ")";
            check.due("talk" + arguments, x.talk(w[0], w[1], w[2]), INVALID);
            check.due("would" + arguments, x.would(w[0], w[1], w[2], 0), INVALID);
        }
        for (int rule : new int[] {-1, 4, least, most}) {
            check.due("would(0, 1, 1, " + rule + ")", x.would(0, 1, 1, rule), INVALID);
        }
        check.due("talks so far", x.count(1), 0);
        check.due("states", x.count(8), 0);
    }

    private static void talkTakesTheEdgesOfItsRanges() {
        OnlineRooms x = new OnlineRooms();
        check.due("talk(0, 1, 1)", x.talk(0, 1, 1), 0);
        check.due("talk(47, 48, 9)", x.talk(47, 48, 9), 0);
        check.due("talk(1, 47, 5)", x.talk(1, 47, 5), 0);
        check.due("the hours are all taken", x.roomOf(0, 4), 48);
        check.due("talk(0, 48, 9)", x.talk(0, 48, 9), 1);
        check.due("talk(46, 48, 9)", x.talk(46, 48, 9), 2);
        check.due("talk(45, 46, 9)", x.talk(45, 46, 9), 2);
    }

    /** Open are room 0 (size 9, taken 0 to 5), 1 (size 6, 3 to 10) and 2 (size 3, 2 to 8). */
    private static OnlineRooms threeOpenRooms() {
        OnlineRooms x = new OnlineRooms();
        x.room(1, 6, 20);
        x.room(2, 3, 30);
        for (int room = 3; room < 8; room++) {
            x.room(room, 9, 99);
        }
        check.due("talk 0 opens room 0", x.talk(0, 5, 9), 0);
        check.due("talk 1 opens room 1", x.talk(3, 10, 6), 1);
        check.due("talk 2 opens room 2", x.talk(2, 8, 3), 2);
        return x;
    }

    private static void ruleZeroTakesTheLowestOpen() {
        OnlineRooms x = threeOpenRooms();
        check.due("rule 0", x.would(20, 21, 1, 0), 0);
        check.due("rule 0, room 0 is taken", x.would(0, 2, 1, 0), 1);
        check.due("rule 0, rooms 0 and 1 are taken", x.would(0, 1, 7, 0), 3);
        check.due("rule 0 by talk", x.talk(20, 21, 1), 0);
    }

    private static void ruleOneTakesTheLeastGap() {
        OnlineRooms x = threeOpenRooms();
        check.due("rule 1: gaps 15, 10, 12", x.would(20, 21, 1, 1), 1);
        check.due("rule 1: gap 0 in room 0 alone", x.would(5, 6, 1, 1), 0);
        check.due("rule 1: gaps 3, 0 in rooms 0, 2", x.would(8, 9, 1, 1), 2);
        check.due("rule 1: gaps 0, 0 in rooms 1, 2", x.would(0, 2, 1, 1), 1);
        x.set(0, 1);
        check.due("rule 1 by talk", x.talk(20, 21, 1), 1);
        check.due("rule 1: gaps 25, 9, 22", x.would(30, 31, 1, 1), 1);
        check.due("rule 1: gaps 7, 2, 4", x.would(12, 13, 1, 1), 1);
        x.withdraw(1);
        check.due("rule 1: gaps 7, 12, 4, a later talk in room 1", x.would(12, 13, 1, 1), 2);
    }

    private static void ruleOneMeasuresFromHourZero() {
        OnlineRooms x = new OnlineRooms();
        x.talk(0, 2, 1);
        x.talk(0, 3, 1);
        x.withdraw(0);
        check.due("rule 1: gaps 5, 2", x.would(5, 6, 1, 1), 1);
        check.due("rule 1: gap 0 in room 0 alone", x.would(0, 1, 1, 1), 0);
        x.withdraw(1);
        check.due("rule 1: gaps 5, 5", x.would(5, 6, 1, 1), 0);
        check.due("rule 1: gaps 47, 47", x.would(47, 48, 1, 1), 0);
    }

    private static void ruleTwoTakesTheLeastSize() {
        OnlineRooms x = threeOpenRooms();
        check.due("rule 2: sizes 9, 6, 3", x.would(20, 21, 1, 2), 2);
        check.due("rule 2: sizes 9, 6", x.would(20, 21, 4, 2), 1);
        check.due("rule 2: size 9", x.would(20, 21, 7, 2), 0);
        x.set(0, 2);
        check.due("rule 2 by talk", x.talk(20, 21, 3), 2);
        OnlineRooms y = new OnlineRooms();
        y.talk(0, 9, 1);
        y.talk(0, 9, 1);
        check.due("rule 2: sizes 9, 9", y.would(20, 21, 1, 2), 0);
    }

    private static void ruleThreeTakesTheFullest() {
        OnlineRooms x = threeOpenRooms();
        check.due("rule 3: hours 5, 7, 6", x.would(20, 21, 1, 3), 1);
        check.due("rule 3: hours 5, 6 in rooms 0, 2", x.would(8, 9, 1, 3), 2);
        x.set(0, 3);
        check.due("rule 3 by talk", x.talk(40, 41, 1), 1);
        x.withdraw(1);
        check.due("rule 3: hours 5, 1, 6", x.would(20, 21, 1, 3), 2);
        x.withdraw(2);
        x.withdraw(0);
        check.due("rule 3: hours 0, 1, 0", x.would(20, 21, 1, 3), 1);
        x.withdraw(3);
        check.due("rule 3: hours 0, 0, 0", x.would(20, 21, 1, 3), 0);
    }

    private static void closedRoomIsTheCheapestThenTheSmallestThenTheLowest() {
        OnlineRooms x = new OnlineRooms();
        x.room(2, 9, 7);
        x.room(5, 4, 7);
        x.room(6, 4, 7);
        x.room(7, 3, 7);
        for (int rule = 0; rule < 4; rule++) {
            check.due("of the price 7 the size 3", x.would(0, 1, 1, rule), 7);
            check.due("of the size 4 the lowest", x.would(0, 1, 4, rule), 5);
            check.due("for the size 5", x.would(0, 1, 5, rule), 2);
        }
        x.room(1, 9, 6);
        check.due("the price goes ahead of the size", x.would(0, 1, 1, 0), 1);
        x.room(0, 1, 99);
        x.room(1, 2, 98);
        check.due("talk by these", x.talk(0, 1, 1), 7);
        check.due("talk by these", x.talk(0, 1, 2), 5);
        check.due("talk by these", x.talk(0, 1, 3), 6);
        check.due("talk by these", x.talk(0, 1, 4), 2);
        check.due("talk by these", x.talk(0, 1, 1), 3);
        check.due("talk by these", x.talk(0, 1, 1), 4);
        check.due("talk by these", x.talk(0, 1, 1), 1);
        check.due("talk by these", x.talk(0, 1, 1), 0);
        check.due("what is paid", x.count(4), 4 * 7 + 10 + 10 + 98 + 99);
    }

    private static void openRoomGoesAheadOfCheaperClosedOne() {
        OnlineRooms x = new OnlineRooms();
        x.talk(0, 1, 1);
        x.room(1, 1, 1);
        for (int rule = 0; rule < 4; rule++) {
            check.due("open ahead of cheaper", x.would(1, 48, 1, rule), 0);
            check.due("closed if taken", x.would(0, 2, 1, rule), 1);
        }
    }

    private static void talkThatFitsNowhereIsNotTold() {
        OnlineRooms x = new OnlineRooms();
        for (int room = 0; room < 8; room++) {
            x.room(room, 8, 10);
        }
        check.due("no room is large enough", x.talk(0, 1, 9), IMPOSSIBLE);
        check.due("no room is large enough", x.would(0, 1, 9, 0), MISSING);
        for (int room = 0; room < 8; room++) {
            check.due("room by room", x.talk(10, 20, 8), room);
        }
        check.due("all are taken", x.talk(19, 21, 1), IMPOSSIBLE);
        check.due("all are taken", x.would(9, 11, 1, 3), MISSING);
        check.due("ahead of all", x.talk(0, 10, 1), 0);
        check.due("talks so far", x.count(1), 9);
    }

    private static void wouldDoesNothing() {
        OnlineRooms x = new OnlineRooms();
        check.due("would", x.would(0, 48, 9, 2), 0);
        check.due("no talk", x.count(1), 0);
        check.due("no room is open", x.count(2), 0);
        check.due("no state", x.count(8), 0);
        for (int hour = 0; hour < 20; hour++) {
            x.talk(hour, hour + 1, 1);
        }
        check.due("would knows no limit of talks", x.would(20, 48, 9, 0), 0);
    }

    private static void talkLimitComesBehindNoRoom() {
        OnlineRooms x = new OnlineRooms();
        for (int room = 1; room < 8; room++) {
            x.room(room, 1, 10);
        }
        for (int hour = 0; hour < 20; hour++) {
            check.due("talk " + hour, x.talk(hour, hour + 1, 9), 0);
        }
        check.due("the 21st", x.talk(20, 21, 9), LIMIT);
        check.due("the 21st in a closed room", x.talk(0, 1, 1), LIMIT);
        check.due("the 21st without a room", x.talk(0, 1, 2), IMPOSSIBLE);
        check.due("the 21st out of range", x.talk(0, 49, 2), INVALID);
        check.due("withdraw the last", x.withdraw(19), 0);
        check.due("still the 21st", x.talk(20, 21, 9), LIMIT);
        check.due("anew", x.anew(), 10);
        check.due("still the 21st", x.talk(20, 21, 9), LIMIT);
        check.due("talks so far", x.count(1), 20);
        x.undo();
        x.undo();
        check.due("undo the 20th", x.undo(), 1);
        check.due("the 20th once more", x.talk(30, 31, 9), 0);
        check.due("its number", x.at(0, 30), 19);
    }

    private static void withdrawLeavesTheRoomOpen() {
        OnlineRooms x = new OnlineRooms();
        x.talk(3, 6, 1);
        x.talk(4, 7, 1);
        check.due("withdraw(1)", x.withdraw(1), 1);
        check.due("room 1 is open", x.roomOf(1, 2), 1);
        check.due("room 1 has no talk", x.roomOf(1, 5), 0);
        check.due("no hour is taken", x.roomOf(1, 4), 0);
        check.due("hour 6 of room 1", x.at(1, 6), MISSING);
        check.due("nothing is paid back", x.count(4), 20);
        check.due("withdrawn so far", x.count(7), 1);
        check.due("talks", x.count(0), 1);
        check.due("withdraw(0)", x.withdraw(0), 0);
        check.due("withdrawn so far", x.count(7), 2);
        check.due("into a room that was left open", x.talk(0, 48, 9), 0);
        check.due("and the other", x.talk(0, 48, 9), 1);
        check.due("nothing was opened", x.count(3), 2);
    }

    private static void withdrawnNumberNeverComesAgain() {
        OnlineRooms x = new OnlineRooms();
        x.talk(0, 1, 1);
        x.talk(1, 2, 1);
        x.withdraw(1);
        check.due("withdraw(1) again", x.withdraw(1), INVALID);
        check.due("withdraw(2)", x.withdraw(2), INVALID);
        check.due("withdraw(-1)", x.withdraw(-1), INVALID);
        check.due("withdraw(20)", x.withdraw(20), INVALID);
        check.due("withdraw of the least number", x.withdraw(Integer.MIN_VALUE), INVALID);
        check.due("withdraw of the greatest number", x.withdraw(Integer.MAX_VALUE), INVALID);
        check.due("talkOf(1, 0)", x.talkOf(1, 0), INVALID);
        check.due("move(1, 0)", x.move(1, 0), INVALID);
        x.talk(1, 2, 1);
        check.due("the next is talk 2", x.at(0, 1), 2);
        check.due("talks", x.count(0), 2);
        check.due("talks so far", x.count(1), 3);
    }

    private static void moveGoesToOpenRoomsOnly() {
        OnlineRooms x = new OnlineRooms();
        x.talk(0, 5, 1);
        x.talk(4, 8, 1);
        x.talk(6, 9, 1);
        check.due("talk 2 is in room 0", x.talkOf(2, 3), 0);
        x.withdraw(1);
        check.due("move(2, 1)", x.move(2, 1), 0);
        check.due("its room", x.talkOf(2, 3), 1);
        check.due("room 0", x.roomOf(0, 5), 1);
        check.due("room 1", x.roomOf(1, 5), 4);
        check.due("hour 8 of room 0", x.at(0, 8), MISSING);
        check.due("hour 8 of room 1", x.at(1, 8), 2);
        check.due("move there once more", x.move(2, 1), IMPOSSIBLE);
        check.due("move to a closed room", x.move(2, 2), IMPOSSIBLE);
        check.due("move(2, 8)", x.move(2, 8), INVALID);
        check.due("move(2, -1)", x.move(2, -1), INVALID);
        check.due("move(3, 0)", x.move(3, 0), INVALID);
        check.due("move(-1, 0)", x.move(-1, 0), INVALID);
        check.due("move(20, 0)", x.move(20, 0), INVALID);
        check.due("move of a withdrawn talk to no room", x.move(1, 8), INVALID);
        check.due("move back", x.move(2, 0), 1);
        check.due("nothing was opened", x.count(3), 2);
        check.due("nothing was paid", x.count(4), 20);
    }

    private static void moveNeedsSizeAndFreeHours() {
        OnlineRooms x = new OnlineRooms();
        x.room(1, 4, 10);
        x.talk(0, 5, 5);
        check.due("room 1 is opened", x.talk(4, 8, 4), 1);
        check.due("talk 2", x.talk(8, 10, 5), 0);
        check.due("talk 3", x.talk(10, 12, 4), 0);
        check.due("an hour is taken", x.move(1, 0), IMPOSSIBLE);
        check.due("the room is too small", x.move(2, 1), IMPOSSIBLE);
        check.due("the size is just enough", x.move(3, 1), 0);
        x.withdraw(0);
        check.due("the hours just fit", x.move(1, 0), 1);
        check.due("hours of room 0", x.roomOf(0, 4), 6);
        check.due("hours of room 1", x.roomOf(1, 4), 2);
    }

    private static void errorsChangeNothing() {
        OnlineRooms x = new OnlineRooms();
        x.talk(0, 5, 1);
        x.talk(0, 0, 0);
        x.withdraw(5);
        x.move(0, 1);
        x.move(0, 0);
        x.room(0, 1, 1);
        x.room(0, 0, 0);
        x.close(0);
        x.set(0, 7);
        x.type(200);
        check.due("states", x.count(8), 1);
        check.due("talks so far", x.count(1), 1);
        check.due("its room", x.talkOf(0, 3), 0);
        check.due("size of room 0", x.roomOf(0, 0), 9);
        check.due("the rule", x.count(20), 0);
        check.due("length of the text", x.count(9), 0);
    }
}
