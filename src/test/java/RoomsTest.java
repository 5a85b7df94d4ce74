/** Promises 5 to 8: room, close, anew, set. */
public final class RoomsTest {
    private static final int INVALID = OnlineRooms.INVALID_ARGUMENT;
    private static final int IMPOSSIBLE = OnlineRooms.NOT_POSSIBLE;
    private static final Check check = new Check();

    public static void main(String[] args) {
        roomSetsSizeAndPrice();
        roomRefusesWhatIsOutOfRange();
        roomRefusesAnOpenRoom();
        closeNeedsAnOpenRoomWithoutTalks();
        closedRoomIsPaidAgain();
        anewOrdersByFirstHourThenNumber();
        anewClosesAllOthersAndCountsOpenings();
        anewGoesByTheRuleOfNow();
        anewFailsWhereATalkGetsNoRoom();
        anewOfNoTalks();
        setTellsWhatItWas();
        check.finish();
    }

    private static void roomSetsSizeAndPrice() {
        OnlineRooms x = new OnlineRooms();
        check.due("room(0, 1, 1)", x.room(0, 1, 1), 910);
        check.due("room(0, 9, 99)", x.room(0, 9, 99), 101);
        check.due("room(0, 9, 99) again", x.room(0, 9, 99), 999);
        check.due("room(7, 3, 42)", x.room(7, 3, 42), 910);
        check.due("size of 0", x.roomOf(0, 0), 9);
        check.due("price of 0", x.roomOf(0, 1), 99);
        check.due("size of 7", x.roomOf(7, 0), 3);
        check.due("price of 7", x.roomOf(7, 1), 42);
        check.due("size of 6", x.roomOf(6, 0), 9);
        check.due("not opened", x.count(2), 0);
        check.due("setting what it was is a change, too", x.count(8), 4);
    }

    private static void roomRefusesWhatIsOutOfRange() {
        OnlineRooms x = new OnlineRooms();
        int least = Integer.MIN_VALUE;
        int most = Integer.MAX_VALUE;
        int[][] wrong = {{-1, 1, 1}, {8, 1, 1}, {0, 0, 1}, {0, 10, 1}, {0, 1, 0}, {0, 1, 100}, {0, 1, -5},
            {least, 1, 1}, {most, 1, 1}, {0, least, 1}, {0, most, 1}, {0, 1, least}, {0, 1, most}};
        for (int[] w : wrong) {
            check.due("room(" + w[0] + ", " + w[1] + ", " + w[2] + ")", x.room(w[0], w[1], w[2]), INVALID);
        }
        x.talk(0, 1, 1);
        check.due("out of range ahead of open", x.room(0, 10, 1), INVALID);
        check.due("size of 0", x.roomOf(0, 0), 9);
        check.due("states", x.count(8), 1);
    }

    private static void roomRefusesAnOpenRoom() {
        OnlineRooms x = new OnlineRooms();
        x.talk(0, 1, 1);
        check.due("open", x.room(0, 5, 5), IMPOSSIBLE);
        x.withdraw(0);
        check.due("open without talks", x.room(0, 5, 5), IMPOSSIBLE);
        x.close(0);
        check.due("closed", x.room(0, 5, 5), 910);
    }

    private static void closeNeedsAnOpenRoomWithoutTalks() {
        OnlineRooms x = new OnlineRooms();
        x.talk(0, 2, 1);
        x.talk(0, 2, 1);
        x.talk(1, 2, 1);
        check.due("with a talk", x.close(1), IMPOSSIBLE);
        check.due("not open", x.close(3), IMPOSSIBLE);
        check.due("close(-1)", x.close(-1), INVALID);
        check.due("close(8)", x.close(8), INVALID);
        check.due("close of the least number", x.close(Integer.MIN_VALUE), INVALID);
        check.due("close of the greatest number", x.close(Integer.MAX_VALUE), INVALID);
        x.withdraw(1);
        check.due("close(1)", x.close(1), 2);
        check.due("close(1) again", x.close(1), IMPOSSIBLE);
        check.due("room 1 is closed", x.roomOf(1, 2), 0);
        check.due("nothing is paid back", x.count(4), 30);
        x.withdraw(0);
        x.withdraw(2);
        check.due("close(2)", x.close(2), 1);
        check.due("close(0)", x.close(0), 0);
        check.due("openings", x.count(3), 3);
    }

    private static void closedRoomIsPaidAgain() {
        OnlineRooms x = new OnlineRooms();
        x.talk(0, 2, 1);
        x.withdraw(0);
        x.close(0);
        x.room(0, 9, 3);
        check.due("opened once more", x.talk(0, 2, 1), 0);
        check.due("paid once more", x.count(4), 13);
        check.due("openings", x.count(3), 2);
    }

    private static void anewOrdersByFirstHourThenNumber() {
        OnlineRooms x = new OnlineRooms();
        x.room(0, 2, 10);
        x.room(1, 9, 20);
        for (int room = 2; room < 8; room++) {
            x.room(room, 9, 30);
        }
        check.due("talk 0", x.talk(5, 9, 1), 0);
        check.due("talk 1", x.talk(5, 7, 1), 1);
        check.due("talk 2", x.talk(4, 6, 1), 2);
        check.due("talk 3", x.talk(0, 3, 3), 1);
        check.due("paid", x.count(4), 60);
        // Talk 3 opens room 1; talk 2 gets it, then talk 0 opens room 0, and talk 1 room 2.
        check.due("anew", x.anew(), 60);
        check.due("room of talk 3", x.talkOf(3, 3), 1);
        check.due("room of talk 2", x.talkOf(2, 3), 1);
        check.due("room of talk 0", x.talkOf(0, 3), 0);
        check.due("room of talk 1", x.talkOf(1, 3), 2);
        check.due("hour 4 of room 1", x.at(1, 4), 2);
        check.due("hour 4 of room 2", x.at(2, 4), OnlineRooms.NOT_FOUND);
        x.withdraw(3);
        // Talk 2 opens room 0 now, talk 0 room 1, talk 1 room 2.
        check.due("anew", x.anew(), 60);
        check.due("room of talk 2", x.talkOf(2, 3), 0);
        check.due("room of talk 0", x.talkOf(0, 3), 1);
        check.due("room of talk 1", x.talkOf(1, 3), 2);
    }

    private static void anewClosesAllOthersAndCountsOpenings() {
        OnlineRooms x = new OnlineRooms();
        x.talk(0, 4, 1);
        x.talk(0, 4, 1);
        x.talk(0, 4, 1);
        x.talk(8, 9, 1);
        x.withdraw(0);
        x.withdraw(1);
        x.room(7, 1, 3);
        x.room(6, 1, 3);
        check.due("before", x.count(4), 30);
        check.due("anew", x.anew(), 3);
        check.due("paid", x.count(4), 3);
        check.due("open", x.count(2), 1);
        check.due("openings, by anew, too", x.count(3), 4);
        check.due("talk 2", x.talkOf(2, 3), 6);
        check.due("talk 3", x.talkOf(3, 3), 6);
        check.due("room 0 is closed", x.roomOf(0, 2), 0);
        check.due("room 0 can be set", x.room(0, 1, 1), 910);
        check.due("withdrawn so far", x.count(7), 2);
        check.due("talks so far", x.count(1), 4);
        check.due("undo the room", x.undo(), 3);
        check.due("undo anew", x.undo(), 2);
        check.due("paid as before", x.count(4), 30);
        check.due("openings as before", x.count(3), 3);
        check.due("talk 2 as before", x.talkOf(2, 3), 2);
        check.due("open as before", x.count(2), 3);
    }

    private static void anewGoesByTheRuleOfNow() {
        OnlineRooms x = new OnlineRooms();
        x.talk(0, 4, 1);
        x.talk(2, 8, 1);
        x.talk(10, 12, 1);
        check.due("talk 2 by rule 0", x.talkOf(2, 3), 0);
        check.due("rule 1", x.set(0, 1), 0);
        check.due("anew", x.anew(), 20);
        check.due("talk 2 by rule 1", x.talkOf(2, 3), 1);
        check.due("the rule stays", x.count(20), 1);
    }

    private static void anewFailsWhereATalkGetsNoRoom() {
        OnlineRooms x = largeRoomLost();
        check.due("anew", x.anew(), IMPOSSIBLE);
        check.due("talk 0 stays", x.talkOf(0, 3), 0);
        check.due("talk 1 stays", x.talkOf(1, 3), 1);
        check.due("paid", x.count(4), 11);
        check.due("states", x.count(8), 4);
        check.due("undo", x.undo(), 3);
        check.due("talk 1 is not told yet", x.talkOf(1, 3), INVALID);
    }

    /** The talk of size 9 was told first; in the order of the hours the other one takes its room. */
    private static OnlineRooms largeRoomLost() {
        OnlineRooms x = new OnlineRooms();
        for (int room = 1; room < 8; room++) {
            x.room(room, 1, 10);
        }
        x.room(0, 9, 1);
        check.due("large", x.talk(5, 9, 9), 0);
        check.due("small", x.talk(4, 9, 1), 1);
        return x;
    }

    private static void anewOfNoTalks() {
        OnlineRooms x = new OnlineRooms();
        check.due("anew", x.anew(), 0);
        check.due("it is a change", x.count(8), 1);
        x.talk(0, 1, 1);
        x.withdraw(0);
        check.due("paid", x.count(4), 10);
        check.due("anew", x.anew(), 0);
        check.due("nothing is paid", x.count(4), 0);
        check.due("nothing is open", x.count(2), 0);
        check.due("openings", x.count(3), 1);
    }

    private static void setTellsWhatItWas() {
        OnlineRooms x = new OnlineRooms();
        check.due("set(0, 3)", x.set(0, 3), 0);
        check.due("set(0, 2)", x.set(0, 2), 3);
        check.due("set(0, 2)", x.set(0, 2), 2);
        check.due("set(0, 4)", x.set(0, 4), INVALID);
        check.due("set(0, -1)", x.set(0, -1), INVALID);
        check.due("set(1, 0)", x.set(1, 0), INVALID);
        check.due("set(-1, 0)", x.set(-1, 0), INVALID);
        check.due("set of the least numbers", x.set(Integer.MIN_VALUE, Integer.MIN_VALUE), INVALID);
        check.due("set of the greatest numbers", x.set(Integer.MAX_VALUE, Integer.MAX_VALUE), INVALID);
        check.due("the rule", x.count(20), 2);
        check.due("setting what it was is a change, too", x.count(8), 3);
        check.due("set(0, 0)", x.set(0, 0), 2);
    }
}
