/** Promises 9 to 12: talkOf, roomOf, at, hourOf. */
public final class WhatThereIsTest {
    private static final int INVALID = OnlineRooms.INVALID_ARGUMENT;
    private static final int MISSING = OnlineRooms.NOT_FOUND;
    private static final int[] FAR = {-1, Integer.MIN_VALUE, Integer.MAX_VALUE};
    private static final Check check = new Check();

    public static void main(String[] args) {
        talkOfTellsWhatWasTold();
        talkOfTellsWhereElseItCouldBe();
        talkOfTellsTalksBeside();
        talkOfRefusesWhatIsOutOfRange();
        roomOfCountsTalksAndHours();
        roomOfFindsTheLongestFreeRow();
        roomOfRefusesWhatIsOutOfRange();
        atTellsTheTalk();
        atRefusesWhatIsOutOfRange();
        hourOfCountsTalksAndFreeRooms();
        hourOfRefusesWhatIsOutOfRange();
        askingIsNoChange();
        check.finish();
    }

    /** Rooms 0 (size 9), 1 (size 4) and 2 (size 6) are open; 7 is as new and closed. */
    private static OnlineRooms someTalks() {
        OnlineRooms x = new OnlineRooms();
        x.room(0, 9, 1);
        x.room(1, 4, 2);
        x.room(2, 6, 3);
        check.due("talk 0", x.talk(0, 10, 3), 0);
        check.due("talk 1", x.talk(9, 20, 4), 1);
        check.due("talk 2", x.talk(5, 9, 6), 2);
        check.due("talk 3", x.talk(10, 12, 5), 0);
        check.due("talk 4", x.talk(40, 48, 1), 0);
        return x;
    }

    private static void talkOfTellsWhatWasTold() {
        OnlineRooms x = someTalks();
        int[][] told = {{0, 10, 3, 0}, {9, 20, 4, 1}, {5, 9, 6, 2}, {10, 12, 5, 0}, {40, 48, 1, 0}};
        for (int talk = 0; talk < told.length; talk++) {
            for (int what = 0; what < 4; what++) {
                check.due("talkOf(" + talk + ", " + what + ")", x.talkOf(talk, what), told[talk][what]);
            }
        }
    }

    private static void talkOfTellsWhereElseItCouldBe() {
        OnlineRooms x = someTalks();
        check.due("rooms 1 and 2 are taken", x.talkOf(0, 4), 0);
        check.due("room 0 is taken, 2 is free", x.talkOf(1, 4), 1 << 2);
        check.due("room 1 is too small", x.talkOf(2, 4), 0);
        check.due("the size is enough in room 2", x.talkOf(3, 4), 1 << 2);
        check.due("not its own, no closed one", x.talkOf(4, 4), 1 << 1 | 1 << 2);
        x.move(4, 2);
        check.due("its room is another now", x.talkOf(4, 4), 1 | 1 << 1);
        x.withdraw(0);
        check.due("hours 5 to 9 of room 0 are free now", x.talkOf(2, 4), 1);
    }

    private static void talkOfTellsTalksBeside() {
        OnlineRooms x = someTalks();
        check.due("beside talk 0", x.talkOf(0, 5), 1 << 1 | 1 << 2);
        check.due("beside talk 1", x.talkOf(1, 5), 1 | 1 << 3);
        check.due("beside talk 2", x.talkOf(2, 5), 1);
        check.due("beside talk 3", x.talkOf(3, 5), 1 << 1);
        check.due("beside talk 4", x.talkOf(4, 5), 0);
        x.withdraw(1);
        check.due("beside talk 0", x.talkOf(0, 5), 1 << 2);
        x.talk(0, 48, 1);
        check.due("beside talk 5", x.talkOf(5, 5), 1 | 1 << 2 | 1 << 3 | 1 << 4);
    }

    private static void talkOfRefusesWhatIsOutOfRange() {
        OnlineRooms x = someTalks();
        x.withdraw(2);
        for (int what = 0; what < 6; what++) {
            check.due("a withdrawn talk", x.talkOf(2, what), INVALID);
            check.due("a talk that is not told yet", x.talkOf(5, what), INVALID);
            check.due("talk 20", x.talkOf(20, what), INVALID);
            for (int far : FAR) {
                check.due("talk " + far, x.talkOf(far, what), INVALID);
            }
        }
        check.due("talkOf(0, 6)", x.talkOf(0, 6), INVALID);
        for (int far : FAR) {
            check.due("talkOf(0, " + far + ")", x.talkOf(0, far), INVALID);
        }
    }

    private static void roomOfCountsTalksAndHours() {
        OnlineRooms x = someTalks();
        int[][] due = {{9, 1, 1, 3, 20, 1 | 1 << 3 | 1 << 4, 28}, {4, 2, 1, 1, 11, 1 << 1, 28},
            {6, 3, 1, 1, 4, 1 << 2, 39}, {9, 10, 0, 0, 0, 0, 48}};
        for (int room = 0; room < due.length; room++) {
            for (int what = 0; what < 7; what++) {
                check.due("roomOf(" + room + ", " + what + ")", x.roomOf(room, what), due[room][what]);
            }
        }
        x.withdraw(1);
        check.due("open without talks", x.roomOf(1, 2), 1);
        check.due("its talks", x.roomOf(1, 3), 0);
        check.due("its hours", x.roomOf(1, 4), 0);
    }

    private static void roomOfFindsTheLongestFreeRow() {
        OnlineRooms x = new OnlineRooms();
        x.talk(20, 21, 1);
        check.due("behind", x.roomOf(0, 6), 27);
        x.talk(30, 31, 1);
        check.due("ahead", x.roomOf(0, 6), 20);
        x.talk(5, 8, 1);
        check.due("behind the last", x.roomOf(0, 6), 17);
        x.talk(46, 48, 1);
        check.due("between", x.roomOf(0, 6), 15);
        x.talk(35, 36, 1);
        check.due("between others", x.roomOf(0, 6), 12);
        x.talk(0, 48, 1);
        check.due("none", x.roomOf(1, 6), 0);
    }

    private static void roomOfRefusesWhatIsOutOfRange() {
        OnlineRooms x = someTalks();
        for (int what = 0; what < 7; what++) {
            check.due("room 8", x.roomOf(8, what), INVALID);
            for (int far : FAR) {
                check.due("room " + far, x.roomOf(far, what), INVALID);
            }
        }
        check.due("roomOf(0, 7)", x.roomOf(0, 7), INVALID);
        for (int far : FAR) {
            check.due("roomOf(0, " + far + ")", x.roomOf(0, far), INVALID);
        }
    }

    private static void atTellsTheTalk() {
        OnlineRooms x = someTalks();
        check.due("at(0, 0)", x.at(0, 0), 0);
        check.due("at(0, 9)", x.at(0, 9), 0);
        check.due("at(0, 10)", x.at(0, 10), 3);
        check.due("at(0, 11)", x.at(0, 11), 3);
        check.due("at(0, 12)", x.at(0, 12), MISSING);
        check.due("at(0, 39)", x.at(0, 39), MISSING);
        check.due("at(0, 40)", x.at(0, 40), 4);
        check.due("at(0, 47)", x.at(0, 47), 4);
        check.due("at(1, 10)", x.at(1, 10), 1);
        check.due("at(7, 10)", x.at(7, 10), MISSING);
        x.withdraw(0);
        check.due("at(0, 9)", x.at(0, 9), MISSING);
    }

    private static void atRefusesWhatIsOutOfRange() {
        OnlineRooms x = someTalks();
        check.due("at(8, 0)", x.at(8, 0), INVALID);
        check.due("at(0, 48)", x.at(0, 48), INVALID);
        check.due("at(7, 48)", x.at(7, 48), INVALID);
        for (int far : FAR) {
            check.due("at(" + far + ", 0)", x.at(far, 0), INVALID);
            check.due("at(0, " + far + ")", x.at(0, far), INVALID);
        }
    }

    private static void hourOfCountsTalksAndFreeRooms() {
        OnlineRooms x = someTalks();
        int[] hours = {0, 5, 9, 10, 12, 20, 39, 40, 47};
        int[] talks = {1, 2, 2, 2, 1, 0, 0, 1, 1};
        int[] free = {6, 2, 4, 4, 5, 7, 7, 6, 6};
        for (int i = 0; i < hours.length; i++) {
            check.due("hourOf(" + hours[i] + ", 0)", x.hourOf(hours[i], 0), talks[i]);
            check.due("hourOf(" + hours[i] + ", 1)", x.hourOf(hours[i], 1), free[i]);
        }
        x.withdraw(1);
        check.due("one less", x.hourOf(9, 0), 1);
        check.due("room 1 is left open", x.hourOf(9, 1), 6);
        x.close(1);
        check.due("room 1 is closed", x.hourOf(9, 1), 4);
    }

    private static void hourOfRefusesWhatIsOutOfRange() {
        OnlineRooms x = someTalks();
        check.due("hourOf(48, 0)", x.hourOf(48, 0), INVALID);
        check.due("hourOf(48, 1)", x.hourOf(48, 1), INVALID);
        check.due("hourOf(0, 2)", x.hourOf(0, 2), INVALID);
        for (int far : FAR) {
            check.due("hourOf(" + far + ", 0)", x.hourOf(far, 0), INVALID);
            check.due("hourOf(" + far + ", 1)", x.hourOf(far, 1), INVALID);
            check.due("hourOf(0, " + far + ")", x.hourOf(0, far), INVALID);
        }
    }

    private static void askingIsNoChange() {
        OnlineRooms x = new OnlineRooms();
        x.talk(0, 1, 1);
        x.talkOf(0, 4);
        x.roomOf(0, 6);
        x.at(0, 0);
        x.hourOf(0, 1);
        check.due("asking is no change", x.count(8), 1);
    }
}
