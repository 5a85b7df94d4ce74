/** Promises 14 to 20: known, unknowing, share, bestRule, emptied, count, undo. */
public final class WhatWouldBeTest {
    private static final int INVALID = OnlineRooms.INVALID_ARGUMENT;
    private static final int IMPOSSIBLE = OnlineRooms.NOT_POSSIBLE;
    private static final int MISSING = OnlineRooms.NOT_FOUND;
    private static final int[] FAR = {-1, Integer.MIN_VALUE, Integer.MAX_VALUE};
    private static final Check check = new Check();

    public static void main(String[] args) {
        knownTellsByEachRule();
        knownCountsTalksElsewhere();
        knownFailsByTheRuleThatFails();
        knownRefusesWhatIsOutOfRange();
        unknowingMayBeAboveAndBelow();
        unknowingGoesByTheRuleOfNow();
        shareIsAFloat();
        shareOfNoTalks();
        bestRuleIsTheCheapestThenTheLowest();
        bestRulePassesOverRulesThatFail();
        bestRuleOfNone();
        emptiedFindsTheDearestThenTheLowest();
        emptiedNeedsSizeAndHours();
        emptiedLooksAtOpenRoomsAlone();
        countCounts();
        fewestRoomsDoNotMindSizes();
        countRefusesWhatIsOutOfRange();
        undoGoesFourStatesBack();
        undoRestoresAllButTheText();
        askingIsNoChange();
        check.finish();
    }

    /**
     * Told by rule 2, by which the last talk of size 9 finds room 0 free: price 3. Rules 0 and 3
     * put talk 2 into room 0, so that the last talk opens a room of the price 50.
     */
    private static OnlineRooms smallRoomSaves(int endOfTalk1, int sizeOfTheRest) {
        OnlineRooms x = new OnlineRooms();
        x.room(0, 9, 1);
        x.room(1, 3, 2);
        for (int room = 2; room < 8; room++) {
            x.room(room, sizeOfTheRest, 50);
        }
        x.set(0, 2);
        check.due("talk 0", x.talk(0, 2, 9), 0);
        check.due("talk 1", x.talk(1, endOfTalk1, 1), 1);
        check.due("talk 2", x.talk(4, 6, 1), 1);
        check.due("talk 3", x.talk(5, 7, 9), 0);
        return x;
    }

    private static void knownTellsByEachRule() {
        OnlineRooms x = smallRoomSaves(3, 9);
        int[][] due = {{53, 3, 2}, {3, 2, 0}, {3, 2, 0}, {53, 3, 2}};
        for (int rule = 0; rule < 4; rule++) {
            for (int what = 0; what < 3; what++) {
                check.due("known(" + rule + ", " + what + ")", x.known(rule, what), due[rule][what]);
            }
        }
        check.due("the rule of now stays", x.count(20), 2);
    }

    private static void knownCountsTalksElsewhere() {
        OnlineRooms x = new OnlineRooms();
        x.talk(10, 12, 1);
        x.talk(0, 11, 1);
        x.talk(30, 31, 1);
        check.due("talks 0 and 1 change rooms", x.known(0, 2), 2);
        x.move(2, 1);
        check.due("talk 2 does, too", x.known(0, 2), 3);
        x.anew();
        check.due("nothing changes", x.known(0, 2), 0);
        x.withdraw(1);
        check.due("talk 0 comes back", x.known(0, 2), 1);
        check.due("one room is opened", x.known(0, 1), 1);
    }

    private static void knownFailsByTheRuleThatFails() {
        OnlineRooms x = smallRoomSaves(3, 1);
        for (int what = 0; what < 3; what++) {
            check.due("by rule 0", x.known(0, what), IMPOSSIBLE);
            check.due("by rule 3", x.known(3, what), IMPOSSIBLE);
        }
        check.due("by rule 1", x.known(1, 0), 3);
        check.due("by rule 2", x.known(2, 1), 2);
        check.due("unknowing by rule 2", x.unknowing(), 10000);
        x.set(0, 3);
        check.due("unknowing by rule 3", x.unknowing(), IMPOSSIBLE);
        check.due("share by rule 3", x.share(), IMPOSSIBLE);
        check.due("anew by rule 3", x.anew(), IMPOSSIBLE);
    }

    private static void knownRefusesWhatIsOutOfRange() {
        OnlineRooms x = smallRoomSaves(3, 1);
        check.due("known(4, 0)", x.known(4, 0), INVALID);
        check.due("known(1, 3)", x.known(1, 3), INVALID);
        check.due("out of range ahead of not possible", x.known(0, 3), INVALID);
        for (int far : FAR) {
            check.due("known(" + far + ", 0)", x.known(far, 0), INVALID);
            check.due("known(1, " + far + ")", x.known(1, far), INVALID);
        }
    }

    /** Paid is 10 + dear, the price of telling anew is 10 + dearest: the small talk comes first. */
    private static OnlineRooms paidLess(int dear, int dearest) {
        OnlineRooms x = new OnlineRooms();
        x.room(1, 1, dear);
        x.room(2, 9, dearest);
        for (int room = 3; room < 8; room++) {
            x.room(room, 9, 99);
        }
        check.due("large", x.talk(5, 9, 9), 0);
        check.due("small", x.talk(4, 9, 1), 1);
        return x;
    }

    private static void unknowingMayBeAboveAndBelow() {
        OnlineRooms x = paidLess(20, 70);
        check.due("50 less", x.unknowing(), 9950);
        x.withdraw(0);
        check.due("20 more", x.unknowing(), 10020);
        x.withdraw(1);
        check.due("no talk: all that was paid", x.unknowing(), 10030);
        check.due("a new object", new OnlineRooms().unknowing(), 10000);
    }

    private static void unknowingGoesByTheRuleOfNow() {
        OnlineRooms x = smallRoomSaves(3, 9);
        check.due("by rule 2", x.unknowing(), 10000);
        x.set(0, 0);
        check.due("by rule 0", x.unknowing(), 9950);
        check.due("share by rule 0", x.share(), Float.floatToIntBits(3f / 53f));
    }

    private static void shareIsAFloat() {
        for (int dear = 11; dear < 98; dear++) {
            OnlineRooms x = paidLess(dear, dear + 1);
            check.due("share of " + (10 + dear) + " and " + (11 + dear), x.share(),
                Float.floatToIntBits((float) (10 + dear) / (float) (11 + dear)));
            x.withdraw(0);
            check.due("share of " + (10 + dear) + " and 10", x.share(),
                Float.floatToIntBits((float) (10 + dear) / 10f));
        }
        check.due("1.0", paidLess(50, 50).share(), 0x3f800000);
    }

    private static void shareOfNoTalks() {
        OnlineRooms x = new OnlineRooms();
        check.due("no talk", x.share(), MISSING);
        x.talk(0, 1, 1);
        x.withdraw(0);
        check.due("no talk any more", x.share(), MISSING);
        x.set(0, 1);
        check.due("by rule 1", x.share(), MISSING);
    }

    private static void bestRuleIsTheCheapestThenTheLowest() {
        OnlineRooms x = smallRoomSaves(3, 9);
        check.due("rules 1 and 2", x.bestRule(0), 1);
        check.due("their price", x.bestRule(1), 3);
        OnlineRooms y = smallRoomSaves(2, 9);
        check.due("rule 2 alone", y.bestRule(0), 2);
        check.due("its price", y.bestRule(1), 3);
        y.withdraw(3);
        check.due("all rules", y.bestRule(0), 0);
        check.due("their price", y.bestRule(1), 3);
        y.withdraw(2);
        y.withdraw(1);
        y.withdraw(0);
        check.due("no talk: all rules", y.bestRule(0), 0);
        check.due("no talk: no price", y.bestRule(1), 0);
        check.due("bestRule(2)", y.bestRule(2), INVALID);
        for (int far : FAR) {
            check.due("bestRule(" + far + ")", y.bestRule(far), INVALID);
        }
    }

    private static void bestRulePassesOverRulesThatFail() {
        OnlineRooms x = smallRoomSaves(2, 1);
        check.due("rule 2 alone does not fail", x.bestRule(0), 2);
        check.due("its price", x.bestRule(1), 3);
    }

    private static void bestRuleOfNone() {
        OnlineRooms x = new OnlineRooms();
        for (int room = 1; room < 8; room++) {
            x.room(room, 1, 20);
        }
        x.talk(5, 9, 9);
        x.talk(4, 9, 1);
        check.due("each fails", x.bestRule(0), MISSING);
        check.due("each fails", x.bestRule(1), MISSING);
        check.due("out of range ahead of none", x.bestRule(2), INVALID);
    }

    private static void emptiedFindsTheDearestThenTheLowest() {
        OnlineRooms x = new OnlineRooms();
        x.room(0, 9, 5);
        x.room(1, 9, 7);
        x.room(2, 9, 7);
        x.room(3, 9, 8);
        check.due("talk 0", x.talk(0, 2, 1), 0);
        check.due("talk 1", x.talk(1, 3, 1), 1);
        check.due("talk 2", x.talk(1, 3, 1), 2);
        check.due("talk 3", x.talk(1, 3, 1), 3);
        check.due("talk 4", x.talk(3, 4, 1), 0);
        check.due("all are taken", x.emptied(0), MISSING);
        check.due("all are taken", x.emptied(1), MISSING);
        x.withdraw(3);
        check.due("rooms 0, 1, 2 could be; 3 has no talk", x.emptied(0), 1);
        check.due("talks of room 1", x.emptied(1), 1);
        x.withdraw(1);
        check.due("rooms 0, 2 could be", x.emptied(0), 2);
        x.move(2, 3);
        check.due("rooms 0, 3 could be", x.emptied(0), 3);
        x.withdraw(2);
        check.due("room 0", x.emptied(0), 0);
        check.due("talks of room 0", x.emptied(1), 2);
        x.withdraw(0);
        x.withdraw(4);
        check.due("there is no talk", x.emptied(0), MISSING);
        check.due("emptied(2)", x.emptied(2), INVALID);
        for (int far : FAR) {
            check.due("emptied(" + far + ")", x.emptied(far), INVALID);
        }
        check.due("nothing is moved", x.count(8), 4);
    }

    private static void emptiedNeedsSizeAndHours() {
        OnlineRooms x = new OnlineRooms();
        x.room(0, 9, 20);
        for (int room = 1; room < 8; room++) {
            x.room(room, 3, 30);
        }
        x.talk(0, 2, 4);
        x.talk(0, 2, 1);
        x.talk(2, 4, 3);
        check.due("talk 2 is in room 0", x.talkOf(2, 3), 0);
        x.withdraw(1);
        check.due("talk 0 is too large for room 1", x.emptied(0), MISSING);
        x.talk(1, 5, 1);
        check.due("talk 3 is in room 1", x.talkOf(3, 3), 1);
        check.due("talk 3 finds no hours", x.emptied(0), MISSING);
        x.withdraw(0);
        check.due("hours 2 to 4 are taken", x.emptied(0), MISSING);
        x.withdraw(3);
        check.due("the size is just enough", x.emptied(0), 0);
        x.talk(4, 6, 1);
        x.move(4, 1);
        check.due("of 0 and 1 the dearest", x.emptied(0), 1);
    }

    private static void emptiedLooksAtOpenRoomsAlone() {
        OnlineRooms x = new OnlineRooms();
        x.talk(0, 2, 1);
        check.due("no other room is open", x.emptied(0), MISSING);
        x.talk(0, 2, 1);
        x.withdraw(1);
        check.due("into room 1", x.emptied(0), 0);
        x.close(1);
        check.due("room 1 is closed", x.emptied(0), MISSING);
    }

    private static void countCounts() {
        OnlineRooms x = new OnlineRooms();
        x.room(0, 9, 3);
        x.talk(0, 5, 1);
        x.talk(4, 9, 1);
        x.talk(4, 6, 1);
        x.talk(5, 6, 1);
        x.withdraw(1);
        x.set(0, 2);
        x.type('t');
        x.type(';');
        int[] due = {3, 4, 3, 3, 23, 2, 8, 1, 4, 2};
        for (int what = 0; what < due.length; what++) {
            check.due("count(" + what + ")", x.count(what), due[what]);
        }
        check.due("count(20)", x.count(20), 2);
        x.close(1);
        check.due("open rooms", x.count(2), 2);
        check.due("openings", x.count(3), 3);
        x.anew();
        check.due("openings by anew", x.count(3), 5);
        check.due("paid by anew", x.count(4), 13);
    }

    private static void fewestRoomsDoNotMindSizes() {
        OnlineRooms x = new OnlineRooms();
        x.talk(0, 2, 9);
        check.due("one", x.count(5), 1);
        x.talk(2, 4, 1);
        check.due("one behind the other", x.count(5), 1);
        x.talk(1, 3, 5);
        check.due("two at once", x.count(5), 2);
        x.talk(47, 48, 5);
        x.talk(47, 48, 5);
        x.talk(47, 48, 5);
        check.due("three at the last hour", x.count(5), 3);
        x.withdraw(4);
        check.due("two again", x.count(5), 2);
    }

    private static void countRefusesWhatIsOutOfRange() {
        OnlineRooms x = new OnlineRooms();
        for (int what = 10; what < 20; what++) {
            check.due("count(" + what + ")", x.count(what), INVALID);
        }
        check.due("count(21)", x.count(21), INVALID);
        for (int far : FAR) {
            check.due("count(" + far + ")", x.count(far), INVALID);
        }
    }

    private static void undoGoesFourStatesBack() {
        OnlineRooms x = new OnlineRooms();
        check.due("nothing to undo", x.undo(), IMPOSSIBLE);
        for (int hour = 0; hour < 6; hour++) {
            x.talk(hour, hour + 1, 1);
            check.due("states", x.count(8), Math.min(hour + 1, 4));
        }
        for (int left = 3; left >= 0; left--) {
            check.due("undo", x.undo(), left);
            check.due("talks", x.count(1), left + 2);
            check.due("states", x.count(8), left);
        }
        check.due("nothing more to undo", x.undo(), IMPOSSIBLE);
        x.talk(40, 41, 1);
        check.due("its number", x.at(0, 40), 2);
        check.due("undo it", x.undo(), 0);
        check.due("talks", x.count(1), 2);
        check.due("hour 40", x.at(0, 40), MISSING);
    }

    private static void undoRestoresAllButTheText() {
        OnlineRooms x = new OnlineRooms();
        x.room(2, 3, 4);
        x.set(0, 1);
        x.talk(0, 4, 2);
        x.type('x');
        x.withdraw(0);
        check.due("undo withdraw", x.undo(), 3);
        check.due("withdrawn so far", x.count(7), 0);
        check.due("the talk is there again", x.at(2, 3), 0);
        check.due("its size", x.talkOf(0, 2), 2);
        check.due("the text stays", x.count(9), 1);
        check.due("undo talk", x.undo(), 2);
        check.due("paid", x.count(4), 0);
        check.due("openings", x.count(3), 0);
        check.due("open", x.count(2), 0);
        check.due("hours", x.count(6), 0);
        check.due("undo set", x.undo(), 1);
        check.due("the rule", x.count(20), 0);
        check.due("undo room", x.undo(), 0);
        check.due("size", x.roomOf(2, 0), 9);
        check.due("price", x.roomOf(2, 1), 10);
        check.due("the text stays", x.clearText(), 1);
        x.talk(0, 4, 1);
        x.talk(0, 4, 1);
        x.move(1, 0);
        x.withdraw(0);
        x.move(1, 0);
        x.close(1);
        check.due("undo close", x.undo(), 3);
        check.due("room 1 is open", x.roomOf(1, 2), 1);
        check.due("undo move", x.undo(), 2);
        check.due("talk 1 is in room 1", x.talkOf(1, 3), 1);
        check.due("room 0 is free", x.roomOf(0, 4), 0);
    }

    private static void askingIsNoChange() {
        OnlineRooms x = smallRoomSaves(3, 9);
        x.set(0, 0);
        x.undo();
        for (int what = 0; what < 3; what++) {
            x.known(0, what);
            x.bestRule(what);
            x.emptied(what);
        }
        x.unknowing();
        x.share();
        check.due("states", x.count(8), 3);
        check.due("the rule", x.count(20), 2);
        check.due("paid", x.count(4), 3);
        check.due("openings", x.count(3), 2);
        check.due("talk 2", x.talkOf(2, 3), 1);
    }
}
