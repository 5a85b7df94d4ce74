/** One test for each sentence of promises 14 to 20 (what would be) that names a boundary case. */
public final class WhatWouldBeSentencesTest {
    public static void main(String[] args) {
        Sentences.test(WhatWouldBeSentencesTest.class);
    }

    /** The small talk would take the room of the large one, so that telling anew is not possible by any rule. */
    private static Run anewFails(Check check) {
        Run x = new Run(check);
        for (int room = 1; room < 8; room++) {
            x.due(910, "room(%d, 1, 20)", room);
        }
        return x.due("talk(5, 9, 9) = 0", "talk(4, 9, 1) = 1");
    }

    /**
     * Told by rule 2, by which talk 3 finds room 0 free; rules 0 and 3 would put talk 2 there, and rule 1, too,
     * if talk 1 ends at hour 2 already. The rooms from 2 on are of the size and the price that are told.
     */
    private static Run smallRoomSaves(Check check, int endOfTalk1, int size, int price) {
        Run x = new Run(check).due("room(0, 9, 1) = 910", "room(1, 3, 2) = 910");
        for (int room = 2; room < 8; room++) {
            x.due(910, "room(%d, %d, %d)", room, size, price);
        }
        x.due("set(0, 2) = 0", "talk(0, 2, 9) = 0").due(1, "talk(1, %d, 1)", endOfTalk1);
        return x.due("talk(4, 6, 1) = 1", "talk(5, 7, 9) = 0");
    }

    @Sentence(of = "Promise 14", words = "Tells about telling all talks anew in order, by a rule.")
    static void promise14TellsByARuleThatIsNotTheOneOfNow(Check check) {
        Run x = smallRoomSaves(check, 3, 9, 50);
        x.due("known(0, 0) = 53", "known(1, 0) = 3", "known(2, 0) = 3", "known(3, 0) = 53", "count(20) = 2");
        x.due("count(8) = 4", "count(3) = 2", "count(4) = 3", "talkOf(2, 3) = 1", "set(0, 0) = 2", "known(2, 0) = 3");
    }

    @Sentence(of = "Promise 14", words = "`rule`: 0 to 3")
    static void promise14RuleFrom0To3(Check check) {
        Run x = new Run(check).due("talk(0, 1, 1) = 0", "known(0, 0) = 10", "known(1, 0) = 10", "known(2, 0) = 10");
        x.due("known(3, 0) = 10").invalid("known(%d, 0)", 0, 3).invalid("known(%d, 2)", 0, 3);
    }

    @Sentence(of = "Promise 14", words = "0: the price")
    static void promise14PriceFrom0To8Rooms(Check check) {
        Run x = new Run(check).due("known(0, 0) = 0", "known(3, 0) = 0");
        for (int room = 0; room < 8; room++) {
            x.due(910, "room(%d, 9, 99)", room);
        }
        for (int room = 0; room < 8; room++) {
            x.due(room, "talk(0, 48, 9)").due(99 * (room + 1), "known(0, 0)").due(99 * (room + 1), "known(3, 0)");
        }
    }

    @Sentence(of = "Promise 14", words = "1: how many rooms are opened")
    static void promise14RoomsFromNoneTo8(Check check) {
        Run x = new Run(check).due("known(0, 1) = 0");
        for (int room = 0; room < 8; room++) {
            x.due(room, "talk(0, 48, 9)").due(room + 1, "known(0, 1)").due(room + 1, "known(2, 1)");
        }
        for (int talk = 0; talk < 8; talk++) {
            x.due(talk, "withdraw(%d)", talk).due(7 - talk, "known(1, 1)").due(8, "count(2)");
        }
    }

    @Sentence(of = "Promise 14", words = "2: how many talks get other rooms than they have")
    static void promise14OtherRoomsFromNoneToAll20(Check check) {
        Run x = new Run(check).due("known(0, 2) = 0");
        for (int talk = 0; talk < 20; talk++) {
            x.due(0, "talk(%d, %d, 1)", talk, talk + 1).due(0, "known(0, 2)");
        }
        x.due("room(7, 9, 1) = 910", "known(0, 2) = 20", "known(3, 2) = 20", "withdraw(5) = 0", "known(0, 2) = 19");
        x.due("anew() = 1", "known(0, 2) = 0");
        Run y = smallRoomSaves(check, 3, 9, 50).due("known(0, 2) = 2", "known(1, 2) = 0", "known(2, 2) = 0");
        y.due("known(3, 2) = 2");
    }

    @Sentence(of = "Promise 14", words = "INVALID_ARGUMENT if an argument is out of range")
    static void promise14InvalidArgumentIfOneIsOutOfRange(Check check) {
        Run x = new Run(check).invalid("known(%d, 0)", 0, 3).invalid("known(0, %d)", 0, 2);
        x.due("known(4, 3) = INVALID_ARGUMENT", "known(-1, -1) = INVALID_ARGUMENT");
        anewFails(check).invalid("known(%d, 0)", 0, 3).invalid("known(0, %d)", 0, 2);
    }

    @Sentence(of = "Promise 14", words = "NOT_POSSIBLE if some talk would get no room")
    static void promise14NotPossibleByTheRuleThatFailsAlone(Check check) {
        Run x = smallRoomSaves(check, 3, 1, 50);
        for (int what = 0; what < 3; what++) {
            x.due(-1000002, "known(0, %d)", what).due(-1000002, "known(3, %d)", what);
        }
        x.due("known(1, 0) = 3", "known(1, 1) = 2", "known(1, 2) = 0", "known(2, 0) = 3", "known(2, 2) = 0");
        anewFails(check).due("known(0, 0) = NOT_POSSIBLE", "known(1, 1) = NOT_POSSIBLE", "known(2, 2) = NOT_POSSIBLE")
            .due("known(3, 0) = NOT_POSSIBLE", "withdraw(0) = 0", "known(0, 0) = 10", "count(4) = 30");
    }

    @Sentence(of = "Promise 15", words = "Returns the price of not knowing, by the rule of now.")
    static void promise15GoesByTheRuleOfNow(Check check) {
        Run x = smallRoomSaves(check, 3, 9, 50).due("unknowing() = 10000", "set(0, 0) = 2", "unknowing() = 9950");
        x.due("set(0, 1) = 0", "unknowing() = 10000", "set(0, 3) = 1", "unknowing() = 9950", "count(20) = 3");
    }

    @Sentence(of = "Promise 15", words = "Returns it plus 10000 (it may be below 0)")
    static void promise15MayBeAtAboveAndBelow0(Check check) {
        Run x = new Run(check).due("unknowing() = 10000", "talk(0, 1, 1) = 0", "unknowing() = 10000", "talk(0, 1, 1) = 1");
        x.due("withdraw(1) = 1", "unknowing() = 10010", "withdraw(0) = 0", "unknowing() = 10020", "anew() = 0");
        x.due("unknowing() = 10000");
        smallRoomSaves(check, 3, 9, 99).due("set(0, 0) = 2", "unknowing() = 9901");
    }

    @Sentence(of = "Promise 15", words = "NOT_POSSIBLE if some talk would get no room by telling anew")
    static void promise15NotPossibleIfSomeTalkWouldGetNoRoom(Check check) {
        anewFails(check).due("unknowing() = NOT_POSSIBLE", "withdraw(1) = 1", "unknowing() = 10020");
        Run x = smallRoomSaves(check, 3, 1, 50).due("unknowing() = 10000", "set(0, 0) = 2", "unknowing() = NOT_POSSIBLE");
        x.due("set(0, 3) = 0", "unknowing() = NOT_POSSIBLE", "set(0, 1) = 3", "unknowing() = 10000");
    }

    @Sentence(of = "Promise 16", words = "what was paid so far, as a float, divided by the price of telling anew, as a float")
    static void promise16DividesAsFloats(Check check) {
        for (int dear = 1; dear <= 99; dear += 7) {
            for (int cheap = 1; cheap <= dear; cheap += 11) {
                Run x = new Run(check).due(910, "room(0, 9, %d)", cheap).due(910, "room(1, 9, %d)", dear);
                for (int room = 2; room < 8; room++) {
                    x.due(910, "room(%d, 9, 99)", room);
                }
                x.due("talk(0, 1, 1) = 0", "talk(0, 1, 1) = 1", "withdraw(1) = 1");
                x.due(Float.floatToIntBits((float) (cheap + dear) / (float) cheap), "share()");
            }
        }
    }

    @Sentence(of = "Promise 16", words = "Returns the bits of the float")
    static void promise16BitsBelow1AndOf1AndFarAbove(Check check) {
        new Run(check).due("talk(0, 1, 1) = 0").due(0x3f800000, "share()");
        new Run(check).due("talk(0, 1, 1) = 0", "talk(0, 1, 1) = 1", "withdraw(0) = 0").due(0x40000000, "share()");
        for (int price = 2; price <= 99; price++) {
            // Paid is 3; by rule 0 it would be the price more.
            smallRoomSaves(check, 3, 9, price).due("set(0, 0) = 2")
                .due(Float.floatToIntBits(3f / (3f + price)), "share()").due(3 + price, "known(0, 0)");
        }
        Run x = new Run(check);
        int paid = 1;
        for (int talk = 0; talk < 19; talk++) {
            x.due(talk == 0 ? 910 : 999, "room(0, 9, 99)");
            for (int room = 1; room < 8 && talk == 0; room++) {
                x.due(910, "room(%d, 9, 99)", room);
            }
            x.due(0, "talk(0, 1, 1)").due(0, "withdraw(%d)", talk).due(0, "close(0)");
            paid += 99;
        }
        x.due("room(0, 9, 1) = 999", "talk(0, 1, 1) = 0").due(paid, "count(4)");
        x.due(Float.floatToIntBits(paid), "share()");
    }

    @Sentence(of = "Promise 16", words = "NOT_POSSIBLE if some talk would get no room by telling anew")
    static void promise16NotPossibleIfSomeTalkWouldGetNoRoom(Check check) {
        anewFails(check).due("share() = NOT_POSSIBLE", "withdraw(1) = 1").due(0x40400000, "share()");
        Run x = smallRoomSaves(check, 3, 1, 50).due(0x3f800000, "share()").due("set(0, 0) = 2", "share() = NOT_POSSIBLE");
        x.due("set(0, 3) = 0", "share() = NOT_POSSIBLE", "set(0, 1) = 3").due(0x3f800000, "share()");
    }

    @Sentence(of = "Promise 16", words = "NOT_FOUND if there is no talk")
    static void promise16NotFoundWithoutATalk(Check check) {
        Run x = new Run(check).due("share() = NOT_FOUND", "talk(0, 1, 1) = 0").due(0x3f800000, "share()");
        x.due("withdraw(0) = 0", "share() = NOT_FOUND", "count(4) = 10", "anew() = 0", "share() = NOT_FOUND");
    }

    /** Told by a rule that pays 50 less than each of the others would. */
    private static Run oneRuleSaves(Check check, int rule, int[][] rooms, int[][] talks) {
        Run x = new Run(check);
        for (int room = 0; room < 8; room++) {
            int size = room < rooms.length ? rooms[room][0] : 9;
            int price = room < rooms.length ? rooms[room][1] : 50;
            x.due(910, "room(%d, %d, %d)", room, size, price);
        }
        x.due(0, "set(0, %d)", rule);
        for (int[] talk : talks) {
            x.due(talk[3], "talk(%d, %d, %d)", talk[0], talk[1], talk[2]);
        }
        return x;
    }

    @Sentence(of = "Promise 17", words = "Finds the rule by which telling all talks anew would be cheapest.")
    static void promise17CheapestRuleFrom0To3(Check check) {
        int[][] rooms0 = {{9, 1}, {4, 2}, {4, 3}};
        int[][] talks0 = {{1, 2, 9, 0}, {1, 3, 3, 1}, {3, 5, 4, 0}, {4, 9, 1, 1}, {5, 8, 8, 0}};
        Run x = oneRuleSaves(check, 0, rooms0, talks0).due("known(0, 0) = 3", "known(1, 0) = 53", "known(2, 0) = 53");
        x.due("known(3, 0) = 53", "bestRule(0) = 0", "bestRule(1) = 3", "set(0, 3) = 0", "bestRule(0) = 0");
        int[][] rooms1 = {{6, 1}, {7, 2}, {6, 3}};
        int[][] talks1 = {{2, 3, 5, 0}, {3, 4, 9, 3}, {5, 8, 2, 3}, {7, 10, 7, 1}, {9, 11, 9, 3}};
        x = oneRuleSaves(check, 1, rooms1, talks1).due("known(0, 0) = 101", "known(1, 0) = 53", "known(2, 0) = 101");
        x.due("known(3, 0) = 101", "bestRule(0) = 1", "bestRule(1) = 53", "set(0, 0) = 1", "bestRule(0) = 1");
        int[][] rooms2 = {{9, 1}, {4, 2}, {7, 3}};
        int[][] talks2 = {{1, 4, 8, 0}, {2, 3, 4, 1}, {4, 6, 3, 1}, {4, 8, 8, 0}};
        x = oneRuleSaves(check, 2, rooms2, talks2).due("known(0, 0) = 53", "known(1, 0) = 53", "known(2, 0) = 3");
        x.due("known(3, 0) = 53", "bestRule(0) = 2", "bestRule(1) = 3", "set(0, 1) = 2", "bestRule(0) = 2");
        int[][] rooms3 = {{6, 1}, {9, 2}, {6, 3}};
        int[][] talks3 = {{2, 5, 8, 1}, {4, 5, 1, 0}, {6, 9, 3, 1}, {8, 10, 2, 0}, {9, 11, 8, 1}};
        x = oneRuleSaves(check, 3, rooms3, talks3).due("known(0, 0) = 53", "known(1, 0) = 53", "known(2, 0) = 53");
        x.due("known(3, 0) = 3", "bestRule(0) = 3", "bestRule(1) = 3", "set(0, 2) = 3", "bestRule(0) = 3");
    }

    @Sentence(of = "Promise 17", words = "0: the rule, of several the lowest")
    static void promise17OfSeveralTheLowestRule(Check check) {
        Run x = new Run(check).due("bestRule(0) = 0", "talk(0, 1, 1) = 0", "bestRule(0) = 0", "set(0, 3) = 0");
        x.due("bestRule(0) = 0", "count(20) = 3");
        smallRoomSaves(check, 3, 9, 50).due("known(0, 0) = 53", "known(1, 0) = 3", "known(2, 0) = 3", "bestRule(0) = 1");
        smallRoomSaves(check, 3, 1, 50).due("known(0, 0) = NOT_POSSIBLE", "bestRule(0) = 1", "bestRule(1) = 3");
    }

    @Sentence(of = "Promise 17", words = "1: the price")
    static void promise17PriceFrom0(Check check) {
        Run x = new Run(check).due("bestRule(1) = 0", "talk(0, 1, 1) = 0", "bestRule(1) = 10", "withdraw(0) = 0");
        x.due("bestRule(1) = 0");
        smallRoomSaves(check, 3, 9, 50).due("bestRule(1) = 3");
        smallRoomSaves(check, 2, 9, 99).due("bestRule(1) = 3", "set(0, 1) = 2", "bestRule(1) = 3");
    }

    @Sentence(of = "Promise 17", words = "INVALID_ARGUMENT if what is out of range")
    static void promise17InvalidArgumentIfWhatIsOutOfRange(Check check) {
        new Run(check).invalid("bestRule(%d)", 0, 1).due("talk(0, 1, 1) = 0").invalid("bestRule(%d)", 0, 1);
        anewFails(check).invalid("bestRule(%d)", 0, 1);
    }

    @Sentence(of = "Promise 17", words = "NOT_FOUND if by each rule some talk would get no room")
    static void promise17NotFoundIfEachRuleFails(Check check) {
        anewFails(check).due("bestRule(0) = NOT_FOUND", "bestRule(1) = NOT_FOUND", "withdraw(1) = 1", "bestRule(0) = 0")
            .due("bestRule(1) = 10");
        // Only rule 2 does not fail here.
        smallRoomSaves(check, 2, 1, 50).due("known(0, 0) = NOT_POSSIBLE", "known(1, 0) = NOT_POSSIBLE")
            .due("known(3, 0) = NOT_POSSIBLE", "bestRule(0) = 2", "bestRule(1) = 3");
    }

    /** Room 2 has talks of hours 0, 5 and 10, room 0 has one of hour 5, room 1 one of hour 0; 2 is the dearest. */
    private static Run threeRooms(Check check) {
        Run x = new Run(check).due("room(0, 9, 1) = 910", "room(1, 9, 2) = 910", "room(2, 9, 3) = 910");
        x.due("talk(0, 12, 1) = 0", "talk(0, 12, 1) = 1", "talk(0, 2, 1) = 2", "talk(5, 7, 1) = 2", "talk(10, 12, 1) = 2");
        x.due("withdraw(0) = 0", "withdraw(1) = 1", "talk(5, 7, 1) = 0", "talk(0, 2, 1) = 0", "move(6, 1) = 0");
        return x.due("roomOf(0, 5) = 32", "roomOf(1, 5) = 64", "roomOf(2, 5) = 28");
    }

    @Sentence(of = "Promise 18", words = "Finds the open room that could be emptied by moving its talks, one by one by their "
        + "numbers, to the lowest other open room in which each can be then.")
    static void promise18EachTalkFindsAnotherOpenRoom(Check check) {
        Run x = threeRooms(check).due("emptied(0) = 2", "emptied(1) = 3", "talkOf(2, 3) = 2", "talkOf(4, 3) = 2");
        // The first, the second and the last of its talks find none.
        threeRooms(check).due("talk(1, 3, 1) = 0", "emptied(0) = NOT_FOUND");
        threeRooms(check).due("talk(6, 8, 1) = 1", "emptied(0) = NOT_FOUND");
        threeRooms(check).due("talk(10, 13, 1) = 0", "emptied(0) = 2", "talk(11, 14, 1) = 1", "emptied(0) = NOT_FOUND");
        // Closed rooms do not help, open ones without talks do.
        x.due("withdraw(5) = 0", "withdraw(6) = 1", "close(0) = 2", "emptied(0) = 2", "close(1) = 1");
        x.due("emptied(0) = NOT_FOUND");
        for (int empty = 0; empty < 8; empty++) {
            Run y = new Run(check);
            for (int room = 0; room < 8; room++) {
                y.due(room, "talk(5, 9, 1)");
            }
            y.due("emptied(0) = NOT_FOUND").due(empty, "withdraw(%d)", empty).due(empty == 0 ? 1 : 0, "emptied(0)");
        }
        Run z = new Run(check).due("talk(0, 4, 1) = 0", "talk(3, 6, 1) = 1", "talk(3, 6, 1) = 2", "withdraw(1) = 1");
        z.due("talk(4, 8, 9) = 0", "emptied(0) = 0", "emptied(1) = 2", "withdraw(2) = 2", "emptied(0) = 0");
        z.due("close(1) = 2", "emptied(0) = 0", "close(2) = 1", "emptied(0) = NOT_FOUND");
    }

    @Sentence(of = "Promise 18", words = "0: the room with the greatest price of these, of several the lowest")
    static void promise18GreatestPriceFrom1To99ThenTheLowest(Check check) {
        Run x = new Run(check).due("room(0, 9, 1) = 910", "room(1, 9, 98) = 910", "room(2, 9, 98) = 910");
        x.due("room(3, 9, 99) = 910");
        for (int room = 4; room < 8; room++) {
            x.due(910, "room(%d, 9, 99)", room);
        }
        x.due("talk(0, 1, 1) = 0", "talk(0, 2, 1) = 1", "talk(0, 2, 1) = 2", "talk(0, 2, 1) = 3", "talk(0, 2, 1) = 4");
        x.due("emptied(0) = NOT_FOUND", "withdraw(4) = 4", "emptied(0) = 3", "withdraw(3) = 3", "emptied(0) = 1");
        x.due("withdraw(1) = 1", "emptied(0) = 2", "withdraw(2) = 2", "emptied(0) = 0", "withdraw(0) = 0");
        x.due("emptied(0) = NOT_FOUND", "talk(0, 1, 1) = 0", "move(5, 4) = 0", "talk(2, 3, 1) = 0", "move(6, 3) = 0");
        x.due("emptied(0) = 3", "withdraw(6) = 3", "emptied(0) = 4");
    }

    @Sentence(of = "Promise 18", words = "1: how many talks it has")
    static void promise18TalksFrom1To20(Check check) {
        Run x = new Run(check).due("talk(0, 1, 1) = 0", "talk(0, 1, 1) = 1", "withdraw(1) = 1", "emptied(1) = 1");
        for (int talk = 2; talk < 20; talk++) {
            x.due(0, "talk(%d, %d, 1)", talk, talk + 1).due(talk, "emptied(1)").due(0, "emptied(0)");
        }
        x.due("move(0, 1) = 0", "emptied(0) = 0", "emptied(1) = 18");
    }

    @Sentence(of = "Promise 18", words = "INVALID_ARGUMENT if what is out of range")
    static void promise18InvalidArgumentIfWhatIsOutOfRange(Check check) {
        Run x = new Run(check).invalid("emptied(%d)", 0, 1).due("talk(0, 1, 1) = 0", "talk(0, 1, 1) = 1");
        x.invalid("emptied(%d)", 0, 1).due("withdraw(0) = 0", "emptied(0) = 1").invalid("emptied(%d)", 0, 1);
    }

    @Sentence(of = "Promise 18", words = "NOT_FOUND if there is none (rooms without talks do not count)")
    static void promise18NotFoundIfThereIsNone(Check check) {
        Run x = new Run(check).due("emptied(0) = NOT_FOUND", "emptied(1) = NOT_FOUND", "talk(0, 2, 1) = 0");
        x.due("emptied(0) = NOT_FOUND", "talk(1, 3, 1) = 1", "emptied(0) = NOT_FOUND", "withdraw(0) = 0");
        x.due("emptied(0) = 1", "withdraw(1) = 1", "emptied(0) = NOT_FOUND", "emptied(1) = NOT_FOUND", "count(2) = 2");
        // Size 9 does not fit into the other open room, and closed ones do not count.
        Run y = new Run(check).due("room(1, 8, 10) = 910", "talk(0, 2, 9) = 0", "talk(0, 2, 8) = 1", "withdraw(1) = 1");
        y.due("emptied(0) = NOT_FOUND", "withdraw(0) = 0", "talk(0, 2, 8) = 0", "emptied(0) = 0", "close(1) = 1");
        y.due("emptied(0) = NOT_FOUND");
    }

    @Sentence(of = "Promise 19", words = "0: talks")
    static void promise19TalksFromNoneTo20(Check check) {
        Run x = new Run(check).due("count(0) = 0");
        for (int talk = 0; talk < 20; talk++) {
            x.due(0, "talk(%d, %d, 1)", talk, talk + 1).due(talk + 1, "count(0)");
        }
        x.due("talk(30, 31, 1) = LIMIT_REACHED", "count(0) = 20");
        for (int talk = 0; talk < 20; talk++) {
            x.due(0, "withdraw(%d)", talk).due(19 - talk, "count(0)");
        }
    }

    @Sentence(of = "Promise 19", words = "1: talks so far")
    static void promise19TalksSoFarFromNoneTo20(Check check) {
        Run x = new Run(check).due("count(1) = 0");
        for (int talk = 0; talk < 20; talk++) {
            x.due(0, "talk(0, 1, 1)").due(talk + 1, "count(1)").due(0, "withdraw(%d)", talk).due(talk + 1, "count(1)");
        }
        x.due("talk(0, 1, 1) = LIMIT_REACHED", "count(1) = 20", "anew() = 0", "count(1) = 20", "undo() = 3", "undo() = 2");
        x.due("count(1) = 20", "undo() = 1", "count(1) = 19");
    }

    @Sentence(of = "Promise 19", words = "2: open rooms")
    static void promise19OpenRoomsFromNoneTo8(Check check) {
        Run x = new Run(check).due("count(2) = 0");
        for (int room = 0; room < 8; room++) {
            x.due(room, "talk(0, 1, 1)").due(room + 1, "count(2)");
        }
        for (int room = 0; room < 8; room++) {
            x.due(room, "withdraw(%d)", room).due(8 - room, "count(2)").due(7 - room, "close(%d)", room);
        }
        x.due("count(2) = 0");
    }

    @Sentence(of = "Promise 19", words = "3: how often a room was opened so far (by anew(), too)")
    static void promise19OpeningsOfTheSameRoomAndByAnew(Check check) {
        Run x = new Run(check).due("count(3) = 0", "anew() = 0", "count(3) = 0", "talk(0, 1, 1) = 0", "count(3) = 1");
        x.due("talk(1, 2, 1) = 0", "count(3) = 1", "talk(0, 1, 1) = 1", "count(3) = 2", "withdraw(2) = 1", "close(1) = 1");
        x.due("count(3) = 2", "talk(0, 1, 1) = 1", "count(3) = 3", "anew() = 20", "count(3) = 5", "anew() = 20");
        x.due("count(3) = 7", "undo() = 3", "count(3) = 5", "known(0, 1) = 2", "count(3) = 5");
    }

    @Sentence(of = "Promise 19", words = "4: what was paid so far")
    static void promise19PaidSoFarFrom0(Check check) {
        Run x = new Run(check).due("count(4) = 0", "room(0, 9, 1) = 910", "talk(0, 1, 1) = 0", "count(4) = 1");
        x.due("talk(0, 1, 1) = 1", "count(4) = 11", "withdraw(1) = 1", "close(1) = 1", "count(4) = 11");
        x.due("talk(0, 1, 1) = 1", "count(4) = 21", "anew() = 11", "count(4) = 11", "undo() = 3", "count(4) = 21");
    }

    @Sentence(of = "Promise 19", words = "5: the fewest rooms")
    static void promise19FewestRoomsFromNoneTo8(Check check) {
        Run x = new Run(check).due("count(5) = 0");
        for (int room = 0; room < 8; room++) {
            x.due(room, "talk(%d, %d, 1)", room, 2 * room + 8 > 48 ? 48 : 2 * room + 8).due(room + 1, "count(5)");
        }
        for (int talk = 0; talk < 8; talk++) {
            x.due(talk, "withdraw(%d)", talk).due(7 - talk, "count(5)");
        }
    }

    @Sentence(of = "Promise 19", words = "6: hours taken in all rooms")
    static void promise19HoursFromNoneTo384(Check check) {
        Run x = new Run(check).due("count(6) = 0");
        for (int room = 0; room < 8; room++) {
            x.due(room, "talk(0, 48, 1)").due(48 * (room + 1), "count(6)");
        }
        x.due("withdraw(7) = 7", "count(6) = 336", "talk(47, 48, 1) = 7", "count(6) = 337");
    }

    @Sentence(of = "Promise 19", words = "7: talks that were withdrawn so far")
    static void promise19WithdrawnFromNoneTo20(Check check) {
        Run x = new Run(check).due("count(7) = 0");
        for (int talk = 0; talk < 20; talk++) {
            x.due(0, "talk(0, 48, 9)").due(talk, "count(7)").due(0, "withdraw(%d)", talk).due(talk + 1, "count(7)");
        }
        x.due("withdraw(19) = INVALID_ARGUMENT", "count(7) = 20", "undo() = 3", "count(7) = 19", "anew() = 10");
        x.due("count(7) = 19");
    }

    @Sentence(of = "Promise 19", words = "8: states in the history")
    static void promise19StatesFromNoneTo4(Check check) {
        Run x = new Run(check).due("count(8) = 0");
        for (int times = 1; times <= 9; times++) {
            x.due("set(0, 0) = 0").due(Math.min(times, 4), "count(8)");
        }
        for (int left = 3; left >= 0; left--) {
            x.due(left, "undo()").due(left, "count(8)");
        }
        x.due("undo() = NOT_POSSIBLE", "count(8) = 0");
    }

    @Sentence(of = "Promise 19", words = "9: the length of the text")
    static void promise19LengthFrom0To60(Check check) {
        Run x = new Run(check).due("count(9) = 0");
        for (int length = 1; length <= 60; length++) {
            x.due(length, "type(32)").due(length, "count(9)");
        }
        x.due("type(32) = LIMIT_REACHED", "count(9) = 60", "clearText() = 60", "count(9) = 0");
    }

    @Sentence(of = "Promise 19", words = "20: the setting 0")
    static void promise19SettingFrom0To3(Check check) {
        Run x = new Run(check).due("count(20) = 0", "set(0, 3) = 0", "count(20) = 3", "set(0, 1) = 3", "count(20) = 1");
        x.due("set(0, 4) = INVALID_ARGUMENT", "count(20) = 1", "undo() = 1", "count(20) = 3", "undo() = 0", "count(20) = 0");
    }

    @Sentence(of = "Promise 19", words = "INVALID_ARGUMENT if what is out of range")
    static void promise19InvalidArgumentBesideAndBetweenTheNumbers(Check check) {
        Run x = new Run(check).invalid("count(%d)", 0, 20);
        for (int what = 10; what < 20; what++) {
            x.due(-1000001, "count(%d)", what);
        }
        x.due("count(-1) = INVALID_ARGUMENT", "count(21) = INVALID_ARGUMENT");
    }

    @Sentence(of = "Promise 20", words = "Restores the latest state of the history, which is removed from it.")
    static void promise20RestoresTheLatestStateAndRemovesIt(Check check) {
        Run x = new Run(check).due("set(0, 1) = 0", "set(0, 2) = 1", "undo() = 1", "count(20) = 1", "set(0, 3) = 1");
        x.due("undo() = 1", "count(20) = 1", "undo() = 0", "count(20) = 0", "undo() = NOT_POSSIBLE", "count(20) = 0");
        Run y = new Run(check);
        for (int room = 0; room < 8; room++) {
            y.due(room, "talk(0, 48, 1)");
        }
        y.due("undo() = 3", "talkOf(7, 3) = INVALID_ARGUMENT", "roomOf(7, 2) = 0", "count(4) = 70", "talk(5, 6, 1) = 7");
        y.due("talkOf(7, 0) = 5", "undo() = 3", "undo() = 2", "undo() = 1", "undo() = 0", "count(0) = 4");
        y.due("roomOf(3, 5) = 8", "roomOf(4, 2) = 0", "undo() = NOT_POSSIBLE");
    }

    @Sentence(of = "Promise 20", words = "Returns the number of states that are left in the history")
    static void promise20ReturnsStatesLeftFrom3To0(Check check) {
        Run x = new Run(check).due("set(0, 1) = 0", "undo() = 0");
        for (int times = 0; times < 20; times++) {
            x.due(times % 4, "set(0, %d)", (times + 1) % 4);
        }
        x.due("undo() = 3", "undo() = 2", "undo() = 1", "undo() = 0", "count(20) = 0", "undo() = NOT_POSSIBLE");
    }

    @Sentence(of = "Promise 20", words = "NOT_POSSIBLE if it is empty")
    static void promise20NotPossibleIfTheHistoryIsEmpty(Check check) {
        Run x = new Run(check).due("undo() = NOT_POSSIBLE", "talk(0, 1, 0) = INVALID_ARGUMENT", "undo() = NOT_POSSIBLE");
        x.write("u1;").due("undo() = NOT_POSSIBLE", "count(9) = 3", "talk(0, 1, 1) = 0", "undo() = 0", "count(1) = 0");
        x.due("undo() = NOT_POSSIBLE", "undo() = NOT_POSSIBLE", "count(8) = 0", "talk(0, 1, 1) = 0", "count(8) = 1");
    }
}
