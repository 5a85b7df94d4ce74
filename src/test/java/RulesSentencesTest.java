/** One test for each sentence of "Rules", "All at once" and "Settings" that names a boundary case. */
public final class RulesSentencesTest {
    public static void main(String[] args) {
        Sentences.test(RulesSentencesTest.class);
    }

    @Sentence(of = "Rules", words = "When a talk is told, it gets a room at once by the rule of now (setting 0)")
    static void rulesTalkGoesByTheRuleOfNow(Check check) {
        Run x = new Run(check);
        x.due("room(0, 9, 1) = 910", "room(1, 9, 2) = 910", "room(2, 3, 3) = 910", "room(3, 9, 4) = 910");
        for (int room = 0; room < 4; room++) {
            x.due(room, "talk(0, 2, 1)");
        }
        // Room 1 gets the least gap ahead of hour 30, room 2 has the least size, room 3 the most hours.
        x.due("talk(29, 30, 1) = 0", "move(4, 1) = 0", "talk(31, 40, 1) = 0", "move(5, 3) = 0");
        for (int rule = 0; rule < 4; rule++) {
            x.due(rule, "would(30, 31, 1, %d)", rule);
        }
        x.due("talk(30, 31, 1) = 0", "undo() = 3", "set(0, 1) = 0", "talk(30, 31, 1) = 1", "undo() = 3");
        x.due("set(0, 2) = 1", "talk(30, 31, 1) = 2", "undo() = 3", "set(0, 3) = 2", "talk(30, 31, 1) = 3");
    }

    @Sentence(of = "Rules", words = "of all rooms in which it can be: 0: the lowest one that is open")
    static void rules0LowestOpenFromRoom0ToRoom7(Check check) {
        Run x = new Run(check);
        for (int room = 0; room < 8; room++) {
            x.due(room, "talk(0, 1, 1)");
        }
        for (int room = 0; room < 8; room++) {
            x.due(room, "would(1, 2, 1, 0)").due(room, "talk(1, 2, 1)");
        }
        x.due("would(1, 2, 1, 0) = NOT_FOUND", "withdraw(11) = 3", "withdraw(13) = 5", "would(1, 2, 1, 0) = 3");
        Run y = new Run(check);
        y.due("room(0, 2, 1) = 910", "talk(0, 1, 2) = 0", "talk(0, 1, 9) = 1", "would(1, 2, 2, 0) = 0");
        y.due("would(1, 2, 3, 0) = 1");
    }

    @Sentence(of = "Rules", words = "1: of the open ones the one with the least gap ahead of it")
    static void rules1LeastGapDownToNone(Check check) {
        Run x = new Run(check);
        x.due("talk(0, 4, 1) = 0", "talk(2, 5, 1) = 1", "talk(3, 7, 1) = 2");
        x.due("would(4, 5, 1, 1) = 0", "would(5, 6, 1, 1) = 1", "would(6, 7, 1, 1) = 1", "would(7, 8, 1, 1) = 2");
        x.due("would(47, 48, 1, 1) = 2", "would(0, 2, 1, 1) = 1", "would(0, 48, 1, 1) = 3");
    }

    @Sentence(of = "Rules", words = "how many hours from the end of the latest earlier talk of the room")
    static void rules1GapIsFromTheLatestEarlierTalk(Check check) {
        Run x = new Run(check);
        x.due("talk(0, 10, 1) = 0", "talk(0, 18, 1) = 1", "talk(20, 22, 1) = 0");
        x.due("would(30, 31, 1, 1) = 0", "would(18, 19, 1, 1) = 1", "would(19, 20, 1, 1) = 1");
        // Told as the last of room 1, but ahead of its talk 25 to 28 by the hours.
        x.due("talk(25, 28, 1) = 0", "move(3, 1) = 0", "talk(19, 20, 1) = 0", "move(4, 1) = 0");
        x.due("would(30, 31, 1, 1) = 1", "would(23, 24, 1, 1) = 0", "would(28, 48, 1, 1) = 1");
        x.due("withdraw(3) = 1", "would(30, 31, 1, 1) = 0");
    }

    @Sentence(of = "Rules", words = "or from the hour 0 if there is none, to its first hour")
    static void rules1GapIsFromHour0IfNoTalkIsEarlier(Check check) {
        Run x = new Run(check);
        x.due("talk(0, 2, 1) = 0", "talk(0, 3, 1) = 1", "withdraw(0) = 0");
        x.due("would(5, 6, 1, 1) = 1", "would(0, 1, 1, 1) = 0", "would(47, 48, 1, 1) = 1");
        x.due("talk(40, 41, 1) = 0", "would(5, 6, 1, 1) = 1", "would(0, 1, 1, 1) = 0", "would(47, 48, 1, 1) = 0");
        x.due("withdraw(1) = 1", "would(5, 6, 1, 1) = 0", "would(40, 41, 1, 1) = 1", "would(41, 42, 1, 1) = 0");
        x.due("withdraw(2) = 0", "would(0, 48, 1, 1) = 0", "would(47, 48, 1, 1) = 0");
        // An hour less than from the hour 0.
        Run y = new Run(check).due("talk(0, 2, 1) = 0", "talk(0, 1, 1) = 1", "withdraw(0) = 0", "would(1, 2, 1, 1) = 1");
        y.due("would(5, 6, 1, 1) = 1", "would(47, 48, 1, 1) = 1");
    }

    @Sentence(of = "Rules", words = "2: of the open ones the one with the least size")
    static void rules2LeastSizeFrom1To9(Check check) {
        Run x = new Run(check);
        x.due("room(0, 9, 1) = 910", "room(1, 2, 2) = 910", "room(2, 1, 3) = 910", "room(3, 8, 4) = 910");
        x.due("room(4, 1, 1) = 910", "talk(0, 1, 2) = 0", "talk(0, 1, 2) = 1", "talk(0, 1, 3) = 3");
        x.due("room(4, 1, 99) = 101", "talk(0, 1, 1) = 2");
        x.due("would(1, 2, 1, 2) = 2", "would(1, 2, 2, 2) = 1", "would(1, 2, 3, 2) = 3", "would(1, 2, 8, 2) = 3");
        x.due("would(1, 2, 9, 2) = 0", "set(0, 2) = 0", "talk(1, 2, 1) = 2", "talk(1, 2, 1) = 1", "talk(1, 2, 1) = 3");
        x.due("talk(1, 2, 1) = 0", "would(1, 2, 1, 2) = 5");
    }

    @Sentence(of = "Rules", words = "3: of the open ones the one in which most hours are taken already")
    static void rules3MostHoursFromNoneToAllButOne(Check check) {
        Run x = new Run(check);
        x.due("talk(0, 1, 1) = 0", "talk(0, 1, 1) = 1", "withdraw(0) = 0", "would(5, 6, 1, 3) = 1");
        // Hours behind the talk count as well; how many talks there are does not.
        x.due("talk(41, 48, 1) = 0", "would(5, 6, 1, 3) = 0", "talk(1, 2, 1) = 0", "talk(3, 4, 1) = 0");
        x.due("withdraw(2) = 0", "would(5, 6, 1, 3) = 0", "talk(9, 48, 1) = 0", "move(5, 1) = 0");
        x.due("talk(10, 11, 1) = 0", "roomOf(0, 3) = 3", "roomOf(1, 3) = 2", "would(5, 6, 1, 3) = 1");
        x.due("talk(1, 8, 1) = 1", "roomOf(1, 4) = 47", "would(8, 9, 1, 3) = 1", "talk(8, 9, 1) = 0");
        x.due("roomOf(0, 4) = 4", "would(8, 9, 1, 3) = 1", "move(8, 1) = 0", "would(8, 9, 1, 3) = 0");
    }

    @Sentence(of = "Rules", words = "of several the lowest.")
    static void rulesOfSeveralEqualOnesTheLowest(Check check) {
        Run x = new Run(check);
        for (int room = 0; room < 8; room++) {
            x.due(room, "talk(0, 2, 1)");
        }
        for (int room = 0; room < 8; room++) {
            for (int rule = 0; rule < 4; rule++) {
                x.due(room, "would(2, 3, 1, %d)", rule);
            }
            x.due(room, "talk(2, 3, 1)");
        }
        for (int rule = 0; rule < 4; rule++) {
            x.due(0, "would(3, 4, 1, %d)", rule);
        }
    }

    @Sentence(of = "Rules", words = "If it can be in none that is open, it gets of those that are not open the one with "
        + "the lowest price")
    static void rulesClosedRoomWithTheLowestPriceFrom1To99(Check check) {
        Run x = new Run(check);
        for (int room = 0; room < 8; room++) {
            x.due(910, "room(%d, 9, %d)", room, 99);
        }
        x.due("room(7, 9, 98) = 999", "would(0, 1, 1, 0) = 7", "room(5, 8, 2) = 999", "would(0, 1, 1, 1) = 5");
        x.due("room(6, 9, 1) = 999", "would(0, 1, 1, 2) = 6", "room(1, 4, 1) = 999", "would(0, 1, 5, 3) = 6");
        x.due("talk(0, 1, 5) = 6");
        // An open one in which it can be goes ahead of one that costs as little.
        for (int rule = 0; rule < 4; rule++) {
            x.due(6, "would(1, 2, 1, %d)", rule).due(1, "would(0, 2, 1, %d)", rule).due(5, "would(0, 2, 5, %d)", rule)
                .due(7, "would(0, 2, 9, %d)", rule);
        }
    }

    @Sentence(of = "Rules", words = "of several the one with the least size")
    static void rulesOfSeveralPricesTheLeastSize(Check check) {
        Run x = new Run(check);
        x.due("room(4, 3, 10) = 910", "room(6, 2, 10) = 910", "room(7, 1, 11) = 910", "room(5, 8, 10) = 910");
        x.due("would(0, 1, 1, 0) = 6", "would(0, 1, 2, 0) = 6", "would(0, 1, 3, 1) = 4", "would(0, 1, 4, 2) = 5");
        x.due("would(0, 1, 8, 0) = 5", "would(0, 1, 9, 3) = 0", "room(7, 1, 10) = 111", "would(0, 1, 1, 0) = 7");
        x.due("room(2, 9, 9) = 910", "would(0, 1, 1, 0) = 2");
    }

    @Sentence(of = "Rules", words = "of these the lowest, which is opened")
    static void rulesOfSeveralSizesTheLowestWhichIsOpened(Check check) {
        Run x = new Run(check);
        x.due("room(3, 4, 5) = 910", "room(5, 4, 5) = 910", "room(7, 4, 5) = 910");
        x.due("talk(0, 1, 4) = 3", "roomOf(3, 2) = 1", "roomOf(5, 2) = 0", "count(2) = 1", "count(4) = 5");
        x.due("talk(0, 1, 4) = 5", "talk(0, 1, 4) = 7", "talk(0, 1, 4) = 0", "talk(0, 1, 4) = 1", "talk(0, 1, 4) = 2");
        x.due("talk(0, 1, 4) = 4", "talk(0, 1, 4) = 6", "count(2) = 8", "count(3) = 8", "count(4) = 65");
    }

    @Sentence(of = "Rules", words = "If there is none, the talk cannot be told.")
    static void rulesTalkWithoutARoomCannotBeTold(Check check) {
        Run x = new Run(check);
        for (int room = 0; room < 8; room++) {
            x.due(910, "room(%d, 8, 10)", room);
        }
        x.due("talk(0, 1, 9) = NOT_POSSIBLE", "count(1) = 0", "count(2) = 0", "talk(0, 1, 8) = 0");
        for (int room = 1; room < 8; room++) {
            x.due(room, "talk(0, 1, 1)");
        }
        for (int rule = 0; rule < 4; rule++) {
            x.ask("set(0, %d)", rule);
            x.due("talk(0, 1, 1) = NOT_POSSIBLE", "talk(0, 48, 1) = NOT_POSSIBLE", "talk(1, 2, 9) = NOT_POSSIBLE");
        }
        x.due("count(1) = 8", "talk(1, 2, 8) = 0", "count(1) = 9");
    }

    @Sentence(of = "All at once", words = "The fewest rooms for talks that are known at once")
    static void allAtOnceFewestRoomsFromNoneTo8(Check check) {
        Run x = new Run(check);
        x.due("count(5) = 0", "talk(0, 1, 1) = 0", "count(5) = 1", "withdraw(0) = 0", "count(5) = 0");
        for (int talks = 1; talks <= 8; talks++) {
            x.due(talks - 1, "talk(47, 48, 1)").due(talks, "count(5)");
        }
        x.due("withdraw(4) = 3", "count(5) = 7");
    }

    @Sentence(of = "All at once", words = "if sizes did not matter")
    static void allAtOnceFewestRoomsDoNotMindSizes(Check check) {
        Run x = new Run(check);
        x.due("room(1, 1, 1) = 910", "talk(0, 2, 1) = 1", "talk(2, 4, 9) = 0", "count(2) = 2", "count(5) = 1");
        x.due("talk(1, 3, 9) = 2", "count(2) = 3", "count(5) = 2");
    }

    @Sentence(of = "All at once", words = "as many as the greatest number of talks that take the same hour")
    static void allAtOnceFewestRoomsAreTalksOfTheSameHour(Check check) {
        Run x = new Run(check);
        x.due("talk(0, 5, 1) = 0", "talk(5, 9, 1) = 0", "count(5) = 1", "talk(4, 5, 1) = 1", "count(5) = 2");
        x.due("talk(5, 6, 1) = 1", "count(5) = 2", "talk(8, 48, 1) = 1", "count(5) = 2", "talk(0, 1, 1) = 1");
        x.due("count(5) = 2", "talk(0, 9, 1) = 2", "count(5) = 3", "withdraw(6) = 2", "count(5) = 2");
    }

    @Sentence(of = "All at once", words = "By telling anew in order, all talks that there are get rooms one by one")
    static void allAtOnceTalksThatThereAreFromNoneTo20(Check check) {
        Run x = new Run(check);
        x.due("known(0, 0) = 0", "known(0, 1) = 0", "known(0, 2) = 0");
        x.due("talk(0, 5, 1) = 0", "talk(0, 5, 1) = 1", "known(0, 1) = 2", "withdraw(0) = 0");
        x.due("known(0, 0) = 10", "known(0, 1) = 1", "known(0, 2) = 1", "withdraw(1) = 1");
        x.due("known(0, 0) = 0", "known(0, 1) = 0", "known(0, 2) = 0", "anew() = 0");
        Run y = new Run(check);
        for (int talk = 0; talk < 20; talk++) {
            y.due(0, "talk(%d, %d, 1)", talk, talk + 1);
        }
        y.due("room(1, 9, 1) = 910", "known(0, 0) = 1", "known(0, 1) = 1", "known(0, 2) = 20");
    }

    @Sentence(of = "All at once", words = "as if nothing had been told before, with all rooms closed")
    static void allAtOnceRoomsThatWereOpenAreClosedFirst(Check check) {
        Run x = new Run(check);
        x.due("talk(0, 5, 1) = 0", "room(1, 9, 3) = 910", "known(0, 0) = 3", "known(0, 1) = 1", "known(0, 2) = 1");
        x.due("talk(4, 6, 1) = 1", "withdraw(0) = 0", "known(0, 0) = 3", "known(0, 1) = 1", "known(0, 2) = 0");
        x.due("withdraw(1) = 1", "known(0, 0) = 0", "count(2) = 2", "known(0, 1) = 0");
    }

    @Sentence(of = "All at once", words = "in the order of their first hours, of these in that of their numbers")
    static void allAtOnceInTheOrderOfFirstHoursThenNumbers(Check check) {
        Run x = new Run(check);
        x.due("room(0, 9, 1) = 910", "room(1, 9, 2) = 910", "room(2, 9, 3) = 910");
        x.due("talk(5, 9, 1) = 0", "talk(5, 6, 1) = 1", "talk(4, 6, 1) = 2", "known(0, 2) = 3", "anew() = 6");
        x.due("talkOf(2, 3) = 0", "talkOf(0, 3) = 1", "talkOf(1, 3) = 2", "known(0, 2) = 0");
        Run y = new Run(check);
        y.due("talk(47, 48, 1) = 0", "talk(47, 48, 1) = 1", "talk(46, 48, 1) = 2", "talk(0, 48, 1) = 3", "anew() = 40");
        y.due("talkOf(3, 3) = 0", "talkOf(2, 3) = 1", "talkOf(0, 3) = 2", "talkOf(1, 3) = 3");
    }

    @Sentence(of = "All at once", words = "the price of that is what would be paid")
    static void allAtOncePriceIsWhatAnewPays(Check check) {
        Run x = new Run(check);
        x.due("known(0, 0) = 0", "anew() = 0", "room(0, 9, 99) = 910", "room(1, 9, 1) = 910");
        for (int room = 2; room < 8; room++) {
            x.due(910, "room(%d, 9, %d)", room, 99);
        }
        x.due("talk(0, 48, 1) = 1", "known(0, 0) = 1");
        for (int room = 0; room < 8; room++) {
            if (room != 1) {
                x.due(room, "talk(0, 48, 1)");
            }
        }
        x.due(7 * 99 + 1, "known(0, 0)").due(7 * 99 + 1, "anew()").due(7 * 99 + 1, "count(4)");
    }

    @Sentence(of = "All at once", words = "The price of not knowing is what was paid so far, less that.")
    static void allAtOncePriceOfNotKnowingAboveAndBelow0(Check check) {
        Run x = new Run(check);
        x.due("unknowing() = 10000", "room(1, 1, 20) = 910", "room(2, 9, 70) = 910");
        for (int room = 3; room < 8; room++) {
            x.due(910, "room(%d, 9, %d)", room, 99);
        }
        x.due("talk(5, 9, 9) = 0", "unknowing() = 10000", "talk(4, 9, 1) = 1", "count(4) = 30", "known(0, 0) = 80");
        x.due("unknowing() = 9950", "withdraw(0) = 0", "unknowing() = 10020", "withdraw(1) = 1", "unknowing() = 10030");
    }

    @Sentence(of = "Settings", words = "0 rule (0 to 3; 0)")
    static void settingsRuleFrom0To3And0AtFirst(Check check) {
        Run x = new Run(check);
        x.due("count(20) = 0", "set(0, 0) = 0", "set(0, 3) = 0", "count(20) = 3", "set(0, 0) = 3", "count(20) = 0");
        x.invalid("set(0, %d)", 0, 3).invalid("set(%d, 1)", 0, 0).due("count(20) = 0", "count(8) = 3");
    }
}
