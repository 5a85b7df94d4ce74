/** One test for each sentence of "What it is" and "Terms" (talks, rooms) that names a boundary case. */
public final class TermsSentencesTest {
    public static void main(String[] args) {
        Sentences.test(TermsSentencesTest.class);
    }

    @Sentence(of = "What it is", words = "An object is used for at most 512 calls after it has been made")
    static void whatItIsThe512thCallIsAnswered(Check check) {
        Run x = new Run(check);
        for (int times = 0; times < 255; times++) {
            x.due("talk(0, 48, 9) = 0", "undo() = 0");
        }
        x.due("talk(47, 48, 9) = 0", "at(0, 47) = 0");
        check.due("calls so far", x.calls(), 512);
    }

    @Sentence(of = "Terms", words = "Hours are numbered from 0 to 47")
    static void termsHoursFrom0To47(Check check) {
        Run x = new Run(check);
        x.due("talk(0, 1, 1) = 0", "talk(47, 48, 1) = 0");
        x.due("at(0, 0) = 0", "at(0, 47) = 1", "hourOf(0, 0) = 1", "hourOf(47, 0) = 1");
        x.invalid("at(0, %d)", 0, 47).invalid("hourOf(%d, 0)", 0, 47).invalid("hourOf(%d, 1)", 0, 47);
        x.invalid("talk(%d, 48, 1)", 0, 47).invalid("would(%d, 48, 1, 0)", 0, 47);
        x.due("talk(48, 49, 1) = INVALID_ARGUMENT", "would(48, 49, 1, 0) = INVALID_ARGUMENT");
        x.due("talk(-1, 0, 1) = INVALID_ARGUMENT", "would(-1, 0, 1, 0) = INVALID_ARGUMENT");
    }

    @Sentence(of = "Terms", words = "a talk from an hour to another one, 48 at most, takes all hours from the former "
        + "up to, but without, the latter")
    static void termsTalkTakesHoursUpToItsEndButWithoutIt(Check check) {
        Run x = new Run(check);
        x.due("talk(5, 8, 1) = 0", "at(0, 4) = NOT_FOUND", "at(0, 5) = 0", "at(0, 6) = 0", "at(0, 7) = 0");
        x.due("at(0, 8) = NOT_FOUND", "roomOf(0, 4) = 3", "count(6) = 3");
        x.due("hourOf(4, 0) = 0", "hourOf(5, 0) = 1", "hourOf(7, 0) = 1", "hourOf(8, 0) = 0");
        x.due("talk(40, 48, 1) = 0", "at(0, 39) = NOT_FOUND", "at(0, 40) = 1", "at(0, 47) = 1", "roomOf(0, 4) = 11");
        x.due("talk(40, 49, 1) = INVALID_ARGUMENT", "would(40, 49, 1, 0) = INVALID_ARGUMENT");
        x.due("talk(20, 21, 1) = 0", "at(0, 20) = 2", "at(0, 21) = NOT_FOUND", "roomOf(0, 4) = 12");
        x.due("talk(0, 48, 1) = 1", "at(1, 0) = 3", "at(1, 47) = 3", "roomOf(1, 4) = 48");
    }

    @Sentence(of = "Terms", words = "Sets of rooms or talks are told as bits: bit k is for number k.")
    static void termsSetsAreBitsFromTheEmptyToTheFullOne(Check check) {
        Run x = new Run(check);
        x.due("roomOf(0, 5) = 0", "hourOf(0, 1) = 0");
        for (int room = 0; room < 8; room++) {
            x.due(room, "talk(0, 1, 1)").due(1 << room, "roomOf(%d, 5)", room).due((2 << room) - 1, "hourOf(1, 1)");
        }
        x.due("hourOf(0, 1) = 0", "talkOf(0, 4) = 0", "talkOf(0, 5) = 254", "talkOf(7, 5) = 127");
        for (int talk = 0; talk < 8; talk++) {
            x.due(talk, "withdraw(%d)", talk).due((2 << talk) - 1, "hourOf(0, 1)");
        }
        for (int hour = 8; hour < 20; hour++) {
            x.due(0, "talk(%d, %d, 1)", hour, hour + 1);
        }
        x.due((1 << 20) - (1 << 8), "roomOf(0, 5)").due(254, "talkOf(19, 4)");
    }

    @Sentence(of = "Terms", words = "There are at most 20 talks")
    static void termsAtMost20Talks(Check check) {
        Run x = new Run(check);
        for (int talk = 0; talk < 20; talk++) {
            x.due(talk, "count(1)").due(0, "talk(%d, %d, 9)", talk, talk + 1);
        }
        x.due("count(0) = 20", "count(1) = 20", "talk(20, 21, 9) = LIMIT_REACHED", "count(0) = 20", "count(1) = 20");
        x.due("at(0, 19) = 19", "at(0, 20) = NOT_FOUND");
    }

    @Sentence(of = "Terms", words = "numbered from 0 in the order in which they were told")
    static void termsTalksAreNumberedFrom0AsTold(Check check) {
        Run x = new Run(check);
        for (int talk = 0; talk < 20; talk++) {
            x.due(0, "talk(%d, %d, 1)", 47 - talk, 48 - talk).due(talk, "at(0, %d)", 47 - talk);
        }
        x.due("talkOf(0, 0) = 47", "talkOf(19, 0) = 28", "talkOf(20, 0) = INVALID_ARGUMENT");
    }

    @Sentence(of = "Terms", words = "no number comes again: at most 20 ever")
    static void termsNoNumberComesAgain(Check check) {
        Run x = new Run(check);
        x.due("talk(0, 1, 1) = 0", "withdraw(0) = 0", "talk(0, 1, 1) = 0", "at(0, 0) = 1");
        x.due("talkOf(0, 0) = INVALID_ARGUMENT", "anew() = 10", "talk(1, 2, 1) = 0", "at(0, 1) = 2");
        for (int talk = 3; talk < 20; talk++) {
            x.due(0, "talk(%d, %d, 1)", talk, talk + 1);
        }
        for (int talk = 1; talk < 20; talk++) {
            x.due(0, "withdraw(%d)", talk);
        }
        x.due("count(0) = 0", "count(1) = 20", "talk(0, 1, 1) = LIMIT_REACHED", "anew() = 0");
        x.due("talk(0, 1, 1) = LIMIT_REACHED", "count(1) = 20");
    }

    @Sentence(of = "Terms", words = "each with its first hour, its end, and a size (1 to 9)")
    static void termsTalkHasASizeFrom1To9(Check check) {
        Run x = new Run(check);
        x.due("talk(0, 2, 1) = 0", "talk(2, 48, 9) = 0");
        x.due("talkOf(0, 0) = 0", "talkOf(0, 1) = 2", "talkOf(0, 2) = 1");
        x.due("talkOf(1, 0) = 2", "talkOf(1, 1) = 48", "talkOf(1, 2) = 9");
        x.invalid("talk(0, 1, %d)", 1, 9).invalid("would(0, 1, %d, 0)", 1, 9).due("count(1) = 2");
    }

    @Sentence(of = "Terms", words = "There are 8 rooms, numbered from 0")
    static void terms8RoomsFrom0(Check check) {
        Run x = new Run(check);
        for (int room = 0; room < 8; room++) {
            x.due(room, "count(2)").due(room, "talk(0, 48, 9)").due(1, "roomOf(%d, 2)", room);
        }
        x.due("count(2) = 8", "talk(0, 48, 9) = NOT_POSSIBLE", "talk(0, 1, 1) = NOT_POSSIBLE", "count(2) = 8");
        x.invalid("roomOf(%d, 2)", 0, 7).invalid("at(%d, 0)", 0, 7);
    }

    @Sentence(of = "Terms", words = "each with a size (1 to 9; 9 at first)")
    static void termsRoomHasASizeFrom1To9And9AtFirst(Check check) {
        Run x = new Run(check);
        for (int room = 0; room < 8; room++) {
            x.due(9, "roomOf(%d, 0)", room);
        }
        x.due("room(7, 1, 10) = 910", "roomOf(7, 0) = 1", "room(7, 9, 10) = 110", "roomOf(7, 0) = 9");
        x.invalid("room(7, %d, 10)", 1, 9).due("roomOf(7, 0) = 9", "room(7, 9, 10) = 910");
    }

    @Sentence(of = "Terms", words = "and a price (1 to 99; 10 at first)")
    static void termsRoomHasAPriceFrom1To99And10AtFirst(Check check) {
        Run x = new Run(check);
        for (int room = 0; room < 8; room++) {
            x.due(10, "roomOf(%d, 1)", room);
        }
        x.due("room(0, 9, 1) = 910", "roomOf(0, 1) = 1", "room(0, 9, 99) = 901", "roomOf(0, 1) = 99");
        x.invalid("room(0, 9, %d)", 1, 99).due("roomOf(0, 1) = 99", "room(0, 9, 99) = 999");
    }

    @Sentence(of = "Terms", words = "that is paid once when it is opened")
    static void termsPriceIsPaidOnceWhenTheRoomIsOpened(Check check) {
        Run x = new Run(check);
        x.due("room(0, 9, 7) = 910", "count(4) = 0", "talk(0, 1, 1) = 0", "count(4) = 7");
        x.due("talk(1, 2, 1) = 0", "count(4) = 7", "withdraw(0) = 0", "withdraw(1) = 0", "count(4) = 7");
        x.due("talk(0, 1, 1) = 0", "count(4) = 7", "withdraw(2) = 0", "close(0) = 0", "count(4) = 7");
        x.due("talk(0, 1, 1) = 0", "count(4) = 14");
    }

    @Sentence(of = "Terms", words = "A talk can be in a room whose size is at least its own")
    static void termsRoomIsAtLeastAsLargeAsItsTalk(Check check) {
        Run x = new Run(check);
        for (int size = 1; size < 9; size++) {
            x.ask("room(0, %d, 1)", size);
            x.due(0, "would(0, 1, %d, 0)", size).due(1, "would(0, 1, %d, 0)", size + 1);
        }
        x.due("room(0, 5, 1) = 801", "talk(0, 1, 5) = 0", "talk(1, 2, 6) = 1", "talk(2, 3, 5) = 0", "talk(3, 4, 4) = 0");
        x.due("would(4, 5, 5, 0) = 0", "would(4, 5, 6, 0) = 1", "talkOf(1, 4) = 0", "talkOf(2, 4) = 2");
        x.due("move(1, 0) = NOT_POSSIBLE", "move(2, 1) = 0", "talkOf(2, 4) = 1", "move(2, 0) = 1");
        x.due("move(3, 1) = 0", "move(3, 0) = 1");
    }

    @Sentence(of = "Terms", words = "and that is free in all its hours")
    static void termsRoomIsFreeInAllHoursOfItsTalk(Check check) {
        Run x = new Run(check);
        x.due("talk(10, 20, 1) = 0");
        x.due("would(9, 10, 1, 0) = 0", "would(20, 21, 1, 0) = 0", "would(0, 10, 1, 0) = 0", "would(20, 48, 1, 0) = 0");
        x.due("would(9, 11, 1, 0) = 1", "would(19, 21, 1, 0) = 1", "would(10, 11, 1, 0) = 1", "would(19, 20, 1, 0) = 1");
        x.due("would(12, 13, 1, 0) = 1", "would(10, 20, 1, 0) = 1", "would(0, 48, 1, 0) = 1");
        x.due("talk(19, 21, 1) = 1", "move(1, 0) = NOT_POSSIBLE", "talkOf(1, 4) = 0", "talk(20, 22, 1) = 0");
        x.due("withdraw(2) = 0", "withdraw(0) = 0", "talkOf(1, 4) = 1", "move(1, 0) = 1");
    }

    @Sentence(of = "Terms", words = "no other talk of it takes one of them")
    static void termsOnlyTalksOfTheRoomItselfTakeItsHours(Check check) {
        Run x = new Run(check);
        x.due("talk(10, 20, 1) = 0", "talk(10, 20, 1) = 1", "talk(10, 20, 1) = 2", "withdraw(1) = 1");
        x.due("would(10, 20, 1, 0) = 1", "talkOf(0, 4) = 2", "talkOf(2, 4) = 2", "move(2, 1) = 2");
        x.due("would(10, 20, 1, 0) = 2", "talkOf(0, 4) = 4", "talk(0, 48, 1) = 2");
    }

    @Sentence(of = "Terms", words = "A room is opened when it gets its first talk")
    static void termsRoomIsOpenedByItsFirstTalk(Check check) {
        Run x = new Run(check);
        x.due("roomOf(0, 2) = 0", "count(2) = 0", "count(3) = 0", "would(0, 1, 1, 0) = 0", "roomOf(0, 2) = 0");
        x.due("talk(0, 1, 1) = 0", "roomOf(0, 2) = 1", "count(2) = 1", "count(3) = 1");
        x.due("talk(1, 2, 1) = 0", "roomOf(0, 2) = 1", "count(2) = 1", "count(3) = 1", "roomOf(1, 2) = 0");
    }

    @Sentence(of = "Terms", words = "and stays open, whatever is withdrawn")
    static void termsRoomStaysOpenWithoutTalks(Check check) {
        Run x = new Run(check);
        x.due("talk(0, 1, 1) = 0", "talk(0, 1, 1) = 1", "withdraw(0) = 0", "withdraw(1) = 1", "count(0) = 0");
        x.due("roomOf(0, 2) = 1", "roomOf(1, 2) = 1", "count(2) = 2", "hourOf(0, 1) = 3");
        x.due("talk(0, 48, 1) = 0", "talk(0, 48, 1) = 1", "count(3) = 2", "count(4) = 20");
    }

    @Sentence(of = "Terms", words = "its price then is what was paid")
    static void termsPriceOfAnOpenRoomIsWhatWasPaid(Check check) {
        Run x = new Run(check);
        x.due("room(3, 9, 4) = 910", "talk(0, 1, 1) = 3", "roomOf(3, 1) = 4", "room(3, 9, 5) = NOT_POSSIBLE");
        x.due("withdraw(0) = 3", "room(3, 9, 5) = NOT_POSSIBLE", "roomOf(3, 1) = 4", "count(4) = 4");
        x.due("close(3) = 0", "room(3, 9, 5) = 904", "roomOf(3, 1) = 5", "count(4) = 4");
    }
}
