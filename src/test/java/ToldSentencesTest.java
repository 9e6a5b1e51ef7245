/** Boundary cases of promises 17 to 23: what is told, and the check. */
public final class ToldSentencesTest {
    private static final int NONE = Halls.NONE;

    public static void main(String[] args) {
        Sentences.runAll(ToldSentencesTest.class);
    }

    // ---- Promise 17: tell

    @Holds(promise = 17, sentence = "A resident is told a hospital")
    static void tellTheFirstAndTheLast() {
        MatchHall hall = Halls.of("5 - - - - 0", "5 - - - - 0");
        hall.tell(0, 5);
        hall.tell(5, 0);
        hall.work();
        Due.is("which()", hall.which(), 0);
    }

    @Holds(promise = 17, sentence = "A resident is told a hospital")
    static void tellAgainChangesIt() {
        MatchHall hall = Halls.two();
        hall.tell(0, 0);
        hall.tell(1, 0);
        hall.tell(1, 1);
        Due.is("which()", hall.which(), 0);
        hall.tell(1, 1);
        Due.is("which() after the same again", hall.which(), 0);
    }

    @Holds(promise = 17, sentence = "A resident is told a hospital")
    static void tellTakesAHospitalThatIsNoPair() {
        MatchHall hall = Halls.of("- -", "- -");
        Due.passes("tell(0, 1)", () -> hall.tell(0, 1));
        Due.passes("tell(1, 1)", () -> hall.tell(1, 1));
        Due.is("fits()", hall.fits(), 0);
    }

    @Holds(promise = 17, sentence = "A resident is told a hospital")
    static void whatIsToldStaysWhenTheWorkIsGone() {
        MatchHall hall = Halls.two();
        hall.take(1);
        hall.seats(0, 2);
        Due.is("blocks() after seats()", hall.blocks(), 1);
        hall.seats(0, 1);
        hall.forget(0, 0);
        Due.is("fits() after forget()", hall.fits(), 0);
        hall.prefer(0, 0, 0);
        hall.prefer(0, 0, 1);
        Due.is("fits() after prefer()", hall.fits(), 1);
        hall.work();
        Due.is("which() after work()", hall.which(), 1);
    }

    @Holds(promise = 17, sentence = "NONE: no one.")
    static void tellNone() {
        MatchHall hall = Halls.two();
        hall.take(0);
        Due.passes("tell(1, NONE)", () -> hall.tell(1, NONE));
        Due.is("which()", hall.which(), NONE);
        Due.is("blocked by", Halls.blockingPairs(hall), "8 9");
        Due.passes("tell(0, NONE)", () -> hall.tell(0, NONE));
        Due.is("blocked by, when nobody is told", Halls.blockingPairs(hall), "0 1 8 9");
    }

    @Holds(promise = 17, sentence = "IndexOutOfBoundsException when there is no such resident")
    static void tellRefusesNoSuchResident() {
        MatchHall hall = Halls.of("- -", "- - - -");
        for (int resident : Halls.outside(0, 1)) {
            Due.throwsIndex("tell(" + resident + ", 0)", () -> hall.tell(resident, 0));
            Due.throwsIndex("tell(" + resident + ", NONE)", () -> hall.tell(resident, NONE));
            Due.throwsIndex("tell(" + resident + ", 9)", () -> hall.tell(resident, 9));
        }
        hall.make(6, 1);
        Due.throwsIndex("tell(6, 0) of six", () -> hall.tell(6, 0));
    }

    @Holds(promise = 17, sentence = "or no such hospital")
    static void tellRefusesNoSuchHospital() {
        MatchHall hall = Halls.of("- - - -", "- -");
        for (int hospital : Halls.outside(-1, 1)) {
            Due.throwsIndex("tell(0, " + hospital + ")", () -> hall.tell(0, hospital));
            Due.throwsIndex("tell(3, " + hospital + ")", () -> hall.tell(3, hospital));
        }
        hall.make(1, 6);
        Due.throwsIndex("tell(0, 6) of six", () -> hall.tell(0, 6));
    }

    // ---- Promise 18: take

    @Holds(promise = 18, sentence = "What is told becomes a stable matching.")
    static void takeTheFirstAndTheLast() {
        MatchHall hall = Halls.triangle();
        Due.passes("take(47)", () -> hall.take(47));
        Due.is("which()", hall.which(), 47);
        Due.is("blocks()", hall.blocks(), 0);
        Due.passes("take(0)", () -> hall.take(0));
        Due.is("which() then", hall.which(), 0);
    }

    @Holds(promise = 18, sentence = "What is told becomes a stable matching.")
    static void takeReplacesAllThatWasTold() {
        MatchHall hall = Halls.oneLeftOut();
        Halls.tellAll(hall, "222");
        hall.take(1);
        Due.is("fits()", hall.fits(), 1);
        Due.is("which()", hall.which(), 1);
    }

    @Holds(promise = 18, sentence = "What is told becomes a stable matching.")
    static void takeOfNobody() {
        MatchHall hall = Halls.nobodyListsBack();
        Halls.tellAll(hall, "01");
        hall.take(0);
        Due.is("which()", hall.which(), 0);
        Due.is("fits()", hall.fits(), 1);
    }

    @Holds(promise = 18, sentence = "What is told becomes a stable matching.")
    static void tellAfterTakeLeavesTheMatchingItself() {
        MatchHall hall = Halls.two();
        hall.take(0);
        hall.tell(0, NONE);
        Due.is("matchings", Halls.matchings(hall, 2), "01 10");
        hall.take(0);
        Due.is("which() of it again", hall.which(), 0);
    }

    @Holds(promise = 18, sentence = "IndexOutOfBoundsException when there is none such.")
    static void takeRefusesNoSuchMatching() {
        MatchHall hall = Halls.two();
        for (int matching : Halls.outside(0, 1)) {
            Due.throwsIndex("take(" + matching + ")", () -> hall.take(matching));
        }
        MatchHall most = Halls.triangle();
        Due.throwsIndex("take(48)", () -> most.take(48));
    }

    @Holds(promise = 18, sentence = "IndexOutOfBoundsException when there is none such.")
    static void takeRefusesWhatIsNotWorkedOut() {
        MatchHall hall = Halls.of("01 10", "10 01");
        Due.throwsIndex("take(0) before work()", () -> hall.take(0));
        hall.work();
        hall.seats(0, 1);
        Due.throwsIndex("take(0) when it is gone", () -> hall.take(0));
        Due.throwsIndex("take(1) when it is gone", () -> hall.take(1));
    }

    // ---- Promise 19: fits

    @Holds(promise = 19, sentence = "Whether what is told is a matching: 1, else 0.")
    static void nobodyToldFits() {
        Due.is("of a new object", new MatchHall().fits(), 1);
        Due.is("of six by six without lists", Halls.of("- - - - - -", "- - - - - -").fits(), 1);
    }

    @Holds(promise = 19, sentence = "Whether what is told is a matching: 1, else 0.")
    static void fullSeatsFitAndOneMoreDoesNot() {
        MatchHall hall = Halls.of("0 0 0 0", "3210");
        hall.seats(0, 3);
        Halls.tellAll(hall, "0-00");
        Due.is("three in three seats", hall.fits(), 1);
        hall.tell(1, 0);
        Due.is("four in three seats", hall.fits(), 0);
        hall.tell(1, NONE);
        hall.seats(0, 2);
        Due.is("three in two seats", hall.fits(), 0);
        hall.tell(2, NONE);
        Due.is("two in two seats", hall.fits(), 1);
    }

    @Holds(promise = 19, sentence = "Whether what is told is a matching: 1, else 0.")
    static void whomOnlyOneListsDoesNotFit() {
        MatchHall resident = Halls.of("0", "-");
        resident.tell(0, 0);
        Due.is("the resident alone lists", resident.fits(), 0);
        MatchHall hospital = Halls.of("-", "0");
        hospital.tell(0, 0);
        Due.is("the hospital alone lists", hospital.fits(), 0);
        hospital.prefer(0, 0, 0);
        Due.is("both list", hospital.fits(), 1);
    }

    @Holds(promise = 19, sentence = "Whether what is told is a matching: 1, else 0.")
    static void theLastResidentCountsToo() {
        MatchHall hall = Halls.of("0 1 2 3 4 5", "0 1 2 3 4 -");
        Halls.tellAll(hall, "01234-");
        Due.is("without the last", hall.fits(), 1);
        hall.tell(5, 5);
        Due.is("with the last, which is no pair", hall.fits(), 0);
    }

    @Holds(promise = 19, sentence = "Whether what is told is a matching: 1, else 0.")
    static void fitsWithoutWork() {
        MatchHall hall = Halls.of("01 10", "10 01");
        Halls.tellAll(hall, "01");
        Due.is("fits() before work()", hall.fits(), 1);
        Halls.tellAll(hall, "00");
        Due.is("fits() of two in one seat", hall.fits(), 0);
    }

    // ---- Promise 20: blocks

    @Holds(promise = 20, sentence = "How many pairs block what is told")
    static void blocksOfTheLeastAndTheMost() {
        MatchHall hall = Halls.triangle();
        Due.is("all pairs, when nobody is told", hall.blocks(), 36);
        hall.take(0);
        Due.is("a stable one", hall.blocks(), 0);
        Due.is("nobody told, no lists", new MatchHall().blocks(), 0);
    }

    @Holds(promise = 20, sentence = "How many pairs block what is told")
    static void blocksWithoutWork() {
        MatchHall hall = Halls.of("01 10", "10 01");
        Due.is("nobody told", hall.blocks(), 4);
        Halls.tellAll(hall, "10");
        Due.is("a stable one", hall.blocks(), 0);
    }

    @Holds(promise = 20, sentence = "NONE when it is no matching.")
    static void blocksRefusesWhatIsNoMatching() {
        MatchHall hall = Halls.of("01 10 -", "10 01 -");
        Halls.tellAll(hall, "00-");
        Due.is("two in one seat", hall.blocks(), NONE);
        Halls.tellAll(hall, "2--");
        Due.is("one that is no pair", hall.blocks(), NONE);
        Halls.tellAll(hall, "01-");
        hall.forget(1, 1);
        Due.is("one that is no pair any more", hall.blocks(), NONE);
        hall.tell(1, NONE);
        Due.is("a matching again", hall.blocks(), 1);
    }

    // ---- Promise 21: blocking

    @Holds(promise = 21, sentence = "Pair i that blocks what is told, by residents, then by hospitals: 8 times the resident, and the hospital.")
    static void blockingOfAllPairs() {
        MatchHall hall = Halls.triangle();
        for (int i = 0; i < 36; i++) {
            Due.is("blocking(" + i + ")", hall.blocking(i), 8 * (i / 6) + i % 6);
        }
        Due.is("blocking(36)", hall.blocking(36), NONE);
    }

    @Holds(promise = 21, sentence = "by residents, then by hospitals: 8 times the resident, and the hospital")
    static void blockingIsNotInTheOrderOfTheLists() {
        MatchHall hall = Halls.of("210", "0 0 0");
        Due.is("blocked by", Halls.blockingPairs(hall), "0 1 2");
        MatchHall others = Halls.of("0 0 0", "210");
        Due.is("blocked by the others", Halls.blockingPairs(others), "0 8 16");
    }

    @Holds(promise = 21, sentence = "NONE when there is none such")
    static void blockingRefusesNoSuchPair() {
        MatchHall hall = Halls.of("01 10", "10 01");
        for (int i : Halls.outside(0, 3)) {
            Due.is("blocking(" + i + ") of four", hall.blocking(i), NONE);
        }
        Halls.tellAll(hall, "01");
        for (int i = -1; i <= 1; i++) {
            Due.is("blocking(" + i + ") of a stable one", hall.blocking(i), NONE);
        }
        Due.is("blocking(0) of a new object", new MatchHall().blocking(0), NONE);
    }

    @Holds(promise = 21, sentence = "or what is told is no matching")
    static void blockingRefusesWhatIsNoMatching() {
        MatchHall hall = Halls.of("01 10 01", "10 01 -");
        Halls.tellAll(hall, "00-");
        Due.is("two in one seat", hall.blocking(0), NONE);
        Halls.tellAll(hall, "--2");
        Due.is("one that is no pair", hall.blocking(0), NONE);
        Halls.tellAll(hall, "---");
        Due.is("a matching again", hall.blocking(0), 0);
    }

    // ---- Promise 22: which

    @Holds(promise = 22, sentence = "The number of the stable matching that is told")
    static void whichTellsEachNumber() {
        MatchHall hall = Halls.triangle();
        for (int matching = 0; matching < 48; matching++) {
            hall.take(matching);
            Due.is("which() of " + matching, hall.which(), matching);
        }
    }

    @Holds(promise = 22, sentence = "The number of the stable matching that is told")
    static void whichOfOneThatWasToldByOne() {
        MatchHall hall = Halls.oneLeftOut();
        Halls.tellAll(hall, "10-");
        Due.is("which()", hall.which(), 1);
        Due.is("nobody told and nobody seated", Halls.nobodyListsBack().which(), 0);
    }

    @Holds(promise = 22, sentence = "NONE when it is none")
    static void whichRefusesWhatIsNotStable() {
        MatchHall hall = Halls.oneLeftOut();
        String[] rows = {"---", "0--", "-1-", "00-", "102", "012", "1-0", "11-"};
        for (String row : rows) {
            Halls.tellAll(hall, row);
            Due.is("which() of " + row, hall.which(), NONE);
        }
    }

    @Holds(promise = 22, sentence = "NONE when it is none")
    static void whichLooksAtTheLastResident() {
        MatchHall hall = Halls.worked("0 1 2 3 4 5", "0 1 2 3 4 5");
        hall.take(0);
        hall.tell(5, NONE);
        Due.is("without the last", hall.which(), NONE);
        hall.tell(5, 5);
        Due.is("with the last", hall.which(), 0);
    }

    @Holds(promise = 22, sentence = "or nothing is worked out")
    static void whichRefusesWhatIsNotWorkedOut() {
        MatchHall hall = Halls.of("01 10", "10 01");
        Halls.tellAll(hall, "01");
        Due.is("before work()", hall.which(), NONE);
        hall.work();
        Due.is("after it", hall.which(), 0);
        hall.seats(1, 1);
        Due.is("when it is gone", hall.which(), NONE);
        Due.is("of a new object", new MatchHall().which(), NONE);
    }

    // ---- Promise 23: check

    @Holds(promise = 23, sentence = "Whether all matchings that were worked out are stable, and each is just the one in which the rotations that are done in it are done: 1")
    static void checkOfTheLeastAndTheMost() {
        MatchHall empty = new MatchHall();
        empty.work();
        Due.is("no lists", empty.check(), 1);
        Due.is("nobody lists back", Halls.nobodyListsBack().check(), 1);
        Due.is("one matching", Halls.worked("0", "0").check(), 1);
        Due.is("48 matchings", Halls.triangle().check(), 1);
        Due.is("with more seats", Halls.seated().check(), 1);
        Due.is("with one left out", Halls.oneLeftOut().check(), 1);
    }

    @Holds(promise = 23, sentence = "Whether all matchings that were worked out are stable")
    static void checkLooksNotAtWhatIsTold() {
        MatchHall hall = Halls.two();
        Halls.tellAll(hall, "00");
        Due.is("check()", hall.check(), 1);
        Due.is("fits() after it", hall.fits(), 0);
        hall.take(1);
        Due.is("check() again", hall.check(), 1);
        Due.is("which() after it", hall.which(), 1);
    }

    @Holds(promise = 23, sentence = "NONE when it is not worked out.")
    static void checkRefusesWhatIsNotWorkedOut() {
        MatchHall hall = Halls.of("01 10", "10 01");
        Due.is("before work()", hall.check(), NONE);
        hall.work();
        hall.forget(1, 0);
        Due.is("when it is gone", hall.check(), NONE);
        Due.is("of a new object", new MatchHall().check(), NONE);
    }
}
