/** Boundary cases of promises 1 to 6: how many there are, their seats and their lists. */
public final class ListSentencesTest {
    private static final int NONE = Halls.NONE;

    public static void main(String[] args) {
        Sentences.runAll(ListSentencesTest.class);
    }

    // ---- Promise 1: A new object

    @Holds(promise = 1, sentence = "One resident, one hospital with one seat")
    static void newHasOneResident() {
        MatchHall hall = new MatchHall();
        Due.is("forget(0, 0)", hall.forget(0, 0), 0);
        Due.is("forget(0, 1)", hall.forget(0, 1), NONE);
        Due.is("prefer(0, 1, 0)", hall.prefer(0, 1, 0), NONE);
        Due.is("prefer(1, 0, 1)", hall.prefer(1, 0, 1), NONE);
        Due.throwsIndex("tell(1, NONE)", () -> hall.tell(1, NONE));
    }

    @Holds(promise = 1, sentence = "One resident, one hospital with one seat")
    static void newHasOneHospital() {
        MatchHall hall = new MatchHall();
        Due.is("forget(1, 0)", hall.forget(1, 0), 0);
        Due.is("forget(1, 1)", hall.forget(1, 1), NONE);
        Due.is("prefer(1, 1, 0)", hall.prefer(1, 1, 0), NONE);
        Due.is("prefer(0, 0, 1)", hall.prefer(0, 0, 1), NONE);
        Due.throwsIndex("tell(0, 1)", () -> hall.tell(0, 1));
        Due.throwsIndex("seats(1, 1)", () -> hall.seats(1, 1));
    }

    /** One resident alone can't show that there is no second seat, only that there is a first. */
    @Holds(promise = 1, sentence = "one hospital with one seat")
    static void newHasASeat() {
        MatchHall hall = new MatchHall();
        hall.prefer(0, 0, 0);
        hall.prefer(1, 0, 0);
        Due.is("work()", hall.work(), 1);
        Due.is("hospital(0, 0)", hall.hospital(0, 0), 0);
        hall.tell(0, 0);
        Due.is("fits()", hall.fits(), 1);
        Due.is("blocks()", hall.blocks(), 0);
    }

    @Holds(promise = 1, sentence = "no lists")
    static void newHasNoLists() {
        MatchHall hall = new MatchHall();
        Due.is("listed(0, 0, 0)", hall.listed(0, 0, 0), NONE);
        Due.is("listed(1, 0, 0)", hall.listed(1, 0, 0), NONE);
        Due.is("prefer(0, 0, 0)", hall.prefer(0, 0, 0), 1);
        Due.is("prefer(1, 0, 0)", hall.prefer(1, 0, 0), 1);
    }

    @Holds(promise = 1, sentence = "nothing worked out")
    static void newHasNothingWorkedOut() {
        MatchHall hall = new MatchHall();
        Due.is("worked out", Halls.workedOut(hall), Halls.NOTHING);
        Due.throwsIndex("take(0)", () -> hall.take(0));
    }

    @Holds(promise = 1, sentence = "nothing told")
    static void newHasNothingTold() {
        MatchHall hall = new MatchHall();
        Due.is("fits()", hall.fits(), 1);
        Due.is("blocks()", hall.blocks(), 0);
        hall.work();
        Due.is("which()", hall.which(), 0);
        hall.prefer(0, 0, 0);
        hall.prefer(1, 0, 0);
        Due.is("blocks() with a pair", hall.blocks(), 1);
    }

    // ---- Promise 2: make

    private static void dueSizes(MatchHall hall, int residents, int hospitals) {
        String size = residents + " by " + hospitals + ": ";
        Due.is(size + "the last resident's list", hall.forget(0, residents - 1), 0);
        Due.is(size + "one resident more", hall.forget(0, residents), NONE);
        Due.is(size + "the last hospital's list", hall.forget(1, hospitals - 1), 0);
        Due.is(size + "one hospital more", hall.forget(1, hospitals), NONE);
    }

    @Holds(promise = 2, sentence = "So many residents and hospitals")
    static void makeMakesEachSize() {
        MatchHall hall = new MatchHall();
        for (int residents = 1; residents <= 6; residents++) {
            for (int hospitals = 1; hospitals <= 6; hospitals++) {
                hall.make(residents, hospitals);
                dueSizes(hall, residents, hospitals);
            }
        }
    }

    @Holds(promise = 2, sentence = "So many residents and hospitals")
    static void makeMakesTheLeastOfTheMost() {
        MatchHall hall = Halls.triangle();
        Due.passes("make(1, 1)", () -> hall.make(1, 1));
        dueSizes(hall, 1, 1);
        Due.is("work()", hall.work(), 1);
        Due.is("hospital(0, 1)", hall.hospital(0, 1), NONE);
    }

    @Holds(promise = 2, sentence = "So many residents and hospitals")
    static void makeMakesTheMostOfTheLeast() {
        MatchHall hall = new MatchHall();
        Due.passes("make(6, 6)", () -> hall.make(6, 6));
        dueSizes(hall, 6, 6);
        Due.is("prefer(0, 5, 5)", hall.prefer(0, 5, 5), 1);
        Due.is("prefer(1, 5, 5)", hall.prefer(1, 5, 5), 1);
        Due.is("work()", hall.work(), 1);
        Due.is("hospital(0, 5)", hall.hospital(0, 5), 5);
    }

    @Holds(promise = 2, sentence = "So many residents and hospitals")
    static void makeTakesResidentsFirst() {
        MatchHall hall = new MatchHall();
        hall.make(1, 6);
        dueSizes(hall, 1, 6);
        hall.make(6, 1);
        dueSizes(hall, 6, 1);
    }

    @Holds(promise = 2, sentence = "each with one seat")
    static void makeGivesEachHospitalOneSeat() {
        MatchHall hall = new MatchHall();
        hall.make(6, 6);
        for (int hospital = 0; hospital < 6; hospital++) {
            hall.seats(hospital, 3);
        }
        Halls.fill(hall, "012345 012345 - - - -", "01 01 01 01 01 01");
        for (int hospital = 0; hospital < 6; hospital++) {
            hall.tell(0, hospital);
            hall.tell(1, NONE);
            Due.is("one at hospital " + hospital, hall.fits(), 1);
            hall.tell(1, hospital);
            Due.is("two at hospital " + hospital, hall.fits(), 0);
        }
    }

    @Holds(promise = 2, sentence = "no lists")
    static void makeEmptiesAllLists() {
        MatchHall hall = Halls.triangle();
        hall.make(6, 6);
        Due.is("residents", Halls.listsOf(hall, 0, 6), "- - - - - -");
        Due.is("hospitals", Halls.listsOf(hall, 1, 6), "- - - - - -");
        for (int who = 0; who < 6; who++) {
            Due.is("forget(0, " + who + ")", hall.forget(0, who), 0);
            Due.is("forget(1, " + who + ")", hall.forget(1, who), 0);
            Due.is("prefer(0, " + who + ", 5)", hall.prefer(0, who, 5), 1);
            Due.is("prefer(1, " + who + ", 5)", hall.prefer(1, who, 5), 1);
        }
    }

    @Holds(promise = 2, sentence = "no lists")
    static void makeBringsNoListBackAfterASmallerOne() {
        MatchHall hall = Halls.triangle();
        hall.make(1, 1);
        hall.make(6, 6);
        Due.is("residents", Halls.listsOf(hall, 0, 6), "- - - - - -");
        Due.is("hospitals", Halls.listsOf(hall, 1, 6), "- - - - - -");
        hall.work();
        Due.is("pairs", hall.count(2), 0);
    }

    @Holds(promise = 2, sentence = "nobody told")
    static void makeTellsNobody() {
        MatchHall hall = Halls.two();
        hall.take(1);
        Halls.fill(hall, "01 10", "10 01");
        Due.is("blocked by", Halls.blockingPairs(hall), "0 1 8 9");
        hall.work();
        Due.is("which()", hall.which(), NONE);
    }

    @Holds(promise = 2, sentence = "nobody told")
    static void makeTellsNobodyAfterASmallerOne() {
        MatchHall hall = new MatchHall();
        hall.make(6, 6);
        Halls.tellAll(hall, "000005");
        hall.make(1, 1);
        hall.make(6, 6);
        Due.is("fits()", hall.fits(), 1);
    }

    @Holds(promise = 2, sentence = "IllegalArgumentException when they are not 1 .. 6.")
    static void makeRefusesResidents() {
        MatchHall hall = new MatchHall();
        for (int residents : Halls.outside(1, 6)) {
            Due.throwsArgument("make(" + residents + ", 1)", () -> hall.make(residents, 1));
            Due.throwsArgument("make(" + residents + ", 6)", () -> hall.make(residents, 6));
        }
    }

    @Holds(promise = 2, sentence = "IllegalArgumentException when they are not 1 .. 6.")
    static void makeRefusesHospitals() {
        MatchHall hall = new MatchHall();
        for (int hospitals : Halls.outside(1, 6)) {
            Due.throwsArgument("make(1, " + hospitals + ")", () -> hall.make(1, hospitals));
            Due.throwsArgument("make(6, " + hospitals + ")", () -> hall.make(6, hospitals));
        }
    }

    @Holds(promise = 2, sentence = "IllegalArgumentException when they are not 1 .. 6.")
    static void makeRefusesBoth() {
        MatchHall hall = new MatchHall();
        for (int many : Halls.outside(1, 6)) {
            Due.throwsArgument("make(" + many + ", " + many + ")", () -> hall.make(many, many));
            Due.throwsArgument("make(" + many + ", 0)", () -> hall.make(many, 0));
            Due.throwsArgument("make(7, " + many + ")", () -> hall.make(7, many));
        }
    }

    // ---- Promise 3: seats

    /** How many of six residents that all want one hospital have it. */
    private static int seatedAt(MatchHall hall) {
        hall.work();
        return hall.count(3);
    }

    @Holds(promise = 3, sentence = "A hospital has so many seats.")
    static void seatsLeastToMost() {
        MatchHall hall = Halls.of("0 0 0 0 0 0", "012345");
        for (int many = 1; many <= 3; many++) {
            int seats = many;
            Due.passes("seats(0, " + seats + ")", () -> hall.seats(0, seats));
            Due.is("residents with " + seats + " seats", seatedAt(hall), seats);
        }
        hall.seats(0, 1);
        Due.is("residents with one seat again", seatedAt(hall), 1);
    }

    @Holds(promise = 3, sentence = "A hospital has so many seats.")
    static void seatsOfTheFirstAndLastHospital() {
        MatchHall hall = new MatchHall();
        for (int hospital = 0; hospital < 6; hospital += 5) {
            hall.make(6, 6);
            hall.seats(hospital, 3);
            for (int resident = 0; resident < 6; resident++) {
                hall.prefer(0, resident, hospital);
                hall.prefer(1, hospital, resident);
            }
            Due.is("residents at hospital " + hospital, seatedAt(hall), 3);
        }
    }

    @Holds(promise = 3, sentence = "A hospital has so many seats.")
    static void seatsOfOneHospitalAlone() {
        MatchHall hall = Halls.of("0 0 1 1 2 2", "01 23 45");
        hall.seats(1, 2);
        hall.work();
        Due.is("matchings", Halls.matchings(hall, 6), "0-112-");
    }

    @Holds(promise = 3, sentence = "IndexOutOfBoundsException when there is no such hospital")
    static void seatsRefusesNoSuchHospital() {
        MatchHall hall = Halls.two();
        for (int hospital : Halls.outside(0, 1)) {
            Due.throwsIndex("seats(" + hospital + ", 1)", () -> hall.seats(hospital, 1));
            Due.throwsIndex("seats(" + hospital + ", 3)", () -> hall.seats(hospital, 3));
        }
    }

    @Holds(promise = 3, sentence = "IndexOutOfBoundsException when there is no such hospital")
    static void seatsRefusesAHospitalThatOnlyResidentsAreSoManyAs() {
        MatchHall hall = new MatchHall();
        hall.make(6, 1);
        Due.throwsIndex("seats(1, 2)", () -> hall.seats(1, 2));
        hall.make(1, 6);
        Due.passes("seats(5, 2)", () -> hall.seats(5, 2));
        hall.make(1, 5);
        Due.throwsIndex("seats(5, 2) after a smaller make", () -> hall.seats(5, 2));
        hall.make(6, 6);
        Due.throwsIndex("seats(6, 2)", () -> hall.seats(6, 2));
    }

    @Holds(promise = 3, sentence = "IllegalArgumentException when they are not 1 .. 3.")
    static void seatsRefusesTooFewAndTooMany() {
        MatchHall hall = Halls.two();
        for (int many : Halls.outside(1, 3)) {
            Due.throwsArgument("seats(0, " + many + ")", () -> hall.seats(0, many));
            Due.throwsArgument("seats(1, " + many + ")", () -> hall.seats(1, many));
        }
    }

    // ---- Promise 4: prefer

    @Holds(promise = 4, sentence = "At the end of the list of a resident (side 0) or hospital (side 1) comes one of the other side: how many it lists.")
    static void preferFillsAResidentsList() {
        MatchHall hall = new MatchHall();
        hall.make(1, 6);
        int[] order = {5, 0, 3, 1, 4, 2};
        for (int place = 0; place < 6; place++) {
            Due.is("prefer(0, 0, " + order[place] + ")", hall.prefer(0, 0, order[place]), place + 1);
        }
        Due.is("the full list", Halls.listOf(hall, 0, 0), "503142");
        Due.is("hospitals", Halls.listsOf(hall, 1, 6), "- - - - - -");
    }

    @Holds(promise = 4, sentence = "At the end of the list of a resident (side 0) or hospital (side 1) comes one of the other side: how many it lists.")
    static void preferFillsAHospitalsList() {
        MatchHall hall = new MatchHall();
        hall.make(6, 1);
        int[] order = {5, 0, 3, 1, 4, 2};
        for (int place = 0; place < 6; place++) {
            Due.is("prefer(1, 0, " + order[place] + ")", hall.prefer(1, 0, order[place]), place + 1);
        }
        Due.is("the full list", Halls.listOf(hall, 1, 0), "503142");
        Due.is("residents", Halls.listsOf(hall, 0, 6), "- - - - - -");
    }

    @Holds(promise = 4, sentence = "NONE, and nothing is done, when it lists it already")
    static void preferRefusesOneThatIsListed() {
        MatchHall hall = Halls.of("10 0", "01 1");
        int[][] listed = {{0, 0, 1}, {0, 0, 0}, {0, 1, 0}, {1, 0, 0}, {1, 0, 1}, {1, 1, 1}};
        for (int[] call : listed) {
            String what = "prefer(" + call[0] + ", " + call[1] + ", " + call[2] + ")";
            Due.is(what, hall.prefer(call[0], call[1], call[2]), NONE);
            Due.is("residents after " + what, Halls.listsOf(hall, 0, 2), "10 0");
            Due.is("hospitals after " + what, Halls.listsOf(hall, 1, 2), "01 1");
        }
    }

    @Holds(promise = 4, sentence = "NONE, and nothing is done, when it lists it already")
    static void preferTakesOneThatListsItAlready() {
        MatchHall hall = Halls.of("0 -", "- 0");
        Due.is("hospital 0 is listed by resident 0", hall.prefer(1, 0, 0), 1);
        Due.is("resident 0 is listed by hospital 1", hall.prefer(0, 0, 1), 2);
        Due.is("hospital 0 is in another one's list", hall.prefer(0, 1, 0), 1);
    }

    @Holds(promise = 4, sentence = "there is no such side, resident or hospital")
    static void preferRefusesNoSuchSide() {
        MatchHall hall = Halls.of("- -", "- -");
        for (int side : Halls.outside(0, 1)) {
            Due.is("prefer(" + side + ", 0, 1)", hall.prefer(side, 0, 1), NONE);
        }
        Due.is("residents", Halls.listsOf(hall, 0, 2), "- -");
        Due.is("hospitals", Halls.listsOf(hall, 1, 2), "- -");
    }

    @Holds(promise = 4, sentence = "there is no such side, resident or hospital")
    static void preferRefusesNoSuchResident() {
        MatchHall hall = Halls.of("- -", "- - - -");
        for (int resident : Halls.outside(0, 1)) {
            Due.is("prefer(0, " + resident + ", 0)", hall.prefer(0, resident, 0), NONE);
            Due.is("prefer(1, 3, " + resident + ")", hall.prefer(1, 3, resident), NONE);
        }
        Due.is("residents", Halls.listsOf(hall, 0, 2), "- -");
        Due.is("hospitals", Halls.listsOf(hall, 1, 4), "- - - -");
    }

    @Holds(promise = 4, sentence = "there is no such side, resident or hospital")
    static void preferRefusesNoSuchHospital() {
        MatchHall hall = Halls.of("- - - -", "- -");
        for (int hospital : Halls.outside(0, 1)) {
            Due.is("prefer(0, 3, " + hospital + ")", hall.prefer(0, 3, hospital), NONE);
            Due.is("prefer(1, " + hospital + ", 0)", hall.prefer(1, hospital, 0), NONE);
        }
        Due.is("residents", Halls.listsOf(hall, 0, 4), "- - - -");
        Due.is("hospitals", Halls.listsOf(hall, 1, 2), "- -");
    }

    @Holds(promise = 4, sentence = "there is no such side, resident or hospital")
    static void preferTakesTheLastOfEachSide() {
        MatchHall hall = Halls.of("- -", "- - - -");
        Due.is("prefer(0, 1, 3)", hall.prefer(0, 1, 3), 1);
        Due.is("prefer(1, 3, 1)", hall.prefer(1, 3, 1), 1);
        hall.make(6, 6);
        Due.is("prefer(0, 5, 5)", hall.prefer(0, 5, 5), 1);
        Due.is("prefer(1, 5, 5)", hall.prefer(1, 5, 5), 1);
    }

    // ---- Promise 5: forget

    @Holds(promise = 5, sentence = "A list is emptied: how many it had.")
    static void forgetEmptiesAFullList() {
        MatchHall hall = Halls.of("- - - - - 012345", "- - - - - 543210");
        Due.is("forget(0, 5)", hall.forget(0, 5), 6);
        Due.is("the resident's list", Halls.listOf(hall, 0, 5), "-");
        Due.is("the hospital's list stays", Halls.listOf(hall, 1, 5), "543210");
        Due.is("forget(1, 5)", hall.forget(1, 5), 6);
        Due.is("the hospital's list", Halls.listOf(hall, 1, 5), "-");
    }

    @Holds(promise = 5, sentence = "A list is emptied: how many it had.")
    static void forgetAnswersNoughtForAnEmptyList() {
        MatchHall hall = Halls.of("0 -", "0 -");
        Due.is("forget(0, 1)", hall.forget(0, 1), 0);
        Due.is("forget(1, 1)", hall.forget(1, 1), 0);
        Due.is("forget(0, 0)", hall.forget(0, 0), 1);
        Due.is("forget(0, 0) again", hall.forget(0, 0), 0);
        Due.is("hospitals", Halls.listsOf(hall, 1, 2), "0 -");
    }

    @Holds(promise = 5, sentence = "A list is emptied: how many it had.")
    static void forgetLeavesTheOthers() {
        MatchHall hall = Halls.of("01 10 01", "012 210");
        hall.forget(0, 1);
        Due.is("residents", Halls.listsOf(hall, 0, 3), "01 - 01");
        hall.forget(1, 0);
        Due.is("hospitals", Halls.listsOf(hall, 1, 2), "- 210");
        Due.is("residents then", Halls.listsOf(hall, 0, 3), "01 - 01");
    }

    @Holds(promise = 5, sentence = "A list is emptied: how many it had.")
    static void forgetMakesRoomForANewList() {
        MatchHall hall = Halls.of("012", "0 0 0");
        hall.forget(0, 0);
        Due.is("prefer(0, 0, 2)", hall.prefer(0, 0, 2), 1);
        Due.is("prefer(0, 0, 0)", hall.prefer(0, 0, 0), 2);
        Due.is("the new list", Halls.listOf(hall, 0, 0), "20");
        hall.work();
        Due.is("pairs", hall.count(2), 2);
        Due.is("hospital(0, 0)", hall.hospital(0, 0), 2);
    }

    @Holds(promise = 5, sentence = "NONE when there is none such.")
    static void forgetRefusesNoSuchSide() {
        MatchHall hall = Halls.of("0", "0");
        for (int side : Halls.outside(0, 1)) {
            Due.is("forget(" + side + ", 0)", hall.forget(side, 0), NONE);
        }
        Due.is("residents", Halls.listsOf(hall, 0, 1), "0");
        Due.is("hospitals", Halls.listsOf(hall, 1, 1), "0");
    }

    @Holds(promise = 5, sentence = "NONE when there is none such.")
    static void forgetRefusesNoSuchResident() {
        MatchHall hall = Halls.of("0 0", "01 10 - -");
        for (int resident : Halls.outside(0, 1)) {
            Due.is("forget(0, " + resident + ")", hall.forget(0, resident), NONE);
        }
        Due.is("residents", Halls.listsOf(hall, 0, 2), "0 0");
        Due.is("hospitals", Halls.listsOf(hall, 1, 4), "01 10 - -");
        hall.make(6, 6);
        Due.is("forget(0, 6) of six", hall.forget(0, 6), NONE);
    }

    @Holds(promise = 5, sentence = "NONE when there is none such.")
    static void forgetRefusesNoSuchHospital() {
        MatchHall hall = Halls.of("01 10 - -", "0 0");
        for (int hospital : Halls.outside(0, 1)) {
            Due.is("forget(1, " + hospital + ")", hall.forget(1, hospital), NONE);
        }
        Due.is("residents", Halls.listsOf(hall, 0, 4), "01 10 - -");
        Due.is("hospitals", Halls.listsOf(hall, 1, 2), "0 0");
        hall.make(6, 6);
        Due.is("forget(1, 6) of six", hall.forget(1, 6), NONE);
    }

    // ---- Promise 6: listed

    @Holds(promise = 6, sentence = "Who stands at a place of a list")
    static void listedTellsTheFirstAndLastPlace() {
        MatchHall hall = Halls.of("- - - - - 503142", "- - - - - 240513");
        Due.is("listed(0, 5, 0)", hall.listed(0, 5, 0), 5);
        Due.is("listed(0, 5, 5)", hall.listed(0, 5, 5), 2);
        Due.is("listed(1, 5, 0)", hall.listed(1, 5, 0), 2);
        Due.is("listed(1, 5, 5)", hall.listed(1, 5, 5), 3);
    }

    @Holds(promise = 6, sentence = "NONE when nobody does")
    static void listedAnswersNoneOutsideAList() {
        MatchHall hall = Halls.of("10 -", "- 0");
        for (int place : Halls.outside(0, 1)) {
            Due.is("listed(0, 0, " + place + ")", hall.listed(0, 0, place), NONE);
        }
        for (int place : Halls.outside(0, 0)) {
            Due.is("listed(1, 1, " + place + ")", hall.listed(1, 1, place), NONE);
        }
    }

    @Holds(promise = 6, sentence = "NONE when nobody does")
    static void listedAnswersNoneOutsideAFullList() {
        MatchHall hall = Halls.of("- - - - - 503142", "- - - - - 240513");
        for (int place : Halls.outside(0, 5)) {
            Due.is("listed(0, 5, " + place + ")", hall.listed(0, 5, place), NONE);
            Due.is("listed(1, 5, " + place + ")", hall.listed(1, 5, place), NONE);
        }
    }

    @Holds(promise = 6, sentence = "NONE when nobody does")
    static void listedAnswersNoneForAnEmptyList() {
        MatchHall hall = Halls.of("10 -", "- 0");
        hall.forget(0, 0);
        for (int place = -1; place <= 2; place++) {
            Due.is("listed(0, 1, " + place + ")", hall.listed(0, 1, place), NONE);
            Due.is("listed(1, 0, " + place + ")", hall.listed(1, 0, place), NONE);
            Due.is("listed(0, 0, " + place + ") of one forgotten", hall.listed(0, 0, place), NONE);
        }
    }

    @Holds(promise = 6, sentence = "or there is no such list")
    static void listedRefusesNoSuchSide() {
        MatchHall hall = Halls.of("10", "0 0");
        for (int side : Halls.outside(0, 1)) {
            Due.is("listed(" + side + ", 0, 0)", hall.listed(side, 0, 0), NONE);
        }
    }

    @Holds(promise = 6, sentence = "or there is no such list")
    static void listedRefusesNoSuchResidentOrHospital() {
        MatchHall hall = Halls.of("10 01", "01 10 10 01");
        for (int resident : Halls.outside(0, 1)) {
            Due.is("listed(0, " + resident + ", 0)", hall.listed(0, resident, 0), NONE);
        }
        for (int hospital : Halls.outside(0, 3)) {
            Due.is("listed(1, " + hospital + ", 0)", hall.listed(1, hospital, 0), NONE);
        }
    }

    @Holds(promise = 6, sentence = "or there is no such list")
    static void listedRefusesAListOfALargerMake() {
        MatchHall hall = Halls.triangle();
        hall.make(2, 3);
        Due.is("listed(0, 2, 0)", hall.listed(0, 2, 0), NONE);
        Due.is("listed(0, 5, 0)", hall.listed(0, 5, 0), NONE);
        Due.is("listed(1, 3, 0)", hall.listed(1, 3, 0), NONE);
        Due.is("listed(1, 5, 0)", hall.listed(1, 5, 0), NONE);
    }
}
