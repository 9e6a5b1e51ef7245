/** Boundary cases of the document's Terms, and of what holds for all calls. */
public final class TermsSentencesTest {
    private static final int NONE = Halls.NONE;

    public static void main(String[] args) {
        Sentences.runAll(TermsSentencesTest.class);
    }

    // ---- before the Terms

    @Holds(promise = 0, sentence = "An object is used for at most 512 calls after it has been made")
    static void the512thCallIsAnswered() {
        MatchHall hall = Halls.of("01 10", "10 01");
        int calls = 9;
        while (calls < 511) {
            hall.work();
            calls++;
        }
        Due.is("call 512, work()", hall.work(), 2);
    }

    // ---- residents, hospitals, pairs

    @Holds(promise = 0, sentence = "There are n RESIDENTS and m HOSPITALS, both from 1 to 6, numbered from 0")
    static void theMostOfBothAreNumberedFromNought() {
        MatchHall hall = Halls.worked("0 1 2 3 4 5", "0 1 2 3 4 5");
        Due.is("matchings", Halls.matchings(hall, 6), "012345");
        MatchHall one = Halls.worked("0", "0");
        Due.is("the only matching of one by one", Halls.matchings(one, 1), "0");
    }

    @Holds(promise = 0, sentence = "each hospital has a number of SEATS from 1 to 3.")
    static void allHospitalsMayHaveTheMostSeats() {
        MatchHall hall = Halls.of("01 01 01 10 10 10", "543210 012345");
        hall.seats(0, 3);
        hall.seats(1, 3);
        Due.is("work()", hall.work(), 4);
        Due.is("matchings", Halls.matchings(hall, 6), "000111 100110 110100 111000");
    }

    @Holds(promise = 0, sentence = "Each resident LISTS some hospitals, each hospital some residents, the better ones first")
    static void listsMayBeEmptyOrFullTheBetterFirst() {
        MatchHall hall = Halls.worked("- 543210 0 - - -", "12 1 1 1 1 1");
        Due.is("the first of a full list is the best", hall.hospital(0, 1), 5);
        Due.is("the only one of a list", hall.hospital(0, 2), 0);
        Due.is("the empty list", hall.hospital(0, 0), NONE);
        MatchHall wanted = Halls.worked("0 0 0 0 0 0", "524130 - - - - -");
        Due.is("the first of a hospital's full list is the best", Halls.matchings(wanted, 6), "-----0");
    }

    @Holds(promise = 0, sentence = "the PLACE of one in a list is counted from 0.")
    static void placesAreCountedFromNought() {
        MatchHall hall = Halls.worked("102", "0 0 0");
        Due.is("listed(0, 0, 0)", hall.listed(0, 0, 0), 1);
        Due.is("cost of the first place", hall.cost(0, 0), 0);
        hall.forget(1, 1);
        hall.forget(1, 0);
        hall.work();
        Due.is("cost of the last place", hall.cost(0, 0), 2);
    }

    @Holds(promise = 0, sentence = "A PAIR is a resident and a hospital that list each other.")
    static void whomOnlyOneListsIsNoPair() {
        MatchHall resident = Halls.worked("0", "-");
        Due.is("pairs when the resident alone lists", resident.count(2), 0);
        Due.is("its hospital", resident.hospital(0, 0), NONE);
        MatchHall hospital = Halls.worked("-", "0");
        Due.is("pairs when the hospital alone lists", hospital.count(2), 0);
        Due.is("its resident's hospital", hospital.hospital(0, 0), NONE);
        MatchHall both = Halls.worked("0", "0");
        Due.is("pairs when both list", both.count(2), 1);
    }

    @Holds(promise = 0, sentence = "A PAIR is a resident and a hospital that list each other.")
    static void listsThatDoNotMeetHaveNoPair() {
        MatchHall hall = Halls.worked("1 0", "0 1");
        Due.is("pairs", hall.count(2), 0);
        Due.is("matchings", Halls.matchings(hall, 2), "--");
    }

    // ---- matchings, and what blocks them

    @Holds(promise = 0, sentence = "A MATCHING has some pairs, each resident in one at most, each hospital in as many as it has seats at most.")
    static void aMatchingMayHaveNoPair() {
        MatchHall hall = Halls.of("01 10", "10 01");
        Due.is("fits()", hall.fits(), 1);
    }

    @Holds(promise = 0, sentence = "each hospital in as many as it has seats at most")
    static void aMatchingFillsAllSeatsAndNoMore() {
        MatchHall hall = Halls.of("0 0 0 0", "0123");
        String[] rows = {"0---", "00--", "000-", "0000"};
        for (int seats = 1; seats <= 3; seats++) {
            hall.seats(0, seats);
            for (int many = 1; many <= 4; many++) {
                Halls.tellAll(hall, rows[many - 1]);
                Due.is(many + " in " + seats + " seats", hall.fits(), many <= seats ? 1 : 0);
            }
        }
    }

    @Holds(promise = 0, sentence = "A pair that is not in it BLOCKS it")
    static void aPairOfTheMatchingDoesNotBlock() {
        MatchHall hall = Halls.of("0 0", "01");
        hall.seats(0, 3);
        Halls.tellAll(hall, "0-");
        Due.is("blocked by", Halls.blockingPairs(hall), "8");
        Halls.tellAll(hall, "00");
        Due.is("blocked with a seat left by", Halls.blockingPairs(hall), "");
    }

    @Holds(promise = 0, sentence = "if the resident is in none, or lists the hospital before its own")
    static void aResidentWithoutHospitalBlocks() {
        MatchHall hall = Halls.of("10", "0 0");
        Due.is("in none, blocked by", Halls.blockingPairs(hall), "0 1");
        hall.tell(0, 0);
        Due.is("with its second, blocked by", Halls.blockingPairs(hall), "1");
        hall.tell(0, 1);
        Due.is("with its first, blocked by", Halls.blockingPairs(hall), "");
    }

    @Holds(promise = 0, sentence = "and the hospital has seats left, or lists the resident before one of its own")
    static void aHospitalWithASeatLeftBlocks() {
        MatchHall hall = Halls.of("0 0 0", "012");
        Halls.tellAll(hall, "0--");
        Due.is("one in one seat, blocked by", Halls.blockingPairs(hall), "");
        hall.seats(0, 2);
        Due.is("one in two seats, blocked by", Halls.blockingPairs(hall), "8 16");
        Halls.tellAll(hall, "00-");
        Due.is("two in two seats, blocked by", Halls.blockingPairs(hall), "");
    }

    @Holds(promise = 0, sentence = "and the hospital has seats left, or lists the resident before one of its own")
    static void aFullHospitalBlocksForOneBeforeTheLastOfItsOwn() {
        MatchHall hall = Halls.of("0 0 0 0", "0123");
        hall.seats(0, 2);
        Halls.tellAll(hall, "0-0-");
        Due.is("places 0 and 2 taken, blocked by", Halls.blockingPairs(hall), "8");
        Halls.tellAll(hall, "0--0");
        Due.is("places 0 and 3 taken, blocked by", Halls.blockingPairs(hall), "8 16");
        Halls.tellAll(hall, "--00");
        Due.is("places 2 and 3 taken, blocked by", Halls.blockingPairs(hall), "0 8");
    }

    @Holds(promise = 0, sentence = "if the resident is in none, or lists the hospital before its own, and the hospital has seats left, or lists the resident before one of its own")
    static void bothMustWantToBlock() {
        MatchHall hall = Halls.of("01 01", "01 01");
        Halls.tellAll(hall, "01");
        Due.is("only resident 1 would go, blocked by", Halls.blockingPairs(hall), "");
        MatchHall other = Halls.of("01 0", "10 0");
        Halls.tellAll(other, "0-");
        Due.is("both would, blocked by", Halls.blockingPairs(other), "8");
        MatchHall content = Halls.of("10 0", "01 0");
        Halls.tellAll(content, "10");
        Due.is("only hospital 0 would, blocked by", Halls.blockingPairs(content), "");
    }

    @Holds(promise = 0, sentence = "A pair that is not in it BLOCKS it")
    static void whomOnlyOneListsDoesNotBlock() {
        Due.is("the resident alone", Halls.of("0", "-").blocks(), 0);
        Due.is("the hospital alone", Halls.of("-", "0").blocks(), 0);
    }

    // ---- stable matchings and their numbers

    @Holds(promise = 0, sentence = "A matching that no pair blocks is STABLE.")
    static void justThoseThatNoPairBlocksAreNumbered() {
        MatchHall hall = Halls.chain();
        int stable = 0;
        for (int row = 0; row < 64; row++) {
            hall.tell(0, row / 16 - 1);
            hall.tell(1, row / 4 % 4 - 1);
            hall.tell(2, row % 4 - 1);
            boolean isStable = hall.blocks() == 0;
            Due.is("which() has a number, row " + row, hall.which() == NONE ? 0 : 1, isStable ? 1 : 0);
            stable += isStable ? 1 : 0;
        }
        Due.is("rows that no pair blocks", stable, 3);
    }

    @Holds(promise = 0, sentence = "There is always one; the same residents have hospitals in all of them.")
    static void thereIsAlwaysOne() {
        MatchHall hall = new MatchHall();
        for (int residents = 1; residents <= 6; residents++) {
            for (int hospitals = 1; hospitals <= 6; hospitals++) {
                hall.make(residents, hospitals);
                Due.is("work() without lists", hall.work(), 1);
            }
        }
        Due.is("work() when nobody lists back", Halls.nobodyListsBack().work(), 1);
    }

    @Holds(promise = 0, sentence = "There is always one; the same residents have hospitals in all of them.")
    static void theSameResidentsHaveHospitals() {
        Due.is("matchings", Halls.matchings(Halls.oneLeftOut(), 3), "01- 10-");
        MatchHall first = Halls.worked("01 01 10", "210 120");
        Due.is("matchings without the first", Halls.matchings(first, 3), "-01 -10");
    }

    @Holds(promise = 0, sentence = "the one that has for the first resident for which they are not the same the better hospital (by its list) comes first.")
    static void theFirstResidentThatDiffersDecides() {
        Due.is("residents 0 and 2 decide", Halls.matchings(Halls.twice(), 4), "0123 0132 1023 1032");
        MatchHall later = Halls.worked("2 01 10", "21 12 0");
        Due.is("resident 0 has always the same", Halls.matchings(later, 3), "201 210");
        MatchHall last = Halls.worked("- 2 - 3 01 10", "54 45 1 3");
        Due.is("only the last two differ", Halls.matchings(last, 6), "-2-301 -2-310");
    }

    @Holds(promise = 0, sentence = "the better hospital (by its list) comes first")
    static void theBetterHospitalIsNotTheLesserNumber() {
        Due.is("matchings", Halls.matchings(Halls.worked("10 01", "01 10"), 2), "10 01");
    }

    // ---- behind, steps, rotations

    @Holds(promise = 0, sentence = "and they are not the same")
    static void noneIsBehindItself() {
        MatchHall hall = Halls.chain();
        for (int matching = 0; matching < 3; matching++) {
            Due.is("behind(" + matching + ", " + matching + ")", hall.behind(matching, matching), 0);
        }
    }

    @Holds(promise = 0, sentence = "One stable matching is BEHIND another one, if each resident has in it the same hospital, or one that it lists later")
    static void someHaveTheSameWhenItIsBehind() {
        MatchHall hall = Halls.twice();
        Due.is("residents 0 and 1 have the same", hall.behind(0, 1), 1);
        Due.is("residents 2 and 3 have the same", hall.behind(0, 2), 1);
        Due.is("some better, some worse", hall.behind(1, 2), 0);
        Due.is("some worse, some better", hall.behind(2, 1), 0);
        Due.is("nobody has a hospital in either", Halls.oneLeftOut().behind(0, 1), 1);
    }

    @Holds(promise = 0, sentence = "if no third one is behind the first, with the second behind it")
    static void overAThirdOneIsNoStep() {
        Due.is("rotations of three in a row", Halls.chain().count(1), 2);
        Due.is("rotations of six in a row", Halls.longChain().count(1), 5);
        Due.is("rotations of a square", Halls.twice().count(1), 2);
        MatchHall four = Halls.worked("0123 1032 2301 3210", "3210 2301 1032 0123");
        for (int k = 0; k < 6; k++) {
            Due.is("rotation(" + k + ", 2, 0), as none of them moves three", four.rotation(k, 2, 0), NONE);
        }
    }

    @Holds(promise = 0, sentence = "all residents that have not the same hospital in both, each with the one that it leaves and the one that it gets")
    static void aRotationHasAllThatMove() {
        Due.is("two of four", Halls.rotations(Halls.twice()), "001 110 | 223 332");
        Due.is("two of three", Halls.rotations(Halls.oneLeftOut()), "001 110");
        Due.is("all six", Halls.longChain().rotation(4, 5, 0), 5);
    }

    @Holds(promise = 0, sentence = "(Several steps may have one rotation.)")
    static void severalStepsHaveOneRotation() {
        MatchHall hall = Halls.worked("01 10 23 32 45 54", "10 01 32 23 54 45");
        Due.is("matchings of three by the side", hall.count(0), 8);
        Due.is("rotations of twelve steps", Halls.rotations(hall), "001 110 | 223 332 | 445 554");
    }

    @Holds(promise = 0, sentence = "ROTATIONS are numbered from 0 by their least resident, of the same by the place of the hospital that it leaves in its list.")
    static void rotationsAreNumberedByResidentsThenPlaces() {
        Due.is("by residents", Halls.rotations(Halls.seated()), "010 101 | 202 320");
        MatchHall places = Halls.worked("210 102 021", "012 201 120");
        Due.is("by places, not numbers", Halls.rotations(places), "021 110 202 | 010 102 221");
        MatchHall four = Halls.worked("0123 1032 2301 3210", "3210 2301 1032 0123");
        Due.is("by both", Halls.rotations(four), "001 110 | 012 321 | 023 132 | 103 230 | 223 332 | 201 310");
    }

    @Holds(promise = 0, sentence = "(No two have both the same.)")
    static void noTwoRotationsHaveBothTheSame() {
        MatchHall hall = Halls.triangle();
        int last = NONE;
        for (int k = 0; k < 15; k++) {
            int least = hall.rotation(k, 0, 0);
            int leaves = hall.rotation(k, 0, 1);
            int place = 0;
            while (place < 6 && hall.listed(0, least, place) != leaves) {
                place++;
            }
            Due.is("rotation " + k + " comes after the one before", 6 * least + place > last ? 1 : 0, 1);
            last = 6 * least + place;
        }
    }

    @Holds(promise = 0, sentence = "A rotation is DONE in a stable matching in which its least resident has the hospital that it gets by it, or one that it lists later.")
    static void doneIsAlsoDoneLater() {
        MatchHall hall = Halls.longChain();
        for (int k = 0; k < 5; k++) {
            Due.is("the one before", hall.done(k, k), 0);
            Due.is("the one it leads to", hall.done(k, k + 1), 1);
            Due.is("the first", hall.done(k, 0), 0);
            Due.is("the last", hall.done(k, 5), 1);
        }
    }

    @Holds(promise = 0, sentence = "Rotation k comes BEFORE another one, l, if k is done in each stable matching in which l is done.")
    static void beforeAlsoOverOthers() {
        MatchHall hall = Halls.longChain();
        for (int k = 0; k < 5; k++) {
            for (int l = 0; l < 5; l++) {
                Due.is("before(" + k + ", " + l + ")", hall.before(k, l), k < l ? 1 : 0);
            }
        }
    }

    // ---- what is worked out, and when it is gone

    @Holds(promise = 0, sentence = "All is worked out by work()")
    static void workWorksAllOut() {
        MatchHall hall = Halls.of("01 10", "10 01");
        Due.is("before", Halls.workedOut(hall), Halls.NOTHING);
        hall.work();
        hall.take(1);
        Due.is("after", Halls.workedOut(hall), "counts 2 1 4 2, hospital 0, cost 0, cheapest 0, bound 0, behind 0, "
            + "rotation 0, done 0, before 0, which 1, check 1");
    }

    private static void dueGone(String what, MatchHall hall) {
        Due.is("after " + what, Halls.workedOut(hall), Halls.NOTHING);
        Due.throwsIndex("take(0) after " + what, () -> hall.take(0));
    }

    @Holds(promise = 0, sentence = "gone with make()")
    static void makeDropsTheWork() {
        MatchHall hall = Halls.two();
        hall.make(2, 2);
        dueGone("make(2, 2)", hall);
        MatchHall one = new MatchHall();
        one.work();
        one.make(1, 1);
        dueGone("make(1, 1) of a new one", one);
    }

    @Holds(promise = 0, sentence = "gone with make(), seats()")
    static void seatsDropsTheWork() {
        MatchHall more = Halls.two();
        more.seats(1, 3);
        dueGone("seats(1, 3)", more);
        MatchHall same = Halls.two();
        same.seats(0, 1);
        dueGone("seats(0, 1), as it had", same);
    }

    @Holds(promise = 0, sentence = "gone with make(), seats(), forget()")
    static void forgetDropsTheWork() {
        MatchHall resident = Halls.two();
        resident.forget(0, 1);
        dueGone("forget(0, 1)", resident);
        MatchHall hospital = Halls.two();
        hospital.forget(1, 0);
        dueGone("forget(1, 0)", hospital);
    }

    @Holds(promise = 0, sentence = "gone with make(), seats(), forget()")
    static void forgetOfAnEmptyListDropsTheWork() {
        MatchHall hospital = Halls.oneLeftOut();
        Due.is("forget(1, 2)", hospital.forget(1, 2), 0);
        dueGone("forget(1, 2), which had nobody", hospital);
        MatchHall resident = Halls.worked("0 -", "0");
        Due.is("forget(0, 1)", resident.forget(0, 1), 0);
        dueGone("forget(0, 1), which had none", resident);
    }

    @Holds(promise = 0, sentence = "and with prefer(), if it puts one")
    static void preferDropsTheWorkIfItPutsOne() {
        MatchHall hospital = Halls.oneLeftOut();
        Due.is("prefer(1, 2, 0)", hospital.prefer(1, 2, 0), 1);
        dueGone("prefer(1, 2, 0)", hospital);
        MatchHall resident = Halls.oneLeftOut();
        Due.is("prefer(0, 2, 2)", resident.prefer(0, 2, 2), 3);
        dueGone("prefer(0, 2, 2)", resident);
    }

    private static void dueWorked(String what, MatchHall hall) {
        Due.is("matchings after " + what, Halls.matchings(hall, 2), "01 10");
        Due.is("rotations after " + what, Halls.rotations(hall), "001 110");
        Due.is("check() after " + what, hall.check(), 1);
    }

    @Holds(promise = 0, sentence = "(not when they throw, or answer NONE)")
    static void makeThatThrowsKeepsTheWork() {
        MatchHall hall = Halls.two();
        Due.throwsArgument("make(0, 2)", () -> hall.make(0, 2));
        dueWorked("make(0, 2)", hall);
        Due.throwsArgument("make(2, 7)", () -> hall.make(2, 7));
        dueWorked("make(2, 7)", hall);
    }

    @Holds(promise = 0, sentence = "(not when they throw, or answer NONE)")
    static void seatsThatThrowsKeepsTheWork() {
        MatchHall hall = Halls.two();
        Due.throwsIndex("seats(2, 1)", () -> hall.seats(2, 1));
        dueWorked("seats(2, 1)", hall);
        Due.throwsArgument("seats(0, 0)", () -> hall.seats(0, 0));
        dueWorked("seats(0, 0)", hall);
        Due.throwsArgument("seats(1, 4)", () -> hall.seats(1, 4));
        dueWorked("seats(1, 4)", hall);
    }

    @Holds(promise = 0, sentence = "(not when they throw, or answer NONE)")
    static void preferThatAnswersNoneKeepsTheWork() {
        MatchHall hall = Halls.two();
        int[][] wrong = {{0, 0, 0}, {1, 1, 1}, {2, 0, 0}, {-1, 0, 0}, {0, 2, 0}, {0, 0, 2}, {1, 2, 0}, {1, 0, 2},
            {0, -1, 0}, {0, 0, -1}};
        for (int[] call : wrong) {
            String what = "prefer(" + call[0] + ", " + call[1] + ", " + call[2] + ")";
            Due.is(what, hall.prefer(call[0], call[1], call[2]), NONE);
            dueWorked(what, hall);
        }
    }

    @Holds(promise = 0, sentence = "(not when they throw, or answer NONE)")
    static void forgetThatAnswersNoneKeepsTheWork() {
        MatchHall hall = Halls.two();
        int[][] wrong = {{2, 0}, {-1, 0}, {0, 2}, {1, 2}, {0, -1}, {1, -1}};
        for (int[] call : wrong) {
            String what = "forget(" + call[0] + ", " + call[1] + ")";
            Due.is(what, hall.forget(call[0], call[1]), NONE);
            dueWorked(what, hall);
        }
    }

    @Holds(promise = 0, sentence = "All is worked out by work(), and gone with make(), seats(), forget(), and with prefer()")
    static void noOtherCallDropsTheWork() {
        MatchHall hall = Halls.two();
        hall.tell(0, 1);
        hall.tell(1, NONE);
        dueWorked("tell", hall);
        Due.throwsIndex("tell(2, 0)", () -> hall.tell(2, 0));
        Due.throwsIndex("take(2)", () -> hall.take(2));
        dueWorked("tell and take that throw", hall);
        hall.take(1);
        dueWorked("take(1)", hall);
        Halls.workedOut(hall);
        hall.listed(0, 0, 0);
        hall.blocking(hall.fits() + hall.blocks());
        dueWorked("all questions", hall);
        hall.work();
        dueWorked("work()", hall);
    }

    // ---- what throws

    /** A call that is refused, with what it throws. */
    private interface Refused {
        void by(MatchHall hall);
    }

    /**
     * Each refused call has a hall of its own, so that none mends what another one spoils. Seats are
     * seen by work alone, so the same must come of it before and after the call.
     */
    private static void dueUnchanged(Refused... calls) {
        for (Refused call : calls) {
            MatchHall hall = Halls.seated();
            hall.tell(0, 0);
            hall.tell(1, 1);
            String before = Halls.stateOf(hall, 4, 3);
            call.by(hall);
            Due.is("what was worked out and told", Halls.stateOf(hall, 4, 3), before);
            hall.work();
            Due.is("what is worked out again", Halls.stateOf(hall, 4, 3), before);
            Due.throwsIndex("tell(4, NONE)", () -> hall.tell(4, NONE));
            Due.throwsIndex("tell(0, 3)", () -> hall.tell(0, 3));
        }
    }

    @Holds(promise = 0, sentence = "What throws changes nothing")
    static void makeThatThrowsChangesNothing() {
        dueUnchanged(
            hall -> Due.throwsArgument("make(0, 3)", () -> hall.make(0, 3)),
            hall -> Due.throwsArgument("make(7, 2)", () -> hall.make(7, 2)),
            hall -> Due.throwsArgument("make(7, 6)", () -> hall.make(7, 6)),
            hall -> Due.throwsArgument("make(4, 0)", () -> hall.make(4, 0)),
            hall -> Due.throwsArgument("make(1, 7)", () -> hall.make(1, 7)),
            hall -> Due.throwsArgument("make(6, 7)", () -> hall.make(6, 7)),
            hall -> Due.throwsArgument("make(0, 7)", () -> hall.make(0, 7)));
    }

    @Holds(promise = 0, sentence = "What throws changes nothing")
    static void seatsThatThrowsChangesNothing() {
        dueUnchanged(
            hall -> Due.throwsArgument("seats(0, 0)", () -> hall.seats(0, 0)),
            hall -> Due.throwsArgument("seats(0, 4)", () -> hall.seats(0, 4)),
            hall -> Due.throwsArgument("seats(2, -1)", () -> hall.seats(2, -1)),
            hall -> Due.throwsArgument("seats(2, 4)", () -> hall.seats(2, 4)),
            hall -> Due.throwsIndex("seats(3, 1)", () -> hall.seats(3, 1)),
            hall -> Due.throwsIndex("seats(-1, 3)", () -> hall.seats(-1, 3)),
            hall -> Due.throwsIndex("seats(3, 4)", () -> hall.seats(3, 4)));
    }

    @Holds(promise = 0, sentence = "What throws changes nothing")
    static void tellThatThrowsChangesNothing() {
        dueUnchanged(
            hall -> Due.throwsIndex("tell(0, 3)", () -> hall.tell(0, 3)),
            hall -> Due.throwsIndex("tell(1, -2)", () -> hall.tell(1, -2)),
            hall -> Due.throwsIndex("tell(2, 6)", () -> hall.tell(2, 6)),
            hall -> Due.throwsIndex("tell(4, 0)", () -> hall.tell(4, 0)),
            hall -> Due.throwsIndex("tell(-1, NONE)", () -> hall.tell(-1, NONE)));
    }

    @Holds(promise = 0, sentence = "What throws changes nothing")
    static void takeThatThrowsChangesNothing() {
        dueUnchanged(
            hall -> Due.throwsIndex("take(3)", () -> hall.take(3)),
            hall -> Due.throwsIndex("take(-1)", () -> hall.take(-1)));
        MatchHall fresh = Halls.of("0", "0");
        fresh.tell(0, 0);
        Due.throwsIndex("take(0) of nothing", () -> fresh.take(0));
        Due.is("blocks() of what is told still", fresh.blocks(), 0);
    }

    @Holds(promise = 0, sentence = "when two exceptions would do, it is the one named first")
    static void noSuchHospitalComesBeforeWrongSeats() {
        MatchHall hall = Halls.two();
        for (int hospital : Halls.outside(0, 1)) {
            Due.throwsIndex("seats(" + hospital + ", 0)", () -> hall.seats(hospital, 0));
            Due.throwsIndex("seats(" + hospital + ", 4)", () -> hall.seats(hospital, 4));
        }
    }

    @Holds(promise = 0, sentence = "`NONE = -1`: There is none.")
    static void noneIsMinusOne() {
        Due.is("NONE", MatchHall.NONE, -1);
    }
}
