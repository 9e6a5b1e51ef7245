/** Boundary cases of promises 7 to 16: what is worked out. */
public final class WorkSentencesTest {
    private static final int NONE = Halls.NONE;

    public static void main(String[] args) {
        Sentences.runAll(WorkSentencesTest.class);
    }

    // ---- Promise 7: work

    @Holds(promise = 7, sentence = "how many stable matchings there are")
    static void workAnswersOneAtLeast() {
        Due.is("a new object", new MatchHall().work(), 1);
        Due.is("no lists of six by six", Halls.of("- - - - - -", "- - - - - -").work(), 1);
        Due.is("lists of one side alone", Halls.of("01 10", "- -").work(), 1);
        Due.is("one pair", Halls.of("0", "0").work(), 1);
    }

    @Holds(promise = 7, sentence = "how many stable matchings there are")
    static void workAnswersTheMost() {
        Due.is("six by six", Halls.triangle().work(), 48);
        Due.is("four by four", Halls.of("0123 1032 2301 3210", "3210 2301 1032 0123").work(), 10);
    }

    @Holds(promise = 7, sentence = "Works out all stable matchings and rotations")
    static void workAgainAnswersTheSame() {
        MatchHall hall = Halls.seated();
        for (int times = 0; times < 3; times++) {
            Due.is("work() again", hall.work(), 3);
            Due.is("matchings", Halls.matchings(hall, 4), "1002 1020 0120");
            Due.is("rotations", Halls.rotations(hall), "010 101 | 202 320");
        }
    }

    @Holds(promise = 7, sentence = "Works out all stable matchings and rotations")
    static void workAfterAChangeWorksOutTheNew() {
        MatchHall hall = Halls.triangle();
        Halls.fill(hall, "01 10", "10 01");
        Due.is("two by two", hall.work(), 2);
        hall.forget(0, 0);
        Due.is("one resident that lists", hall.work(), 1);
        Due.is("matchings", Halls.matchings(hall, 2), "-1");
        hall.make(1, 1);
        Due.is("the least after the most", hall.work(), 1);
        Due.is("rotations of it", hall.count(1), 0);
        Due.is("hospital(1, 0)", hall.hospital(1, 0), NONE);
    }

    @Holds(promise = 7, sentence = "Works out all stable matchings and rotations")
    static void workLeavesWhatIsTold() {
        MatchHall hall = Halls.two();
        hall.tell(0, 1);
        hall.work();
        Due.is("blocked by", Halls.blockingPairs(hall), "0 8");
        hall.tell(1, 0);
        hall.work();
        Due.is("which()", hall.which(), 1);
    }

    // ---- Promise 8: count

    private static String counts(MatchHall hall) {
        return hall.count(0) + " " + hall.count(1) + " " + hall.count(2) + " " + hall.count(3);
    }

    @Holds(promise = 8, sentence = "How many stable matchings (what 0), rotations (1) there are, pairs (2), residents that have a hospital in all stable matchings (3)")
    static void countOfTheLeast() {
        MatchHall empty = new MatchHall();
        empty.work();
        Due.is("no lists", counts(empty), "1 0 0 0");
        Due.is("nobody lists back", counts(Halls.nobodyListsBack()), "1 0 0 0");
        Due.is("one pair", counts(Halls.worked("0", "0")), "1 0 1 1");
    }

    @Holds(promise = 8, sentence = "How many stable matchings (what 0), rotations (1) there are, pairs (2), residents that have a hospital in all stable matchings (3)")
    static void countOfTheMost() {
        Due.is("six by six", counts(Halls.triangle()), "48 15 36 6");
    }

    @Holds(promise = 8, sentence = "residents that have a hospital in all stable matchings (3)")
    static void countLeavesOutWhoHasNone() {
        Due.is("one left out", Halls.oneLeftOut().count(3), 2);
        Due.is("the first left out", Halls.worked("0 0", "10").count(3), 1);
        MatchHall seats = Halls.of("0 0 0 0 0 0", "012345");
        seats.seats(0, 3);
        seats.work();
        Due.is("three seats for six", seats.count(3), 3);
    }

    @Holds(promise = 8, sentence = "NONE for others, or when it is not worked out.")
    static void countRefusesOthers() {
        MatchHall hall = Halls.two();
        for (int what : Halls.outside(0, 3)) {
            Due.is("count(" + what + ")", hall.count(what), NONE);
        }
    }

    @Holds(promise = 8, sentence = "or when it is not worked out")
    static void countRefusesWhatIsNotWorkedOut() {
        MatchHall hall = Halls.of("01 10", "10 01");
        Due.is("counts before work()", counts(hall), "-1 -1 -1 -1");
        hall.work();
        Due.is("counts after it", counts(hall), "2 1 4 2");
        hall.seats(0, 1);
        Due.is("counts when it is gone", counts(hall), "-1 -1 -1 -1");
    }

    // ---- Promise 9: hospital

    @Holds(promise = 9, sentence = "The hospital of a resident in a stable matching")
    static void hospitalOfTheFirstAndTheLast() {
        MatchHall hall = Halls.triangle();
        Due.is("hospital(0, 0)", hall.hospital(0, 0), 0);
        Due.is("hospital(0, 5)", hall.hospital(0, 5), 5);
        Due.is("hospital(47, 0)", hall.hospital(47, 0), 5);
        Due.is("hospital(47, 5)", hall.hospital(47, 5), 0);
    }

    @Holds(promise = 9, sentence = "NONE when it has none")
    static void hospitalIsNoneForWhoHasNone() {
        MatchHall hall = Halls.oneLeftOut();
        Due.is("hospital(0, 2)", hall.hospital(0, 2), NONE);
        Due.is("hospital(1, 2)", hall.hospital(1, 2), NONE);
        Due.is("without any list", Halls.worked("-", "-").hospital(0, 0), NONE);
    }

    @Holds(promise = 9, sentence = "or there is no such matching or resident")
    static void hospitalRefusesNoSuchMatching() {
        MatchHall hall = Halls.two();
        for (int matching : Halls.outside(0, 1)) {
            Due.is("hospital(" + matching + ", 0)", hall.hospital(matching, 0), NONE);
            Due.is("hospital(" + matching + ", 1)", hall.hospital(matching, 1), NONE);
        }
        MatchHall most = Halls.triangle();
        Due.is("hospital(48, 0)", most.hospital(48, 0), NONE);
    }

    @Holds(promise = 9, sentence = "or there is no such matching or resident")
    static void hospitalRefusesNoSuchResident() {
        MatchHall hall = Halls.two();
        for (int resident : Halls.outside(0, 1)) {
            Due.is("hospital(0, " + resident + ")", hall.hospital(0, resident), NONE);
            Due.is("hospital(1, " + resident + ")", hall.hospital(1, resident), NONE);
        }
        MatchHall most = Halls.triangle();
        Due.is("hospital(0, 6)", most.hospital(0, 6), NONE);
        Due.is("hospital(1, -1)", most.hospital(1, -1), NONE);
    }

    @Holds(promise = 9, sentence = "or there is no such matching or resident")
    static void hospitalRefusesWhatIsNotWorkedOut() {
        MatchHall hall = Halls.two();
        hall.forget(1, 0);
        Due.is("hospital(0, 1)", hall.hospital(0, 1), NONE);
        Due.is("hospital(1, 0)", hall.hospital(1, 0), NONE);
    }

    // ---- Promise 10: cost

    @Holds(promise = 10, sentence = "the sum of the places of all hospitals in the lists of the residents that have them (what 0), of these residents in the hospitals' lists (1)")
    static void costOfTheFirstAndTheLastPlaces() {
        MatchHall hall = Halls.triangle();
        Due.is("all residents have their first", Halls.costs(hall, 0), "0 30 30 30 5");
        Due.is("all residents have their last", Halls.costs(hall, 47), "30 0 30 30 5");
    }

    @Holds(promise = 10, sentence = "the sum of the places of all hospitals in the lists of the residents that have them (what 0), of these residents in the hospitals' lists (1)")
    static void costCountsPlacesOfThoseThatAreNoPairsToo() {
        MatchHall hall = Halls.worked("2103 -", "10 - - -");
        Due.is("costs", Halls.costs(hall, 0), "2 1 3 1 2");
    }

    @Holds(promise = 10, sentence = "both sums together (2)")
    static void costOfBothSumsTogether() {
        MatchHall hall = Halls.chain();
        for (int matching = 0; matching < 3; matching++) {
            Due.is("cost(" + matching + ", 2)", hall.cost(matching, 2), 6);
        }
        Due.is("when all have the first places", Halls.worked("0", "0").cost(0, 2), 0);
    }

    @Holds(promise = 10, sentence = "the size of their difference (3)")
    static void costOfTheDifferenceIsNeverBelowNought() {
        MatchHall hall = Halls.two();
        Due.is("the hospitals' sum is greater", hall.cost(0, 3), 2);
        Due.is("the residents' sum is greater", hall.cost(1, 3), 2);
        Due.is("they are the same", Halls.chain().cost(1, 3), 0);
    }

    @Holds(promise = 10, sentence = "the greatest of all these places (4")
    static void costOfTheGreatestOfBothSides() {
        MatchHall residents = Halls.worked("10", "0 -");
        Due.is("the resident's place is greater", residents.cost(0, 4), 1);
        MatchHall hospitals = Halls.worked("0 -", "10");
        Due.is("the hospital's place is greater", hospitals.cost(0, 4), 1);
        Due.is("all have the first places", Halls.worked("0", "0").cost(0, 4), 0);
    }

    @Holds(promise = 10, sentence = "NONE, when nobody has a hospital")
    static void costWhenNobodyHasAHospital() {
        Due.is("nobody lists back", Halls.costs(Halls.nobodyListsBack(), 0), "0 0 0 0 -1");
        Due.is("no lists", Halls.costs(Halls.worked("-", "-"), 0), "0 0 0 0 -1");
    }

    @Holds(promise = 10, sentence = "NONE when there is no such matching or what.")
    static void costRefusesNoSuchMatching() {
        MatchHall hall = Halls.two();
        for (int matching : Halls.outside(0, 1)) {
            Due.is("cost(" + matching + ", 0)", hall.cost(matching, 0), NONE);
            Due.is("cost(" + matching + ", 4)", hall.cost(matching, 4), NONE);
        }
    }

    @Holds(promise = 10, sentence = "NONE when there is no such matching or what.")
    static void costRefusesNoSuchWhat() {
        MatchHall hall = Halls.two();
        for (int what : Halls.outside(0, 4)) {
            Due.is("cost(0, " + what + ")", hall.cost(0, what), NONE);
            Due.is("cost(1, " + what + ")", hall.cost(1, what), NONE);
        }
    }

    @Holds(promise = 10, sentence = "NONE when there is no such matching or what.")
    static void costRefusesWhatIsNotWorkedOut() {
        MatchHall hall = Halls.two();
        hall.seats(0, 2);
        Due.is("costs", Halls.costs(hall, 0), "-1 -1 -1 -1 -1");
        Due.is("costs of a new object", Halls.costs(new MatchHall(), 0), "-1 -1 -1 -1 -1");
    }

    // ---- Promise 11: cheapest

    @Holds(promise = 11, sentence = "The first stable matching for which that cost is least")
    static void cheapestIsTheFirstOfTheSame() {
        MatchHall hall = Halls.two();
        Due.is("both sums are the same in both", hall.cheapest(2), 0);
        Due.is("the differences are", hall.cheapest(3), 0);
        Due.is("the greatest places are", hall.cheapest(4), 0);
        Due.is("the second and third of three", Halls.seated().cheapest(2), 1);
        Due.is("the second and third of four", Halls.twice().cheapest(3), 1);
    }

    @Holds(promise = 11, sentence = "The first stable matching for which that cost is least")
    static void cheapestMayBeTheFirstOrTheLast() {
        MatchHall hall = Halls.triangle();
        Due.is("for the residents", hall.cheapest(0), 0);
        Due.is("for the hospitals", hall.cheapest(1), 47);
        Due.is("of one matching", Halls.worked("0", "0").cheapest(1), 0);
    }

    @Holds(promise = 11, sentence = "(0, when nobody has a hospital)")
    static void cheapestWhenNobodyHasAHospital() {
        MatchHall hall = Halls.nobodyListsBack();
        MatchHall empty = Halls.worked("-", "-");
        for (int what = 0; what <= 4; what++) {
            Due.is("cheapest(" + what + ")", hall.cheapest(what), 0);
            Due.is("cheapest(" + what + ") without lists", empty.cheapest(what), 0);
        }
    }

    @Holds(promise = 11, sentence = "NONE when there is no such what")
    static void cheapestRefusesNoSuchWhat() {
        MatchHall hall = Halls.two();
        MatchHall nobody = Halls.nobodyListsBack();
        for (int what : Halls.outside(0, 4)) {
            Due.is("cheapest(" + what + ")", hall.cheapest(what), NONE);
            Due.is("cheapest(" + what + ") when nobody has a hospital", nobody.cheapest(what), NONE);
        }
    }

    @Holds(promise = 11, sentence = "or it is not worked out")
    static void cheapestRefusesWhatIsNotWorkedOut() {
        MatchHall hall = Halls.of("01 10", "10 01");
        MatchHall gone = Halls.two();
        gone.forget(0, 0);
        for (int what = 0; what <= 4; what++) {
            Due.is("cheapest(" + what + ") before work()", hall.cheapest(what), NONE);
            Due.is("cheapest(" + what + ") when it is gone", gone.cheapest(what), NONE);
        }
    }

    // ---- Promise 12: bound

    @Holds(promise = 12, sentence = "The stable matching in which each resident has the better (kind 0) or the worse one (1) of those that it has in two")
    static void boundOfTheSame() {
        MatchHall hall = Halls.twice();
        for (int i = 0; i < 4; i++) {
            Due.is("the better of " + i + " and itself", hall.bound(0, i, i), i);
            Due.is("the worse of " + i + " and itself", hall.bound(1, i, i), i);
        }
    }

    @Holds(promise = 12, sentence = "The stable matching in which each resident has the better (kind 0) or the worse one (1) of those that it has in two")
    static void boundOfOneBehindAnother() {
        MatchHall hall = Halls.triangle();
        Due.is("the better of the first and the last", hall.bound(0, 0, 47), 0);
        Due.is("the worse of the first and the last", hall.bound(1, 0, 47), 47);
        Due.is("the better of the last and the first", hall.bound(0, 47, 0), 0);
        Due.is("the worse of the last and the first", hall.bound(1, 47, 0), 47);
    }

    @Holds(promise = 12, sentence = "The stable matching in which each resident has the better (kind 0) or the worse one (1) of those that it has in two")
    static void boundOfTwoSideBySide() {
        MatchHall hall = Halls.twice();
        Due.is("bound(0, 1, 2)", hall.bound(0, 1, 2), 0);
        Due.is("bound(0, 2, 1)", hall.bound(0, 2, 1), 0);
        Due.is("bound(1, 1, 2)", hall.bound(1, 1, 2), 3);
        Due.is("bound(1, 2, 1)", hall.bound(1, 2, 1), 3);
    }

    @Holds(promise = 12, sentence = "The stable matching in which each resident has the better (kind 0) or the worse one (1) of those that it has in two")
    static void boundWithOneThatHasNone() {
        MatchHall hall = Halls.oneLeftOut();
        Due.is("bound(0, 1, 0)", hall.bound(0, 1, 0), 0);
        Due.is("bound(1, 0, 1)", hall.bound(1, 0, 1), 1);
        MatchHall nobody = Halls.nobodyListsBack();
        Due.is("when nobody has a hospital, the better", nobody.bound(0, 0, 0), 0);
        Due.is("when nobody has a hospital, the worse", nobody.bound(1, 0, 0), 0);
    }

    @Holds(promise = 12, sentence = "The stable matching in which each resident has the better (kind 0) or the worse one (1) of those that it has in two")
    static void boundLeavesWhatIsTold() {
        MatchHall hall = Halls.twice();
        hall.take(2);
        hall.bound(0, 1, 3);
        Due.is("which()", hall.which(), 2);
    }

    @Holds(promise = 12, sentence = "NONE when there are no such matchings or kind.")
    static void boundRefusesNoSuchMatchings() {
        MatchHall hall = Halls.two();
        for (int matching : Halls.outside(0, 1)) {
            Due.is("bound(0, " + matching + ", 0)", hall.bound(0, matching, 0), NONE);
            Due.is("bound(1, " + matching + ", 1)", hall.bound(1, matching, 1), NONE);
            Due.is("bound(0, 0, " + matching + ")", hall.bound(0, 0, matching), NONE);
            Due.is("bound(1, 1, " + matching + ")", hall.bound(1, 1, matching), NONE);
            Due.is("bound(0, " + matching + ", " + matching + ")", hall.bound(0, matching, matching), NONE);
        }
    }

    @Holds(promise = 12, sentence = "NONE when there are no such matchings or kind.")
    static void boundRefusesNoSuchKind() {
        MatchHall hall = Halls.two();
        for (int kind : Halls.outside(0, 1)) {
            Due.is("bound(" + kind + ", 0, 1)", hall.bound(kind, 0, 1), NONE);
            Due.is("bound(" + kind + ", 1, 1)", hall.bound(kind, 1, 1), NONE);
        }
    }

    @Holds(promise = 12, sentence = "NONE when there are no such matchings or kind.")
    static void boundRefusesWhatIsNotWorkedOut() {
        MatchHall hall = Halls.two();
        hall.make(2, 2);
        Due.is("bound(0, 0, 0)", hall.bound(0, 0, 0), NONE);
        Due.is("bound(1, 0, 1)", hall.bound(1, 0, 1), NONE);
    }

    // ---- Promise 13: behind

    @Holds(promise = 13, sentence = "Whether stable matching k is behind stable matching i: 1, 0")
    static void behindTellsTheFirstAndTheLast() {
        MatchHall hall = Halls.triangle();
        Due.is("behind(0, 47)", hall.behind(0, 47), 1);
        Due.is("behind(47, 0)", hall.behind(47, 0), 0);
        Due.is("behind(0, 1)", hall.behind(0, 1), 1);
        Due.is("behind(46, 47)", hall.behind(46, 47), 1);
    }

    @Holds(promise = 13, sentence = "Whether stable matching k is behind stable matching i: 1, 0")
    static void behindIsNoughtForTheSame() {
        MatchHall hall = Halls.twice();
        for (int i = 0; i < 4; i++) {
            Due.is("behind(" + i + ", " + i + ")", hall.behind(i, i), 0);
        }
        Due.is("the only one", Halls.worked("0", "0").behind(0, 0), 0);
    }

    @Holds(promise = 13, sentence = "Whether stable matching k is behind stable matching i: 1, 0")
    static void behindIsNoughtForTwoSideBySide() {
        MatchHall hall = Halls.twice();
        Due.is("behind(1, 2)", hall.behind(1, 2), 0);
        Due.is("behind(2, 1)", hall.behind(2, 1), 0);
    }

    @Holds(promise = 13, sentence = "NONE when there are no such ones.")
    static void behindRefusesNoSuchMatchings() {
        MatchHall hall = Halls.two();
        for (int matching : Halls.outside(0, 1)) {
            Due.is("behind(" + matching + ", 0)", hall.behind(matching, 0), NONE);
            Due.is("behind(0, " + matching + ")", hall.behind(0, matching), NONE);
            Due.is("behind(" + matching + ", " + matching + ")", hall.behind(matching, matching), NONE);
        }
        hall.seats(1, 1);
        Due.is("behind(0, 1) when it is gone", hall.behind(0, 1), NONE);
        Due.is("behind(0, 0) of a new object", new MatchHall().behind(0, 0), NONE);
    }

    // ---- Promise 14: rotation

    @Holds(promise = 14, sentence = "Of a rotation the i-th least resident (what 0), the hospital that it leaves (1), the one that it gets (2)")
    static void rotationOfAllResidents() {
        MatchHall hall = Halls.longChain();
        for (int i = 0; i < 6; i++) {
            Due.is("rotation(0, " + i + ", 0)", hall.rotation(0, i, 0), i);
            Due.is("rotation(0, " + i + ", 1)", hall.rotation(0, i, 1), i);
            Due.is("rotation(0, " + i + ", 2)", hall.rotation(0, i, 2), (i + 1) % 6);
            Due.is("rotation(4, " + i + ", 0)", hall.rotation(4, i, 0), i);
            Due.is("rotation(4, " + i + ", 1)", hall.rotation(4, i, 1), (i + 4) % 6);
            Due.is("rotation(4, " + i + ", 2)", hall.rotation(4, i, 2), (i + 5) % 6);
        }
    }

    @Holds(promise = 14, sentence = "Of a rotation the i-th least resident (what 0), the hospital that it leaves (1), the one that it gets (2)")
    static void rotationOfTheLastResidents() {
        MatchHall hall = Halls.worked("2 3 - - 01 10", "54 45 0 1");
        Due.is("rotations", Halls.rotations(hall), "401 510");
    }

    @Holds(promise = 14, sentence = "NONE when there is none such.")
    static void rotationRefusesNoSuchRotation() {
        MatchHall hall = Halls.chain();
        for (int k : Halls.outside(0, 1)) {
            for (int what = 0; what <= 2; what++) {
                Due.is("rotation(" + k + ", 0, " + what + ")", hall.rotation(k, 0, what), NONE);
            }
        }
        MatchHall most = Halls.triangle();
        Due.is("rotation(14, 0, 0)", most.rotation(14, 0, 0) == NONE ? 0 : 1, 1);
        Due.is("rotation(15, 0, 0)", most.rotation(15, 0, 0), NONE);
    }

    @Holds(promise = 14, sentence = "NONE when there is none such.")
    static void rotationRefusesNoSuchResidentOfIt() {
        MatchHall hall = Halls.twice();
        for (int i : Halls.outside(0, 1)) {
            for (int what = 0; what <= 2; what++) {
                Due.is("rotation(0, " + i + ", " + what + ")", hall.rotation(0, i, what), NONE);
                Due.is("rotation(1, " + i + ", " + what + ")", hall.rotation(1, i, what), NONE);
            }
        }
        MatchHall all = Halls.longChain();
        Due.is("rotation(0, 6, 0)", all.rotation(0, 6, 0), NONE);
        Due.is("rotation(4, -1, 2)", all.rotation(4, -1, 2), NONE);
    }

    @Holds(promise = 14, sentence = "NONE when there is none such.")
    static void rotationRefusesNoSuchWhat() {
        MatchHall hall = Halls.two();
        for (int what : Halls.outside(0, 2)) {
            Due.is("rotation(0, 0, " + what + ")", hall.rotation(0, 0, what), NONE);
            Due.is("rotation(0, 1, " + what + ")", hall.rotation(0, 1, what), NONE);
        }
    }

    @Holds(promise = 14, sentence = "NONE when there is none such.")
    static void rotationRefusesWhenThereAreNone() {
        Due.is("one matching", Halls.worked("0", "0").rotation(0, 0, 0), NONE);
        Due.is("a new object", new MatchHall().rotation(0, 0, 0), NONE);
        MatchHall hall = Halls.two();
        hall.forget(0, 0);
        Due.is("when it is gone", hall.rotation(0, 0, 0), NONE);
        hall.work();
        Due.is("when the change leaves none", hall.rotation(0, 0, 0), NONE);
    }

    // ---- Promise 15: done

    @Holds(promise = 15, sentence = "Whether a rotation is done in a stable matching: 1, 0")
    static void doneInTheFirstAndTheLast() {
        MatchHall hall = Halls.triangle();
        for (int k = 0; k < 15; k++) {
            Due.is("done(" + k + ", 0)", hall.done(k, 0), 0);
            Due.is("done(" + k + ", 47)", hall.done(k, 47), 1);
        }
    }

    @Holds(promise = 15, sentence = "Whether a rotation is done in a stable matching: 1, 0")
    static void doneOfTwoSideBySide() {
        MatchHall hall = Halls.twice();
        Due.is("done(0, 1)", hall.done(0, 1), 0);
        Due.is("done(1, 1)", hall.done(1, 1), 1);
        Due.is("done(0, 2)", hall.done(0, 2), 1);
        Due.is("done(1, 2)", hall.done(1, 2), 0);
    }

    @Holds(promise = 15, sentence = "NONE when there are no such ones.")
    static void doneRefusesNoSuchRotation() {
        MatchHall hall = Halls.chain();
        for (int k : Halls.outside(0, 1)) {
            Due.is("done(" + k + ", 0)", hall.done(k, 0), NONE);
            Due.is("done(" + k + ", 2)", hall.done(k, 2), NONE);
        }
        Due.is("without rotations", Halls.worked("0", "0").done(0, 0), NONE);
        MatchHall most = Halls.triangle();
        Due.is("done(15, 47)", most.done(15, 47), NONE);
    }

    @Holds(promise = 15, sentence = "NONE when there are no such ones.")
    static void doneRefusesNoSuchMatching() {
        MatchHall hall = Halls.chain();
        for (int matching : Halls.outside(0, 2)) {
            Due.is("done(0, " + matching + ")", hall.done(0, matching), NONE);
            Due.is("done(1, " + matching + ")", hall.done(1, matching), NONE);
        }
        hall.seats(2, 1);
        Due.is("done(0, 0) when it is gone", hall.done(0, 0), NONE);
    }

    // ---- Promise 16: before

    @Holds(promise = 16, sentence = "(also if they are the same)")
    static void beforeIsNoughtForTheSame() {
        MatchHall hall = Halls.chain();
        Due.is("before(0, 0)", hall.before(0, 0), 0);
        Due.is("before(1, 1)", hall.before(1, 1), 0);
        Due.is("the only one", Halls.two().before(0, 0), 0);
    }

    @Holds(promise = 16, sentence = "Whether rotation k comes before rotation l: 1, 0")
    static void beforeIsNotByNumbers() {
        MatchHall hall = Halls.seated();
        Due.is("before(0, 1)", hall.before(0, 1), 0);
        Due.is("before(1, 0)", hall.before(1, 0), 1);
        MatchHall sides = Halls.twice();
        Due.is("side by side, before(0, 1)", sides.before(0, 1), 0);
        Due.is("side by side, before(1, 0)", sides.before(1, 0), 0);
    }

    @Holds(promise = 16, sentence = "NONE when there are no such ones.")
    static void beforeRefusesNoSuchRotations() {
        MatchHall hall = Halls.chain();
        for (int k : Halls.outside(0, 1)) {
            Due.is("before(" + k + ", 0)", hall.before(k, 0), NONE);
            Due.is("before(0, " + k + ")", hall.before(0, k), NONE);
            Due.is("before(" + k + ", " + k + ")", hall.before(k, k), NONE);
        }
        Due.is("without rotations", Halls.worked("0", "0").before(0, 0), NONE);
        hall.make(3, 3);
        Due.is("before(0, 1) when it is gone", hall.before(0, 1), NONE);
        Due.is("before(0, 0) of a new object", new MatchHall().before(0, 0), NONE);
        Due.is("before(15, 0) of fifteen", Halls.triangle().before(15, 0), NONE);
    }
}
