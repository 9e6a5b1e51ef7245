/**
 * Each promise of the document by itself: ordinary inputs, the edges that the document names, and
 * wrong inputs. The instances are small enough to be worked out by hand.
 */
public final class PromisesTest {
    private static final int NONE = Halls.NONE;
    private static final int[] NO_NUMBERS = {-1, Integer.MIN_VALUE, Integer.MAX_VALUE, 1000};

    public static void main(String[] args) {
        newObject();
        make();
        seats();
        prefer();
        forget();
        listed();
        work();
        workIsGone();
        workStays();
        count();
        hospital();
        cost();
        cheapest();
        bound();
        behind();
        rotation();
        done();
        before();
        tell();
        take();
        fits();
        blocks();
        blocking();
        which();
        check();
        mostStableMatchings();
        Due.end();
    }

    private static void newObject() {
        Due.under("promise 1");
        MatchHall hall = new MatchHall();
        Due.is("prefer of resident 1", hall.prefer(0, 1, 0), NONE);
        Due.is("prefer of hospital 1", hall.prefer(1, 1, 0), NONE);
        Due.is("prefer for hospital 1", hall.prefer(0, 0, 1), NONE);
        Due.is("lists of resident 0", Halls.listOf(hall, 0, 0), "-");
        Due.is("lists of hospital 0", Halls.listOf(hall, 1, 0), "-");
        Due.is("count(0)", hall.count(0), NONE);
        Due.is("check()", hall.check(), NONE);
        Due.is("fits()", hall.fits(), 1);
        Due.is("blocks()", hall.blocks(), 0);
        Due.is("which()", hall.which(), NONE);
        Due.is("work()", hall.work(), 1);
        Due.is("which() of nobody told", hall.which(), 0);
        Due.is("one resident", hall.forget(0, 0), 0);
        Due.is("one hospital", hall.forget(1, 0), 0);
        Due.is("no resident more", hall.forget(0, 1), NONE);
        Due.is("no hospital more", hall.forget(1, 1), NONE);
        Due.is("NONE", MatchHall.NONE, -1);
    }

    private static void make() {
        Due.under("promise 2");
        MatchHall hall = new MatchHall();
        for (int many = 1; many <= 6; many++) {
            int n = many;
            Due.passes("make(" + n + ", " + (7 - n) + ")", () -> hall.make(n, 7 - n));
            Due.is("last resident", hall.forget(0, n - 1), 0);
            Due.is("one resident more", hall.forget(0, n), NONE);
            Due.is("last hospital", hall.forget(1, 6 - n), 0);
            Due.is("one hospital more", hall.forget(1, 7 - n), NONE);
        }
        makeRefuses();
        makeClears();
    }

    private static void makeRefuses() {
        int[] wrongNumbers = {0, 7, -1, Integer.MIN_VALUE, Integer.MAX_VALUE};
        for (int many : wrongNumbers) {
            MatchHall hall = Halls.two();
            hall.take(1);
            Due.throwsArgument("make(" + many + ", 2)", () -> hall.make(many, 2));
            Due.throwsArgument("make(2, " + many + ")", () -> hall.make(2, many));
            Due.throwsArgument("make(" + many + ", 0)", () -> hall.make(many, 0));
            Due.is("what is told stays", hall.which(), 1);
            Due.is("lists stay", Halls.listOf(hall, 0, 1), "10");
            Due.is("matchings stay", Halls.matchings(hall, 2), "01 10");
        }
    }

    private static void makeClears() {
        MatchHall hall = Halls.two();
        hall.seats(0, 3);
        hall.work();
        hall.tell(0, 0);
        hall.tell(1, 0);
        hall.make(2, 2);
        Due.is("count(0)", hall.count(0), NONE);
        Due.is("nobody is told", hall.fits(), 1);
        Due.is("lists are empty", Halls.listOf(hall, 0, 0) + Halls.listOf(hall, 1, 1), "--");
        Halls.fillSide(hall, 0, "0 0");
        Halls.fillSide(hall, 1, "01");
        hall.work();
        Due.is("matchings with one seat", Halls.matchings(hall, 2), "0-");
        hall.make(1, 1);
        hall.make(6, 6);
        Due.is("lists after a smaller make", Halls.listOf(hall, 0, 1) + Halls.listOf(hall, 1, 0), "--");
    }

    private static void seats() {
        Due.under("promise 3");
        MatchHall hall = Halls.of("0 0 0 0", "3210");
        String[] due = {"---0", "--00", "-000"};
        for (int many = 1; many <= 3; many++) {
            int seats = many;
            Due.passes("seats(0, " + many + ")", () -> hall.seats(0, seats));
            hall.work();
            Due.is("matchings with " + many + " seats", Halls.matchings(hall, 4), due[many - 1]);
        }
        int[] wrongNumbers = {0, 4, -1, Integer.MIN_VALUE, Integer.MAX_VALUE};
        for (int many : wrongNumbers) {
            Due.throwsArgument("seats(0, " + many + ")", () -> hall.seats(0, many));
            Due.throwsIndex("seats(1, " + many + ")", () -> hall.seats(1, many));
        }
        for (int no : NO_NUMBERS) {
            Due.throwsIndex("seats(" + no + ", 2)", () -> hall.seats(no, 2));
        }
        Due.is("matchings stay", Halls.matchings(hall, 4), "-000");
        hall.work();
        Due.is("seats stay", Halls.matchings(hall, 4), "-000");
    }

    private static void prefer() {
        Due.under("promise 4");
        MatchHall hall = new MatchHall();
        hall.make(2, 3);
        Due.is("first", hall.prefer(0, 1, 2), 1);
        Due.is("second", hall.prefer(0, 1, 0), 2);
        Due.is("again the first", hall.prefer(0, 1, 2), NONE);
        Due.is("again the second", hall.prefer(0, 1, 0), NONE);
        Due.is("third", hall.prefer(0, 1, 1), 3);
        Due.is("resident 1", Halls.listOf(hall, 0, 1), "201");
        Due.is("resident 0", Halls.listOf(hall, 0, 0), "-");
        Due.is("hospital 2 is another list", hall.prefer(1, 2, 1), 1);
        Due.is("hospital 2", Halls.listOf(hall, 1, 2), "1");
        Due.is("no resident 2", hall.prefer(0, 2, 0), NONE);
        Due.is("no hospital 3", hall.prefer(1, 3, 0), NONE);
        Due.is("no hospital 3 to list", hall.prefer(0, 0, 3), NONE);
        Due.is("no resident 2 to list", hall.prefer(1, 0, 2), NONE);
        Due.is("no side 2", hall.prefer(2, 0, 0), NONE);
        for (int no : NO_NUMBERS) {
            Due.is("side " + no, hall.prefer(no, 0, 0), NONE);
            Due.is("who " + no, hall.prefer(0, no, 0) + hall.prefer(1, no, 0), 2 * NONE);
            Due.is("whom " + no, hall.prefer(0, 0, no) + hall.prefer(1, 0, no), 2 * NONE);
        }
        Due.is("resident 0 after wrong calls", Halls.listOf(hall, 0, 0), "-");
        Due.is("hospital 0 after wrong calls", Halls.listOf(hall, 1, 0), "-");
    }

    private static void forget() {
        Due.under("promise 5");
        MatchHall hall = Halls.of("012 1 -", "0 - 210");
        Due.is("three", hall.forget(0, 0), 3);
        Due.is("none left", hall.forget(0, 0), 0);
        Due.is("resident 0", Halls.listOf(hall, 0, 0), "-");
        Due.is("resident 1 stays", Halls.listOf(hall, 0, 1), "1");
        Due.is("hospital 0 stays", Halls.listOf(hall, 1, 0), "0");
        Due.is("hospital 2", hall.forget(1, 2), 3);
        Due.is("hospital 1", hall.forget(1, 1), 0);
        Due.is("a new list", hall.prefer(0, 0, 2), 1);
        Due.is("resident 0 again", Halls.listOf(hall, 0, 0), "2");
        Due.is("no resident 3", hall.forget(0, 3), NONE);
        Due.is("no hospital 3", hall.forget(1, 3), NONE);
        Due.is("no side 2", hall.forget(2, 0), NONE);
        for (int no : NO_NUMBERS) {
            Due.is("side " + no, hall.forget(no, 0), NONE);
            Due.is("who " + no, hall.forget(0, no) + hall.forget(1, no), 2 * NONE);
        }
    }

    private static void listed() {
        Due.under("promise 6");
        MatchHall hall = Halls.of("20 1", "10 - 0");
        Due.is("resident 0, place 0", hall.listed(0, 0, 0), 2);
        Due.is("resident 0, place 1", hall.listed(0, 0, 1), 0);
        Due.is("resident 0, place 2", hall.listed(0, 0, 2), NONE);
        Due.is("hospital 0, place 0", hall.listed(1, 0, 0), 1);
        Due.is("hospital 1, place 0", hall.listed(1, 1, 0), NONE);
        Due.is("hospital 2, place 0", hall.listed(1, 2, 0), 0);
        Due.is("no resident 2", hall.listed(0, 2, 0), NONE);
        Due.is("no hospital 3", hall.listed(1, 3, 0), NONE);
        Due.is("no side 2", hall.listed(2, 0, 0), NONE);
        for (int no : NO_NUMBERS) {
            Due.is("side " + no, hall.listed(no, 0, 0), NONE);
            Due.is("who " + no, hall.listed(0, no, 0) + hall.listed(1, no, 0), 2 * NONE);
            Due.is("place " + no, hall.listed(0, 0, no) + hall.listed(1, 0, no), 2 * NONE);
            Due.is("place " + no + " of an empty list", hall.listed(1, 1, no), NONE);
        }
    }

    private static void work() {
        Due.under("promise 7");
        Due.is("two", Halls.of("01 10", "10 01").work(), 2);
        Due.is("two that agree", Halls.of("01 10", "01 10").work(), 1);
        Due.is("nobody lists anybody", Halls.of("- -", "- -").work(), 1);
        Due.is("one side lists", Halls.of("01 10", "- -").work(), 1);
        Due.is("twice", Halls.twice().work(), 4);
        Due.is("chain", Halls.chain().work(), 3);
        Due.is("seated", Halls.seated().work(), 3);
        Due.is("one left out", Halls.oneLeftOut().work(), 2);
        Due.is("four", Halls.of("0123 1032 2301 3210", "3210 2301 1032 0123").work(), 10);
        Due.is("a list of one side has no weight", Halls.of("0 10", "10 1").work(), 1);
        MatchHall hall = Halls.two();
        Due.is("again", hall.work(), 2);
        Due.is("and again", hall.work(), 2);
    }

    private static void workIsGone() {
        Due.under("promise 7");
        MatchHall hall = new MatchHall();
        Runnable[] deeds = {
            () -> hall.make(2, 2),
            () -> hall.seats(0, 1),
            () -> hall.seats(1, 2),
            () -> hall.forget(0, 0),
            () -> hall.forget(1, 2),
            () -> hall.prefer(0, 0, 2),
            () -> hall.prefer(1, 2, 1),
        };
        for (int i = 0; i < deeds.length; i++) {
            Halls.fill(hall, "01 10", "10 01 -");
            Due.is("worked out before deed " + i, hall.work(), 2);
            hall.take(1);
            deeds[i].run();
            nothingIsWorkedOut(hall, "after deed " + i);
        }
    }

    private static void nothingIsWorkedOut(MatchHall hall, String when) {
        for (int what = 0; what <= 3; what++) {
            Due.is("count(" + what + ") " + when, hall.count(what), NONE);
        }
        Due.is("hospital(0, 0) " + when, hall.hospital(0, 0), NONE);
        Due.is("cost(0, 0) " + when, hall.cost(0, 0), NONE);
        Due.is("cheapest(0) " + when, hall.cheapest(0), NONE);
        Due.is("bound(0, 0, 0) " + when, hall.bound(0, 0, 0), NONE);
        Due.is("behind(0, 0) " + when, hall.behind(0, 0), NONE);
        Due.is("rotation(0, 0, 0) " + when, hall.rotation(0, 0, 0), NONE);
        Due.is("done(0, 0) " + when, hall.done(0, 0), NONE);
        Due.is("before(0, 0) " + when, hall.before(0, 0), NONE);
        Due.throwsIndex("take(0) " + when, () -> hall.take(0));
        Due.is("which() " + when, hall.which(), NONE);
        Due.is("check() " + when, hall.check(), NONE);
    }

    private static void workStays() {
        Due.under("promise 7");
        MatchHall hall = Halls.two();
        Due.is("prefer of one that is listed", hall.prefer(0, 0, 1), NONE);
        Due.is("prefer of a side that is not", hall.prefer(2, 0, 1), NONE);
        Due.is("forget of a list that is not", hall.forget(0, 2), NONE);
        Due.throwsIndex("seats of no hospital", () -> hall.seats(2, 1));
        Due.throwsArgument("no seats", () -> hall.seats(0, 0));
        Due.throwsArgument("make of nobody", () -> hall.make(0, 0));
        hall.tell(0, 1);
        hall.take(0);
        Due.throwsIndex("take of none", () -> hall.take(2));
        Due.throwsIndex("tell of none", () -> hall.tell(2, 0));
        Due.is("count(0)", hall.count(0), 2);
        Due.is("matchings", Halls.matchings(hall, 2), "01 10");
        Due.is("which()", hall.which(), 0);
    }

    private static void count() {
        Due.under("promise 8");
        MatchHall hall = Halls.oneLeftOut();
        Due.is("stable matchings", hall.count(0), 2);
        Due.is("rotations", hall.count(1), 1);
        Due.is("pairs", hall.count(2), 6);
        Due.is("residents with hospitals", hall.count(3), 2);
        Due.is("count(4)", hall.count(4), NONE);
        for (int no : NO_NUMBERS) {
            Due.is("count(" + no + ")", hall.count(no), NONE);
        }
        MatchHall oneSided = Halls.of("012 0", "1 01 -");
        Due.is("pairs before work", oneSided.count(2), NONE);
        oneSided.work();
        Due.is("pairs that list each other", oneSided.count(2), 2);
        Due.is("residents of these", oneSided.count(3), 2);
        Due.is("no rotations", oneSided.count(1), 0);
        Due.is("rotations of twice", Halls.twice().count(1), 2);
        Due.is("rotations of the chain", Halls.chain().count(1), 2);
        MatchHall nobody = new MatchHall();
        nobody.work();
        Due.is("nobody's matchings", nobody.count(0), 1);
        Due.is("nobody's hospitals", nobody.count(3), 0);
    }

    private static void hospital() {
        Due.under("promise 9");
        Due.is("two", Halls.matchings(Halls.two(), 2), "01 10");
        Due.is("twice", Halls.matchings(Halls.twice(), 4), "0123 0132 1023 1032");
        Due.is("chain", Halls.matchings(Halls.chain(), 3), "012 120 201");
        Due.is("seated", Halls.matchings(Halls.seated(), 4), "1002 1020 0120");
        Due.is("one left out", Halls.matchings(Halls.oneLeftOut(), 3), "01- 10-");
        MatchHall byPlace = Halls.of("10 01", "01 10");
        byPlace.work();
        Due.is("the better hospital first, not the lesser number", Halls.matchings(byPlace, 2), "10 01");
        MatchHall hall = Halls.two();
        Due.is("no matching 2", hall.hospital(2, 0), NONE);
        Due.is("no resident 2", hall.hospital(0, 2), NONE);
        Due.is("no resident 5", hall.hospital(0, 5), NONE);
        Due.is("no resident 6", hall.hospital(0, 6), NONE);
        for (int no : NO_NUMBERS) {
            Due.is("matching " + no, hall.hospital(no, 0), NONE);
            Due.is("resident " + no, hall.hospital(0, no), NONE);
            Due.is("resident " + no + " of matching 1", hall.hospital(1, no), NONE);
        }
    }

    private static void cost() {
        Due.under("promise 10");
        Due.is("seated 0", Halls.costs(Halls.seated(), 0), "0 7 7 7 3");
        Due.is("seated 1", Halls.costs(Halls.seated(), 1), "2 3 5 1 2");
        Due.is("seated 2", Halls.costs(Halls.seated(), 2), "4 1 5 3 1");
        MatchHall far = Halls.of("210 0", "10 - -");
        far.work();
        Due.is("one that lists a hospital that does not list it", Halls.matchings(far, 2), "-0");
        Due.is("its costs", Halls.costs(far, 0), "0 0 0 0 0");
        MatchHall late = Halls.of("2103 -", "10 - - -");
        late.work();
        Due.is("a place is counted in the whole list", Halls.costs(late, 0), "2 1 3 1 2");
        MatchHall nobody = Halls.of("0 1", "- -");
        nobody.work();
        Due.is("nobody has a hospital", Halls.costs(nobody, 0), "0 0 0 0 -1");
        MatchHall hall = Halls.two();
        Due.is("no what 5", hall.cost(0, 5), NONE);
        Due.is("no matching 2", hall.cost(2, 0), NONE);
        for (int no : NO_NUMBERS) {
            Due.is("what " + no, hall.cost(0, no), NONE);
            Due.is("matching " + no, hall.cost(no, 0), NONE);
        }
    }

    private static void cheapest() {
        Due.under("promise 11");
        MatchHall hall = Halls.seated();
        Due.is("cheapest(0)", hall.cheapest(0), 0);
        Due.is("cheapest(1)", hall.cheapest(1), 2);
        Due.is("cheapest(2), the first of two", hall.cheapest(2), 1);
        Due.is("cheapest(3)", hall.cheapest(3), 1);
        Due.is("cheapest(4)", hall.cheapest(4), 2);
        Due.is("cheapest(5)", hall.cheapest(5), NONE);
        for (int no : NO_NUMBERS) {
            Due.is("cheapest(" + no + ")", hall.cheapest(no), NONE);
        }
        MatchHall nobody = Halls.of("0 1", "- -");
        Due.is("not worked out", nobody.cheapest(0), NONE);
        nobody.work();
        for (int what = 0; what <= 4; what++) {
            Due.is("cheapest(" + what + ") when nobody has a hospital", nobody.cheapest(what), 0);
        }
        Due.is("the same costs of twice", Halls.twice().cheapest(2), 0);
        Due.is("the middle of twice", Halls.twice().cheapest(3), 1);
    }

    private static void bound() {
        Due.under("promise 12");
        MatchHall hall = Halls.twice();
        Due.is("the better of 1 and 2", hall.bound(0, 1, 2), 0);
        Due.is("the worse of 1 and 2", hall.bound(1, 1, 2), 3);
        Due.is("the better of 2 and 1", hall.bound(0, 2, 1), 0);
        Due.is("the worse of 2 and 1", hall.bound(1, 2, 1), 3);
        Due.is("the better of 1 and 3", hall.bound(0, 1, 3), 1);
        Due.is("the worse of 3 and 2", hall.bound(1, 3, 2), 3);
        Due.is("the better of 2 and 2", hall.bound(0, 2, 2), 2);
        Due.is("the worse of 2 and 2", hall.bound(1, 2, 2), 2);
        Due.is("with one left out", Halls.oneLeftOut().bound(1, 0, 1), 1);
        Due.is("no kind 2", hall.bound(2, 0, 0), NONE);
        Due.is("no matching 4", hall.bound(0, 4, 0), NONE);
        Due.is("no other matching 4", hall.bound(1, 0, 4), NONE);
        for (int no : NO_NUMBERS) {
            Due.is("kind " + no, hall.bound(no, 0, 0), NONE);
            Due.is("first " + no, hall.bound(0, no, 0), NONE);
            Due.is("second " + no, hall.bound(1, 0, no), NONE);
        }
    }

    private static void behind() {
        Due.under("promise 13");
        MatchHall hall = Halls.twice();
        String[] due = {"0111", "0001", "0001", "0000"};
        for (int i = 0; i < 4; i++) {
            for (int k = 0; k < 4; k++) {
                Due.is("behind(" + i + ", " + k + ")", hall.behind(i, k), due[i].charAt(k) - '0');
            }
        }
        Due.is("with one left out", Halls.oneLeftOut().behind(0, 1), 1);
        Due.is("no matching 4", hall.behind(4, 0), NONE);
        Due.is("no other matching 4", hall.behind(0, 4), NONE);
        for (int no : NO_NUMBERS) {
            Due.is("first " + no, hall.behind(no, 0), NONE);
            Due.is("second " + no, hall.behind(0, no), NONE);
        }
    }

    private static void rotation() {
        Due.under("promise 14");
        Due.is("two", Halls.rotations(Halls.two()), "001 110");
        Due.is("twice", Halls.rotations(Halls.twice()), "001 110 | 223 332");
        Due.is("chain", Halls.rotations(Halls.chain()), "001 112 220 | 012 120 201");
        Due.is("seated", Halls.rotations(Halls.seated()), "010 101 | 202 320");
        Due.is("one left out", Halls.rotations(Halls.oneLeftOut()), "001 110");
        MatchHall four = Halls.of("0123 1032 2301 3210", "3210 2301 1032 0123");
        four.work();
        Due.is("four", Halls.rotations(four), "001 110 | 012 321 | 023 132 | 103 230 | 223 332 | 201 310");
        MatchHall byPlace = Halls.of("210 102 021", "012 201 120");
        byPlace.work();
        Due.is("by the place, not the number, of the hospital", Halls.rotations(byPlace), "021 110 202 | 010 102 221");
        MatchHall hall = Halls.chain();
        Due.is("no rotation 2", hall.rotation(2, 0, 0), NONE);
        Due.is("no resident 3 of it", hall.rotation(0, 3, 0), NONE);
        Due.is("no hospital of resident 3 of it", hall.rotation(0, 3, 1), NONE);
        Due.is("no what 3", hall.rotation(0, 0, 3), NONE);
        for (int no : NO_NUMBERS) {
            Due.is("rotation " + no, hall.rotation(no, 0, 0), NONE);
            Due.is("resident " + no, hall.rotation(0, no, 0), NONE);
            Due.is("what " + no, hall.rotation(0, 0, no), NONE);
        }
    }

    private static void done() {
        Due.under("promise 15");
        MatchHall twice = Halls.twice();
        MatchHall chain = Halls.chain();
        String[] dueOfTwice = {"0011", "0101"};
        String[] dueOfChain = {"011", "001"};
        for (int k = 0; k < 2; k++) {
            for (int matching = 0; matching < 4; matching++) {
                Due.is("twice, done(" + k + ", " + matching + ")", twice.done(k, matching),
                    dueOfTwice[k].charAt(matching) - '0');
            }
            for (int matching = 0; matching < 3; matching++) {
                Due.is("chain, done(" + k + ", " + matching + ")", chain.done(k, matching),
                    dueOfChain[k].charAt(matching) - '0');
            }
        }
        Due.is("no rotation 2", chain.done(2, 0), NONE);
        Due.is("no matching 3", chain.done(0, 3), NONE);
        for (int no : NO_NUMBERS) {
            Due.is("rotation " + no, chain.done(no, 0), NONE);
            Due.is("matching " + no, chain.done(0, no), NONE);
        }
        Due.is("rotation 32", chain.done(32, 0), NONE);
    }

    private static void before() {
        Due.under("promise 16");
        MatchHall chain = Halls.chain();
        Due.is("chain, before(0, 1)", chain.before(0, 1), 1);
        Due.is("chain, before(1, 0)", chain.before(1, 0), 0);
        Due.is("chain, before(0, 0)", chain.before(0, 0), 0);
        Due.is("chain, before(1, 1)", chain.before(1, 1), 0);
        MatchHall twice = Halls.twice();
        Due.is("twice, before(0, 1)", twice.before(0, 1), 0);
        Due.is("twice, before(1, 0)", twice.before(1, 0), 0);
        MatchHall seated = Halls.seated();
        Due.is("seated, before(0, 1)", seated.before(0, 1), 0);
        Due.is("seated, before(1, 0)", seated.before(1, 0), 1);
        Due.is("no rotation 2", chain.before(2, 0), NONE);
        Due.is("no other rotation 2", chain.before(0, 2), NONE);
        Due.is("no rotation 2 twice", chain.before(2, 2), NONE);
        for (int no : NO_NUMBERS) {
            Due.is("first " + no, chain.before(no, 0), NONE);
            Due.is("second " + no, chain.before(0, no), NONE);
        }
    }

    private static void tell() {
        Due.under("promise 17");
        MatchHall hall = Halls.two();
        Due.passes("tell(0, 1)", () -> hall.tell(0, 1));
        Due.passes("tell(1, 0)", () -> hall.tell(1, 0));
        Due.is("which()", hall.which(), 1);
        Due.throwsIndex("tell(2, 0)", () -> hall.tell(2, 0));
        Due.throwsIndex("tell(0, 2)", () -> hall.tell(0, 2));
        Due.throwsIndex("tell(0, -2)", () -> hall.tell(0, -2));
        Due.throwsIndex("tell(2, NONE)", () -> hall.tell(2, NONE));
        for (int no : NO_NUMBERS) {
            Due.throwsIndex("tell(" + no + ", 0)", () -> hall.tell(no, 0));
            if (no != NONE) {
                Due.throwsIndex("tell(1, " + no + ")", () -> hall.tell(1, no));
            }
        }
        Due.is("which() after wrong calls", hall.which(), 1);
        Due.passes("tell(1, NONE)", () -> hall.tell(1, NONE));
        Due.is("blocks()", hall.blocks(), 2);
        Due.is("resident 0 with the hospital that is free now", hall.blocking(0), 0);
        Due.is("resident 1 with it", hall.blocking(1), 8);
        MatchHall strangers = Halls.of("- -", "- -");
        Due.passes("one that is not listed may be told", () -> strangers.tell(0, 1));
        Due.is("but is no matching", strangers.fits(), 0);
    }

    private static void take() {
        Due.under("promise 18");
        MatchHall hall = Halls.oneLeftOut();
        Halls.tellAll(hall, "222");
        Due.passes("take(1)", () -> hall.take(1));
        Due.is("which()", hall.which(), 1);
        Due.is("fits()", hall.fits(), 1);
        Due.is("blocks()", hall.blocks(), 0);
        Due.throwsIndex("take(2)", () -> hall.take(2));
        for (int no : NO_NUMBERS) {
            Due.throwsIndex("take(" + no + ")", () -> hall.take(no));
        }
        Due.is("which() after wrong calls", hall.which(), 1);
        hall.forget(0, 2);
        Due.is("it stays told when the work is gone", hall.blocks(), 0);
        Due.throwsIndex("take(0) when the work is gone", () -> hall.take(0));
        hall.work();
        Due.is("it is still told", hall.which(), 1);
        hall.take(0);
        Due.is("which() after take(0)", hall.which(), 0);
    }

    private static void fits() {
        Due.under("promise 19");
        MatchHall hall = Halls.of("01 01 0 1", "012 10 -");
        Due.is("nobody is told", hall.fits(), 1);
        String[] rows = {"0---", "01--", "10--", "1-0-", "00--", "0-0-", "--1-", "---1", "2---", "---2"};
        int[] due = {1, 1, 1, 1, 0, 0, 0, 0, 0, 0};
        for (int i = 0; i < rows.length; i++) {
            Halls.tellAll(hall, rows[i]);
            Due.is(rows[i], hall.fits(), due[i]);
        }
        hall.seats(0, 2);
        Halls.tellAll(hall, "00--");
        Due.is("two in two seats", hall.fits(), 1);
        Halls.tellAll(hall, "000-");
        Due.is("three in two seats", hall.fits(), 0);
        hall.seats(0, 3);
        Due.is("three in three seats", hall.fits(), 1);
        hall.forget(1, 0);
        Due.is("the hospital lists nobody", hall.fits(), 0);
    }

    private static void blocks() {
        Due.under("promise 20");
        MatchHall hall = Halls.of("01 10 01", "102 012 -");
        String[] rows = {"---", "01-", "10-", "0-1", "-01", "2--", "00-", "1-0", "--0", "10-"};
        int[] due = {6, 0, 0, 2, 2, NONE, NONE, 2, 4, 0};
        for (int i = 0; i < rows.length; i++) {
            Halls.tellAll(hall, rows[i]);
            Due.is(rows[i], hall.blocks(), due[i]);
        }
        Halls.tellAll(hall, "01-");
        hall.seats(1, 2);
        Due.is("a seat is left for resident 2", hall.blocks(), 1);
        Halls.tellAll(hall, "011");
        Due.is("the seats are taken", hall.blocks(), 0);
        MatchHall oneSided = Halls.of("01", "- 0");
        oneSided.tell(0, 1);
        Due.is("one that does not list back blocks nothing", oneSided.blocks(), 0);
        oneSided.prefer(1, 0, 0);
        Due.is("one that lists back blocks", oneSided.blocks(), 1);
    }

    private static void blocking() {
        Due.under("promise 21");
        MatchHall hall = Halls.of("01 10 01", "102 012 -");
        int[] all = {0, 1, 8, 9, 16, 17, NONE};
        for (int i = 0; i < all.length; i++) {
            Due.is("nobody is told, blocking(" + i + ")", hall.blocking(i), all[i]);
        }
        Halls.tellAll(hall, "--0");
        int[] some = {0, 1, 8, 9, NONE};
        for (int i = 0; i < some.length; i++) {
            Due.is("--0, blocking(" + i + ")", hall.blocking(i), some[i]);
        }
        for (int no : NO_NUMBERS) {
            Due.is("blocking(" + no + ")", hall.blocking(no), NONE);
        }
        Halls.tellAll(hall, "00-");
        Due.is("no matching", hall.blocking(0), NONE);
        Halls.tellAll(hall, "01-");
        Due.is("a stable one", hall.blocking(0), NONE);
        MatchHall last = Halls.of("5 - - - - 5", "- - - - - 50");
        last.tell(0, 5);
        Due.is("the last pair of all", last.blocking(0), 45);
    }

    private static void which() {
        Due.under("promise 22");
        MatchHall hall = Halls.of("012 120 201", "120 201 012");
        Halls.tellAll(hall, "012");
        Due.is("not worked out", hall.which(), NONE);
        hall.work();
        String[] rows = {"012", "120", "201", "021", "01-", "---", "000"};
        int[] due = {0, 1, 2, NONE, NONE, NONE, NONE};
        for (int i = 0; i < rows.length; i++) {
            Halls.tellAll(hall, rows[i]);
            Due.is(rows[i], hall.which(), due[i]);
        }
        MatchHall left = Halls.oneLeftOut();
        Halls.tellAll(left, "10-");
        Due.is("one left out", left.which(), 1);
        Halls.tellAll(left, "102");
        Due.is("one left out is told a hospital", left.which(), NONE);
    }

    private static void check() {
        Due.under("promise 23");
        MatchHall[] halls = {Halls.two(), Halls.twice(), Halls.chain(), Halls.seated(), Halls.oneLeftOut()};
        for (MatchHall hall : halls) {
            Due.is("check()", hall.check(), 1);
            hall.tell(0, NONE);
            Due.is("check() whatever is told", hall.check(), 1);
            Due.is("check() leaves what is told", hall.which(), NONE);
        }
        MatchHall hall = Halls.two();
        hall.seats(0, 1);
        Due.is("not worked out", hall.check(), NONE);
        hall.work();
        Due.is("worked out again", hall.check(), 1);
    }

    /** The turns and mirrors of a triangle: six by six with 48 stable matchings and 15 rotations. */
    private static void mostStableMatchings() {
        Due.under("promise 7");
        MatchHall hall = Halls.triangle();
        Due.is("work()", hall.work(), 48);
        Due.is("count(1)", hall.count(1), 15);
        Due.is("check()", hall.check(), 1);
        Due.is("the last matching has the worst for all", hall.cost(47, 0), 30);
        Due.is("and the best for the hospitals", hall.cost(47, 1), 0);
        Due.is("bound(1, 0, 47)", hall.bound(1, 0, 47), 47);
        Due.is("done(14, 47)", hall.done(14, 47), 1);
        Due.is("rotation(15, 0, 0)", hall.rotation(15, 0, 0), NONE);
    }
}
