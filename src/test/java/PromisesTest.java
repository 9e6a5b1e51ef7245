/**
 * Each promise of the document by itself: ordinary inputs, the edges that the document names, and
 * wrong inputs. The instances are small enough to be worked out by hand.
 */
public final class PromisesTest {
    private static final int NONE = -1;
    private static final int NOTHING = 0;
    private static final int INDEX = 1;
    private static final int ARGUMENT = 2;
    private static final int OTHER = 3;
    private static final int[] NO_NUMBERS = {-1, Integer.MIN_VALUE, Integer.MAX_VALUE, 1000};

    private static int promise = 0;
    private static int wrong = 0;

    public static void main(String[] args) {
        newObject();
        make();
        seats();
        prefer();
        forget();
        listed();
        work();
        workIsGone();
        workStays();
        count();
        hospital();
        cost();
        cheapest();
        bound();
        behind();
        rotation();
        done();
        before();
        tell();
        take();
        fits();
        blocks();
        blocking();
        which();
        check();
        mostStableMatchings();
        System.out.println(wrong == 0 ? "all answers are as due" : wrong + " answers are not as due");
        if (wrong != 0) {
            System.exit(1);
        }
    }

    private static void due(String what, int got, int want) {
        if (got != want) {
            wrong++;
            System.out.println("promise " + promise + ": " + what + " is " + got + ", due is " + want);
        }
    }

    private static void due(String what, String got, String want) {
        if (!got.equals(want)) {
            wrong++;
            System.out.println("promise " + promise + ": " + what + " is " + got + ", due is " + want);
        }
    }

    /** A call that answers nothing. */
    private interface Deed {
        void run();
    }

    private static int thrownBy(Deed deed) {
        try {
            deed.run();
            return NOTHING;
        } catch (RuntimeException e) {
            if (e.getClass() == IndexOutOfBoundsException.class) {
                return INDEX;
            }
            return e.getClass() == IllegalArgumentException.class ? ARGUMENT : OTHER;
        }
    }

    // ---- instances: a list is a text of digits, better ones first; lists are parted by blanks

    private static MatchHall hall(String residents, String hospitals) {
        MatchHall hall = new MatchHall();
        fill(hall, residents, hospitals);
        return hall;
    }

    private static void fill(MatchHall hall, String residents, String hospitals) {
        String[] ofResidents = residents.split(" ");
        String[] ofHospitals = hospitals.split(" ");
        hall.make(ofResidents.length, ofHospitals.length);
        fillSide(hall, 0, ofResidents);
        fillSide(hall, 1, ofHospitals);
    }

    private static void fillSide(MatchHall hall, int side, String[] lists) {
        for (int who = 0; who < lists.length; who++) {
            for (char whom : lists[who].toCharArray()) {
                if (whom != '-') {
                    hall.prefer(side, who, whom - '0');
                }
            }
        }
    }

    /** Two stable matchings, 01 and 10, and one rotation. */
    private static MatchHall two() {
        MatchHall hall = hall("01 10", "10 01");
        hall.work();
        return hall;
    }

    /** Two by two, side by side: 0123, 0132, 1023, 1032, with rotations of residents 0, 1 and 2, 3. */
    private static MatchHall twice() {
        MatchHall hall = hall("01 10 23 32", "10 01 32 23");
        hall.work();
        return hall;
    }

    /** A chain: 012, 120, 201, with a rotation of all three residents that comes before another one. */
    private static MatchHall chain() {
        MatchHall hall = hall("012 120 201", "120 201 012");
        hall.work();
        return hall;
    }

    /** Hospital 0 has two seats: 1002, 1020, 0120. */
    private static MatchHall seated() {
        MatchHall hall = hall("10 01 02 20", "3012 10 23");
        hall.seats(0, 2);
        hall.work();
        return hall;
    }

    /** Resident 2 has no hospital in any stable matching; hospital 2 has nobody. */
    private static MatchHall oneLeftOut() {
        MatchHall hall = hall("01 10 01", "102 012 -");
        hall.work();
        return hall;
    }

    private static String matchings(MatchHall hall, int residents) {
        StringBuilder text = new StringBuilder();
        for (int matching = 0; matching < hall.count(0); matching++) {
            text.append(matching == 0 ? "" : " ");
            for (int resident = 0; resident < residents; resident++) {
                int hospital = hall.hospital(matching, resident);
                text.append(hospital == NONE ? "-" : String.valueOf(hospital));
            }
        }
        return text.toString();
    }

    private static void tellAll(MatchHall hall, String row) {
        for (int resident = 0; resident < row.length(); resident++) {
            hall.tell(resident, row.charAt(resident) == '-' ? NONE : row.charAt(resident) - '0');
        }
    }

    private static String listOf(MatchHall hall, int side, int who) {
        StringBuilder text = new StringBuilder();
        for (int place = 0; hall.listed(side, who, place) != NONE; place++) {
            text.append(hall.listed(side, who, place));
        }
        return text.toString();
    }

    /** All costs of a matching, parted by blanks. */
    private static String costs(MatchHall hall, int matching) {
        StringBuilder text = new StringBuilder();
        for (int what = 0; what <= 4; what++) {
            text.append(what == 0 ? "" : " ").append(hall.cost(matching, what));
        }
        return text.toString();
    }

    // ---- the promises

    private static void newObject() {
        promise = 1;
        MatchHall hall = new MatchHall();
        due("prefer of resident 1", hall.prefer(0, 1, 0), NONE);
        due("prefer of hospital 1", hall.prefer(1, 1, 0), NONE);
        due("prefer for hospital 1", hall.prefer(0, 0, 1), NONE);
        due("lists of resident 0", listOf(hall, 0, 0), "");
        due("lists of hospital 0", listOf(hall, 1, 0), "");
        due("count(0)", hall.count(0), NONE);
        due("check()", hall.check(), NONE);
        due("fits()", hall.fits(), 1);
        due("blocks()", hall.blocks(), 0);
        due("which()", hall.which(), NONE);
        due("work()", hall.work(), 1);
        due("which() of nobody told", hall.which(), 0);
        due("one resident", hall.forget(0, 0), 0);
        due("one hospital", hall.forget(1, 0), 0);
        due("no resident more", hall.forget(0, 1), NONE);
        due("no hospital more", hall.forget(1, 1), NONE);
        due("NONE", MatchHall.NONE, -1);
    }

    private static void make() {
        promise = 2;
        MatchHall hall = new MatchHall();
        for (int many = 1; many <= 6; many++) {
            int n = many;
            due("make(" + n + ", " + (7 - n) + ")", thrownBy(() -> hall.make(n, 7 - n)), NOTHING);
            due("last resident", hall.forget(0, n - 1), 0);
            due("one resident more", hall.forget(0, n), NONE);
            due("last hospital", hall.forget(1, 6 - n), 0);
            due("one hospital more", hall.forget(1, 7 - n), NONE);
        }
        makeRefuses();
        makeClears();
    }

    private static void makeRefuses() {
        int[] wrongNumbers = {0, 7, -1, Integer.MIN_VALUE, Integer.MAX_VALUE};
        for (int many : wrongNumbers) {
            MatchHall hall = two();
            hall.take(1);
            due("make(" + many + ", 2)", thrownBy(() -> hall.make(many, 2)), ARGUMENT);
            due("make(2, " + many + ")", thrownBy(() -> hall.make(2, many)), ARGUMENT);
            due("make(" + many + ", 0)", thrownBy(() -> hall.make(many, 0)), ARGUMENT);
            due("what is told stays", hall.which(), 1);
            due("lists stay", listOf(hall, 0, 1), "10");
            due("matchings stay", matchings(hall, 2), "01 10");
        }
    }

    private static void makeClears() {
        MatchHall hall = two();
        hall.seats(0, 3);
        hall.work();
        hall.tell(0, 0);
        hall.tell(1, 0);
        hall.make(2, 2);
        due("count(0)", hall.count(0), NONE);
        due("nobody is told", hall.fits(), 1);
        due("lists are empty", listOf(hall, 0, 0) + listOf(hall, 1, 1), "");
        fillSide(hall, 0, new String[] {"0", "0"});
        fillSide(hall, 1, new String[] {"01"});
        hall.work();
        due("matchings with one seat", matchings(hall, 2), "0-");
        hall.make(1, 1);
        hall.make(6, 6);
        due("lists after a smaller make", listOf(hall, 0, 1) + listOf(hall, 1, 0), "");
    }

    private static void seats() {
        promise = 3;
        MatchHall hall = hall("0 0 0 0", "3210");
        String[] due = {"---0", "--00", "-000"};
        for (int many = 1; many <= 3; many++) {
            int seats = many;
            due("seats(0, " + many + ")", thrownBy(() -> hall.seats(0, seats)), NOTHING);
            hall.work();
            due("matchings with " + many + " seats", matchings(hall, 4), due[many - 1]);
        }
        int[] wrongNumbers = {0, 4, -1, Integer.MIN_VALUE, Integer.MAX_VALUE};
        for (int many : wrongNumbers) {
            due("seats(0, " + many + ")", thrownBy(() -> hall.seats(0, many)), ARGUMENT);
            due("seats(1, " + many + ")", thrownBy(() -> hall.seats(1, many)), INDEX);
        }
        for (int no : NO_NUMBERS) {
            due("seats(" + no + ", 2)", thrownBy(() -> hall.seats(no, 2)), INDEX);
        }
        due("matchings stay", matchings(hall, 4), "-000");
        hall.work();
        due("seats stay", matchings(hall, 4), "-000");
    }

    private static void prefer() {
        promise = 4;
        MatchHall hall = new MatchHall();
        hall.make(2, 3);
        due("first", hall.prefer(0, 1, 2), 1);
        due("second", hall.prefer(0, 1, 0), 2);
        due("again the first", hall.prefer(0, 1, 2), NONE);
        due("again the second", hall.prefer(0, 1, 0), NONE);
        due("third", hall.prefer(0, 1, 1), 3);
        due("resident 1", listOf(hall, 0, 1), "201");
        due("resident 0", listOf(hall, 0, 0), "");
        due("hospital 2 is another list", hall.prefer(1, 2, 1), 1);
        due("hospital 2", listOf(hall, 1, 2), "1");
        due("no resident 2", hall.prefer(0, 2, 0), NONE);
        due("no hospital 3", hall.prefer(1, 3, 0), NONE);
        due("no hospital 3 to list", hall.prefer(0, 0, 3), NONE);
        due("no resident 2 to list", hall.prefer(1, 0, 2), NONE);
        due("no side 2", hall.prefer(2, 0, 0), NONE);
        for (int no : NO_NUMBERS) {
            due("side " + no, hall.prefer(no, 0, 0), NONE);
            due("who " + no, hall.prefer(0, no, 0) + hall.prefer(1, no, 0), 2 * NONE);
            due("whom " + no, hall.prefer(0, 0, no) + hall.prefer(1, 0, no), 2 * NONE);
        }
        due("resident 0 after wrong calls", listOf(hall, 0, 0), "");
        due("hospital 0 after wrong calls", listOf(hall, 1, 0), "");
    }

    private static void forget() {
        promise = 5;
        MatchHall hall = hall("012 1 -", "0 - 210");
        due("three", hall.forget(0, 0), 3);
        due("none left", hall.forget(0, 0), 0);
        due("resident 0", listOf(hall, 0, 0), "");
        due("resident 1 stays", listOf(hall, 0, 1), "1");
        due("hospital 0 stays", listOf(hall, 1, 0), "0");
        due("hospital 2", hall.forget(1, 2), 3);
        due("hospital 1", hall.forget(1, 1), 0);
        due("a new list", hall.prefer(0, 0, 2), 1);
        due("resident 0 again", listOf(hall, 0, 0), "2");
        due("no resident 3", hall.forget(0, 3), NONE);
        due("no hospital 3", hall.forget(1, 3), NONE);
        due("no side 2", hall.forget(2, 0), NONE);
        for (int no : NO_NUMBERS) {
            due("side " + no, hall.forget(no, 0), NONE);
            due("who " + no, hall.forget(0, no) + hall.forget(1, no), 2 * NONE);
        }
    }

    private static void listed() {
        promise = 6;
        MatchHall hall = hall("20 1", "10 - 0");
        due("resident 0, place 0", hall.listed(0, 0, 0), 2);
        due("resident 0, place 1", hall.listed(0, 0, 1), 0);
        due("resident 0, place 2", hall.listed(0, 0, 2), NONE);
        due("hospital 0, place 0", hall.listed(1, 0, 0), 1);
        due("hospital 1, place 0", hall.listed(1, 1, 0), NONE);
        due("hospital 2, place 0", hall.listed(1, 2, 0), 0);
        due("no resident 2", hall.listed(0, 2, 0), NONE);
        due("no hospital 3", hall.listed(1, 3, 0), NONE);
        due("no side 2", hall.listed(2, 0, 0), NONE);
        for (int no : NO_NUMBERS) {
            due("side " + no, hall.listed(no, 0, 0), NONE);
            due("who " + no, hall.listed(0, no, 0) + hall.listed(1, no, 0), 2 * NONE);
            due("place " + no, hall.listed(0, 0, no) + hall.listed(1, 0, no), 2 * NONE);
            due("place " + no + " of an empty list", hall.listed(1, 1, no), NONE);
        }
    }

    private static void work() {
        promise = 7;
        due("two", hall("01 10", "10 01").work(), 2);
        due("two that agree", hall("01 10", "01 10").work(), 1);
        due("nobody lists anybody", hall("- -", "- -").work(), 1);
        due("one side lists", hall("01 10", "- -").work(), 1);
        due("twice", twice().work(), 4);
        due("chain", chain().work(), 3);
        due("seated", seated().work(), 3);
        due("one left out", oneLeftOut().work(), 2);
        due("four", hall("0123 1032 2301 3210", "3210 2301 1032 0123").work(), 10);
        due("a list of one side has no weight", hall("0 10", "10 1").work(), 1);
        MatchHall hall = two();
        due("again", hall.work(), 2);
        due("and again", hall.work(), 2);
    }

    private static void workIsGone() {
        promise = 7;
        MatchHall hall = new MatchHall();
        Deed[] deeds = {
            () -> hall.make(2, 2),
            () -> hall.seats(0, 1),
            () -> hall.seats(1, 2),
            () -> hall.forget(0, 0),
            () -> hall.forget(1, 2),
            () -> hall.prefer(0, 0, 2),
            () -> hall.prefer(1, 2, 1),
        };
        for (int i = 0; i < deeds.length; i++) {
            fill(hall, "01 10", "10 01 -");
            due("worked out before deed " + i, hall.work(), 2);
            hall.take(1);
            deeds[i].run();
            nothingIsWorkedOut(hall, "after deed " + i);
        }
    }

    private static void nothingIsWorkedOut(MatchHall hall, String when) {
        for (int what = 0; what <= 3; what++) {
            due("count(" + what + ") " + when, hall.count(what), NONE);
        }
        due("hospital(0, 0) " + when, hall.hospital(0, 0), NONE);
        due("cost(0, 0) " + when, hall.cost(0, 0), NONE);
        due("cheapest(0) " + when, hall.cheapest(0), NONE);
        due("bound(0, 0, 0) " + when, hall.bound(0, 0, 0), NONE);
        due("behind(0, 0) " + when, hall.behind(0, 0), NONE);
        due("rotation(0, 0, 0) " + when, hall.rotation(0, 0, 0), NONE);
        due("done(0, 0) " + when, hall.done(0, 0), NONE);
        due("before(0, 0) " + when, hall.before(0, 0), NONE);
        due("take(0) " + when, thrownBy(() -> hall.take(0)), INDEX);
        due("which() " + when, hall.which(), NONE);
        due("check() " + when, hall.check(), NONE);
    }

    private static void workStays() {
        promise = 7;
        MatchHall hall = two();
        due("prefer of one that is listed", hall.prefer(0, 0, 1), NONE);
        due("prefer of a side that is not", hall.prefer(2, 0, 1), NONE);
        due("forget of a list that is not", hall.forget(0, 2), NONE);
        due("seats of no hospital", thrownBy(() -> hall.seats(2, 1)), INDEX);
        due("no seats", thrownBy(() -> hall.seats(0, 0)), ARGUMENT);
        due("make of nobody", thrownBy(() -> hall.make(0, 0)), ARGUMENT);
        hall.tell(0, 1);
        hall.take(0);
        due("take of none", thrownBy(() -> hall.take(2)), INDEX);
        due("tell of none", thrownBy(() -> hall.tell(2, 0)), INDEX);
        due("count(0)", hall.count(0), 2);
        due("matchings", matchings(hall, 2), "01 10");
        due("which()", hall.which(), 0);
    }

    private static void count() {
        promise = 8;
        MatchHall hall = oneLeftOut();
        due("stable matchings", hall.count(0), 2);
        due("rotations", hall.count(1), 1);
        due("pairs", hall.count(2), 6);
        due("residents with hospitals", hall.count(3), 2);
        due("count(4)", hall.count(4), NONE);
        for (int no : NO_NUMBERS) {
            due("count(" + no + ")", hall.count(no), NONE);
        }
        MatchHall oneSided = hall("012 0", "1 01 -");
        due("pairs before work", oneSided.count(2), NONE);
        oneSided.work();
        due("pairs that list each other", oneSided.count(2), 2);
        due("residents of these", oneSided.count(3), 2);
        due("no rotations", oneSided.count(1), 0);
        due("rotations of twice", twice().count(1), 2);
        due("rotations of the chain", chain().count(1), 2);
        MatchHall nobody = new MatchHall();
        nobody.work();
        due("nobody's matchings", nobody.count(0), 1);
        due("nobody's hospitals", nobody.count(3), 0);
    }

    private static void hospital() {
        promise = 9;
        due("two", matchings(two(), 2), "01 10");
        due("twice", matchings(twice(), 4), "0123 0132 1023 1032");
        due("chain", matchings(chain(), 3), "012 120 201");
        due("seated", matchings(seated(), 4), "1002 1020 0120");
        due("one left out", matchings(oneLeftOut(), 3), "01- 10-");
        MatchHall byPlace = hall("10 01", "01 10");
        byPlace.work();
        due("the better hospital first, not the lesser number", matchings(byPlace, 2), "10 01");
        MatchHall hall = two();
        due("no matching 2", hall.hospital(2, 0), NONE);
        due("no resident 2", hall.hospital(0, 2), NONE);
        due("no resident 5", hall.hospital(0, 5), NONE);
        due("no resident 6", hall.hospital(0, 6), NONE);
        for (int no : NO_NUMBERS) {
            due("matching " + no, hall.hospital(no, 0), NONE);
            due("resident " + no, hall.hospital(0, no), NONE);
            due("resident " + no + " of matching 1", hall.hospital(1, no), NONE);
        }
    }

    private static void cost() {
        promise = 10;
        due("seated 0", costs(seated(), 0), "0 7 7 7 3");
        due("seated 1", costs(seated(), 1), "2 3 5 1 2");
        due("seated 2", costs(seated(), 2), "4 1 5 3 1");
        MatchHall far = hall("210 0", "10 - -");
        far.work();
        due("one that lists a hospital that does not list it", matchings(far, 2), "-0");
        due("its costs", costs(far, 0), "0 0 0 0 0");
        MatchHall late = hall("2103 -", "10 - - -");
        late.work();
        due("a place is counted in the whole list", costs(late, 0), "2 1 3 1 2");
        MatchHall nobody = hall("0 1", "- -");
        nobody.work();
        due("nobody has a hospital", costs(nobody, 0), "0 0 0 0 -1");
        MatchHall hall = two();
        due("no what 5", hall.cost(0, 5), NONE);
        due("no matching 2", hall.cost(2, 0), NONE);
        for (int no : NO_NUMBERS) {
            due("what " + no, hall.cost(0, no), NONE);
            due("matching " + no, hall.cost(no, 0), NONE);
        }
    }

    private static void cheapest() {
        promise = 11;
        MatchHall hall = seated();
        due("cheapest(0)", hall.cheapest(0), 0);
        due("cheapest(1)", hall.cheapest(1), 2);
        due("cheapest(2), the first of two", hall.cheapest(2), 1);
        due("cheapest(3)", hall.cheapest(3), 1);
        due("cheapest(4)", hall.cheapest(4), 2);
        due("cheapest(5)", hall.cheapest(5), NONE);
        for (int no : NO_NUMBERS) {
            due("cheapest(" + no + ")", hall.cheapest(no), NONE);
        }
        MatchHall nobody = hall("0 1", "- -");
        due("not worked out", nobody.cheapest(0), NONE);
        nobody.work();
        for (int what = 0; what <= 4; what++) {
            due("cheapest(" + what + ") when nobody has a hospital", nobody.cheapest(what), 0);
        }
        due("the same costs of twice", twice().cheapest(2), 0);
        due("the middle of twice", twice().cheapest(3), 1);
    }

    private static void bound() {
        promise = 12;
        MatchHall hall = twice();
        due("the better of 1 and 2", hall.bound(0, 1, 2), 0);
        due("the worse of 1 and 2", hall.bound(1, 1, 2), 3);
        due("the better of 2 and 1", hall.bound(0, 2, 1), 0);
        due("the worse of 2 and 1", hall.bound(1, 2, 1), 3);
        due("the better of 1 and 3", hall.bound(0, 1, 3), 1);
        due("the worse of 3 and 2", hall.bound(1, 3, 2), 3);
        due("the better of 2 and 2", hall.bound(0, 2, 2), 2);
        due("the worse of 2 and 2", hall.bound(1, 2, 2), 2);
        due("with one left out", oneLeftOut().bound(1, 0, 1), 1);
        due("no kind 2", hall.bound(2, 0, 0), NONE);
        due("no matching 4", hall.bound(0, 4, 0), NONE);
        due("no other matching 4", hall.bound(1, 0, 4), NONE);
        for (int no : NO_NUMBERS) {
            due("kind " + no, hall.bound(no, 0, 0), NONE);
            due("first " + no, hall.bound(0, no, 0), NONE);
            due("second " + no, hall.bound(1, 0, no), NONE);
        }
    }

    private static void behind() {
        promise = 13;
        MatchHall hall = twice();
        String[] due = {"0111", "0001", "0001", "0000"};
        for (int i = 0; i < 4; i++) {
            for (int k = 0; k < 4; k++) {
                due("behind(" + i + ", " + k + ")", hall.behind(i, k), due[i].charAt(k) - '0');
            }
        }
        due("with one left out", oneLeftOut().behind(0, 1), 1);
        due("no matching 4", hall.behind(4, 0), NONE);
        due("no other matching 4", hall.behind(0, 4), NONE);
        for (int no : NO_NUMBERS) {
            due("first " + no, hall.behind(no, 0), NONE);
            due("second " + no, hall.behind(0, no), NONE);
        }
    }

    /** Each resident of a rotation with the hospital that it leaves and the one that it gets. */
    private static String rotations(MatchHall hall) {
        StringBuilder text = new StringBuilder();
        for (int k = 0; k < hall.count(1); k++) {
            text.append(k == 0 ? "" : " |");
            for (int i = 0; hall.rotation(k, i, 0) != NONE; i++) {
                text.append(k == 0 && i == 0 ? "" : " ");
                text.append(hall.rotation(k, i, 0)).append(hall.rotation(k, i, 1)).append(hall.rotation(k, i, 2));
            }
        }
        return text.toString();
    }

    private static void rotation() {
        promise = 14;
        due("two", rotations(two()), "001 110");
        due("twice", rotations(twice()), "001 110 | 223 332");
        due("chain", rotations(chain()), "001 112 220 | 012 120 201");
        due("seated", rotations(seated()), "010 101 | 202 320");
        due("one left out", rotations(oneLeftOut()), "001 110");
        MatchHall four = hall("0123 1032 2301 3210", "3210 2301 1032 0123");
        four.work();
        due("four", rotations(four), "001 110 | 012 321 | 023 132 | 103 230 | 223 332 | 201 310");
        MatchHall byPlace = hall("210 102 021", "012 201 120");
        byPlace.work();
        due("by the place, not the number, of the hospital", rotations(byPlace), "021 110 202 | 010 102 221");
        MatchHall hall = chain();
        due("no rotation 2", hall.rotation(2, 0, 0), NONE);
        due("no resident 3 of it", hall.rotation(0, 3, 0), NONE);
        due("no hospital of resident 3 of it", hall.rotation(0, 3, 1), NONE);
        due("no what 3", hall.rotation(0, 0, 3), NONE);
        for (int no : NO_NUMBERS) {
            due("rotation " + no, hall.rotation(no, 0, 0), NONE);
            due("resident " + no, hall.rotation(0, no, 0), NONE);
            due("what " + no, hall.rotation(0, 0, no), NONE);
        }
    }

    private static void done() {
        promise = 15;
        MatchHall twice = twice();
        MatchHall chain = chain();
        String[] dueOfTwice = {"0011", "0101"};
        String[] dueOfChain = {"011", "001"};
        for (int k = 0; k < 2; k++) {
            for (int matching = 0; matching < 4; matching++) {
                due("twice, done(" + k + ", " + matching + ")", twice.done(k, matching),
                    dueOfTwice[k].charAt(matching) - '0');
            }
            for (int matching = 0; matching < 3; matching++) {
                due("chain, done(" + k + ", " + matching + ")", chain.done(k, matching),
                    dueOfChain[k].charAt(matching) - '0');
            }
        }
        due("no rotation 2", chain.done(2, 0), NONE);
        due("no matching 3", chain.done(0, 3), NONE);
        for (int no : NO_NUMBERS) {
            due("rotation " + no, chain.done(no, 0), NONE);
            due("matching " + no, chain.done(0, no), NONE);
        }
        due("rotation 32", chain.done(32, 0), NONE);
    }

    private static void before() {
        promise = 16;
        MatchHall chain = chain();
        due("chain, before(0, 1)", chain.before(0, 1), 1);
        due("chain, before(1, 0)", chain.before(1, 0), 0);
        due("chain, before(0, 0)", chain.before(0, 0), 0);
        due("chain, before(1, 1)", chain.before(1, 1), 0);
        MatchHall twice = twice();
        due("twice, before(0, 1)", twice.before(0, 1), 0);
        due("twice, before(1, 0)", twice.before(1, 0), 0);
        MatchHall seated = seated();
        due("seated, before(0, 1)", seated.before(0, 1), 0);
        due("seated, before(1, 0)", seated.before(1, 0), 1);
        due("no rotation 2", chain.before(2, 0), NONE);
        due("no other rotation 2", chain.before(0, 2), NONE);
        due("no rotation 2 twice", chain.before(2, 2), NONE);
        for (int no : NO_NUMBERS) {
            due("first " + no, chain.before(no, 0), NONE);
            due("second " + no, chain.before(0, no), NONE);
        }
    }

    private static void tell() {
        promise = 17;
        MatchHall hall = two();
        due("tell(0, 1)", thrownBy(() -> hall.tell(0, 1)), NOTHING);
        due("tell(1, 0)", thrownBy(() -> hall.tell(1, 0)), NOTHING);
        due("which()", hall.which(), 1);
        due("tell(2, 0)", thrownBy(() -> hall.tell(2, 0)), INDEX);
        due("tell(0, 2)", thrownBy(() -> hall.tell(0, 2)), INDEX);
        due("tell(0, -2)", thrownBy(() -> hall.tell(0, -2)), INDEX);
        due("tell(2, NONE)", thrownBy(() -> hall.tell(2, NONE)), INDEX);
        for (int no : NO_NUMBERS) {
            due("tell(" + no + ", 0)", thrownBy(() -> hall.tell(no, 0)), INDEX);
            due("tell(1, " + no + ")", thrownBy(() -> hall.tell(1, no)), no == NONE ? NOTHING : INDEX);
            hall.tell(1, 0);
        }
        due("which() after wrong calls", hall.which(), 1);
        due("tell(1, NONE)", thrownBy(() -> hall.tell(1, NONE)), NOTHING);
        due("blocks()", hall.blocks(), 2);
        due("resident 0 with the hospital that is free now", hall.blocking(0), 0);
        due("resident 1 with it", hall.blocking(1), 8);
        MatchHall strangers = hall("- -", "- -");
        due("one that is not listed may be told", thrownBy(() -> strangers.tell(0, 1)), NOTHING);
        due("but is no matching", strangers.fits(), 0);
    }

    private static void take() {
        promise = 18;
        MatchHall hall = oneLeftOut();
        tellAll(hall, "222");
        due("take(1)", thrownBy(() -> hall.take(1)), NOTHING);
        due("which()", hall.which(), 1);
        due("fits()", hall.fits(), 1);
        due("blocks()", hall.blocks(), 0);
        due("take(2)", thrownBy(() -> hall.take(2)), INDEX);
        for (int no : NO_NUMBERS) {
            due("take(" + no + ")", thrownBy(() -> hall.take(no)), INDEX);
        }
        due("which() after wrong calls", hall.which(), 1);
        hall.forget(0, 2);
        due("it stays told when the work is gone", hall.blocks(), 0);
        due("take(0) when the work is gone", thrownBy(() -> hall.take(0)), INDEX);
        hall.work();
        due("it is still told", hall.which(), 1);
        hall.take(0);
        due("which() after take(0)", hall.which(), 0);
    }

    private static void fits() {
        promise = 19;
        MatchHall hall = hall("01 01 0 1", "012 10 -");
        due("nobody is told", hall.fits(), 1);
        String[] rows = {"0---", "01--", "10--", "1-0-", "00--", "0-0-", "--1-", "---1", "2---", "---2"};
        int[] due = {1, 1, 1, 1, 0, 0, 0, 0, 0, 0};
        for (int i = 0; i < rows.length; i++) {
            tellAll(hall, rows[i]);
            due(rows[i], hall.fits(), due[i]);
        }
        hall.seats(0, 2);
        tellAll(hall, "00--");
        due("two in two seats", hall.fits(), 1);
        tellAll(hall, "000-");
        due("three in two seats", hall.fits(), 0);
        hall.seats(0, 3);
        due("three in three seats", hall.fits(), 1);
        hall.forget(1, 0);
        due("the hospital lists nobody", hall.fits(), 0);
    }

    private static void blocks() {
        promise = 20;
        MatchHall hall = hall("01 10 01", "102 012 -");
        String[] rows = {"---", "01-", "10-", "0-1", "-01", "2--", "00-", "1-0", "--0", "10-"};
        int[] due = {6, 0, 0, 2, 2, NONE, NONE, 2, 4, 0};
        for (int i = 0; i < rows.length; i++) {
            tellAll(hall, rows[i]);
            due(rows[i], hall.blocks(), due[i]);
        }
        tellAll(hall, "01-");
        hall.seats(1, 2);
        due("a seat is left for resident 2", hall.blocks(), 1);
        tellAll(hall, "011");
        due("the seats are taken", hall.blocks(), 0);
        MatchHall oneSided = hall("01", "- 0");
        oneSided.tell(0, 1);
        due("one that does not list back blocks nothing", oneSided.blocks(), 0);
        oneSided.prefer(1, 0, 0);
        due("one that lists back blocks", oneSided.blocks(), 1);
    }

    private static void blocking() {
        promise = 21;
        MatchHall hall = hall("01 10 01", "102 012 -");
        int[] all = {0, 1, 8, 9, 16, 17, NONE};
        for (int i = 0; i < all.length; i++) {
            due("nobody is told, blocking(" + i + ")", hall.blocking(i), all[i]);
        }
        tellAll(hall, "--0");
        int[] some = {0, 1, 8, 9, NONE};
        for (int i = 0; i < some.length; i++) {
            due("--0, blocking(" + i + ")", hall.blocking(i), some[i]);
        }
        for (int no : NO_NUMBERS) {
            due("blocking(" + no + ")", hall.blocking(no), NONE);
        }
        tellAll(hall, "00-");
        due("no matching", hall.blocking(0), NONE);
        tellAll(hall, "01-");
        due("a stable one", hall.blocking(0), NONE);
        MatchHall last = hall("5 - - - - 5", "- - - - - 50");
        last.tell(0, 5);
        due("the last pair of all", last.blocking(0), 45);
    }

    private static void which() {
        promise = 22;
        MatchHall hall = hall("012 120 201", "120 201 012");
        tellAll(hall, "012");
        due("not worked out", hall.which(), NONE);
        hall.work();
        String[] rows = {"012", "120", "201", "021", "01-", "---", "000"};
        int[] due = {0, 1, 2, NONE, NONE, NONE, NONE};
        for (int i = 0; i < rows.length; i++) {
            tellAll(hall, rows[i]);
            due(rows[i], hall.which(), due[i]);
        }
        MatchHall left = oneLeftOut();
        tellAll(left, "10-");
        due("one left out", left.which(), 1);
        tellAll(left, "102");
        due("one left out is told a hospital", left.which(), NONE);
    }

    private static void check() {
        promise = 23;
        MatchHall[] halls = {two(), twice(), chain(), seated(), oneLeftOut()};
        for (MatchHall hall : halls) {
            due("check()", hall.check(), 1);
            hall.tell(0, NONE);
            due("check() whatever is told", hall.check(), 1);
            due("check() leaves what is told", hall.which(), NONE);
        }
        MatchHall hall = two();
        hall.seats(0, 1);
        due("not worked out", hall.check(), NONE);
        hall.work();
        due("worked out again", hall.check(), 1);
    }

    /** The turns and mirrors of a triangle: six by six with 48 stable matchings and 15 rotations. */
    private static void mostStableMatchings() {
        promise = 7;
        MatchHall hall = hall("032415 140523 251304 304251 415032 523140", "524130 305241 413052 142503 250314 031425");
        due("work()", hall.work(), 48);
        due("count(1)", hall.count(1), 15);
        due("check()", hall.check(), 1);
        due("the last matching has the worst for all", hall.cost(47, 0), 30);
        due("and the best for the hospitals", hall.cost(47, 1), 0);
        due("bound(1, 0, 47)", hall.bound(1, 0, 47), 47);
        due("done(14, 47)", hall.done(14, 47), 1);
        due("rotation(15, 0, 0)", hall.rotation(15, 0, 0), NONE);
    }
}
