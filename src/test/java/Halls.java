import java.util.Arrays;

/**
 * Halls that are small enough to be worked out by hand, and texts of what a hall answers. A list is
 * written as digits, the better ones first, '-' for an empty one; lists are parted by blanks.
 */
final class Halls {
    static final int NONE = -1;

    /** What workedOut tells when nothing is. */
    static final String NOTHING = "counts -1 -1 -1 -1, hospital -1, cost -1, cheapest -1, bound -1, behind -1, "
        + "rotation -1, done -1, before -1, which -1, check -1";

    private Halls() {
    }

    static MatchHall of(String residents, String hospitals) {
        MatchHall hall = new MatchHall();
        fill(hall, residents, hospitals);
        return hall;
    }

    static MatchHall worked(String residents, String hospitals) {
        MatchHall hall = of(residents, hospitals);
        hall.work();
        return hall;
    }

    static void fill(MatchHall hall, String residents, String hospitals) {
        hall.make(residents.split(" ").length, hospitals.split(" ").length);
        fillSide(hall, 0, residents);
        fillSide(hall, 1, hospitals);
    }

    static void fillSide(MatchHall hall, int side, String lists) {
        String[] all = lists.split(" ");
        for (int who = 0; who < all.length; who++) {
            for (char whom : all[who].toCharArray()) {
                if (whom != '-') {
                    hall.prefer(side, who, whom - '0');
                }
            }
        }
    }

    // ---- halls that are worked out

    /** Two stable matchings, 01 and 10, and one rotation. */
    static MatchHall two() {
        return worked("01 10", "10 01");
    }

    /** Two by two, side by side: 0123, 0132, 1023, 1032, with rotations of residents 0, 1 and 2, 3. */
    static MatchHall twice() {
        return worked("01 10 23 32", "10 01 32 23");
    }

    /** A chain: 012, 120, 201, with a rotation of all three residents that comes before another one. */
    static MatchHall chain() {
        return worked("012 120 201", "120 201 012");
    }

    /** The same with six residents: six stable matchings, five rotations of all six residents. */
    static MatchHall longChain() {
        return worked("012345 123450 234501 345012 450123 501234", "123450 234501 345012 450123 501234 012345");
    }

    /** Hospital 0 has two seats: 1002, 1020, 0120. */
    static MatchHall seated() {
        MatchHall hall = of("10 01 02 20", "3012 10 23");
        hall.seats(0, 2);
        hall.work();
        return hall;
    }

    /** Resident 2 has no hospital in any stable matching, and hospital 2 has nobody: 01-, 10-. */
    static MatchHall oneLeftOut() {
        return worked("01 10 01", "102 012 -");
    }

    /** Each lists one of the other side, none lists another one back: one stable matching, of nobody. */
    static MatchHall nobodyListsBack() {
        return worked("0 1", "1 0");
    }

    /** The turns and mirrors of a triangle: six by six with 48 stable matchings and 15 rotations. */
    static MatchHall triangle() {
        return worked("032415 140523 251304 304251 415032 523140", "524130 305241 413052 142503 250314 031425");
    }

    // ---- what is told

    static void tellAll(MatchHall hall, String row) {
        for (int resident = 0; resident < row.length(); resident++) {
            hall.tell(resident, row.charAt(resident) == '-' ? NONE : row.charAt(resident) - '0');
        }
    }

    // ---- texts of answers

    static String listOf(MatchHall hall, int side, int who) {
        StringBuilder text = new StringBuilder();
        for (int place = 0; place < 7; place++) {
            int whom = hall.listed(side, who, place);
            if (whom == NONE) {
                break;
            }
            text.append(whom);
        }
        return text.length() == 0 ? "-" : text.toString();
    }

    static String listsOf(MatchHall hall, int side, int many) {
        StringBuilder text = new StringBuilder();
        for (int who = 0; who < many; who++) {
            text.append(who == 0 ? "" : " ").append(listOf(hall, side, who));
        }
        return text.toString();
    }

    static String matchings(MatchHall hall, int residents) {
        StringBuilder text = new StringBuilder();
        int many = hall.count(0);
        for (int matching = 0; matching < many; matching++) {
            text.append(matching == 0 ? "" : " ");
            for (int resident = 0; resident < residents; resident++) {
                int hospital = hall.hospital(matching, resident);
                text.append(hospital == NONE ? "-" : String.valueOf(hospital));
            }
        }
        return text.toString();
    }

    /** Each resident of a rotation with the hospital that it leaves and the one that it gets. */
    static String rotations(MatchHall hall) {
        StringBuilder text = new StringBuilder();
        int many = hall.count(1);
        for (int k = 0; k < many; k++) {
            text.append(k == 0 ? "" : " |");
            for (int i = 0; i < 6 && hall.rotation(k, i, 0) != NONE; i++) {
                text.append(k == 0 && i == 0 ? "" : " ");
                text.append(hall.rotation(k, i, 0)).append(hall.rotation(k, i, 1)).append(hall.rotation(k, i, 2));
            }
        }
        return text.toString();
    }

    /** All costs of a matching, parted by blanks. */
    static String costs(MatchHall hall, int matching) {
        StringBuilder text = new StringBuilder();
        for (int what = 0; what <= 4; what++) {
            text.append(what == 0 ? "" : " ").append(hall.cost(matching, what));
        }
        return text.toString();
    }

    /** All pairs that block what is told, parted by blanks. */
    static String blockingPairs(MatchHall hall) {
        StringBuilder text = new StringBuilder();
        int many = hall.blocks();
        for (int i = 0; i < many; i++) {
            text.append(i == 0 ? "" : " ").append(hall.blocking(i));
        }
        return text.toString();
    }

    /** Lists, what is worked out and what is told; the seats are seen in what work answers later. */
    static String stateOf(MatchHall hall, int residents, int hospitals) {
        return "lists " + listsOf(hall, 0, residents) + " and " + listsOf(hall, 1, hospitals)
            + "; worked out " + matchings(hall, residents) + " by " + rotations(hall)
            + ", pairs " + hall.count(2) + ", seated " + hall.count(3) + ", check " + hall.check()
            + "; told number " + hall.which() + ", fits " + hall.fits() + ", blocked by " + blockingPairs(hall)
            + "; more " + hall.hospital(0, residents) + " and " + hall.forget(0, residents)
            + " and " + hall.forget(1, hospitals);
    }

    /** What all calls answer that ask for what is worked out, each for its first one. */
    static String workedOut(MatchHall hall) {
        StringBuilder counts = new StringBuilder();
        for (int what = 0; what <= 3; what++) {
            counts.append(' ').append(hall.count(what));
        }
        return "counts" + counts + ", hospital " + hall.hospital(0, 0) + ", cost " + hall.cost(0, 0)
            + ", cheapest " + hall.cheapest(0) + ", bound " + hall.bound(0, 0, 0) + ", behind " + hall.behind(0, 0)
            + ", rotation " + hall.rotation(0, 0, 0) + ", done " + hall.done(0, 0) + ", before " + hall.before(0, 0)
            + ", which " + hall.which() + ", check " + hall.check();
    }

    // ---- numbers that name nothing

    /** Numbers that are not least .. most: beside it, far from it, and some that wrap around. */
    static int[] outside(int least, int most) {
        int[] far = {
            Integer.MIN_VALUE, Integer.MIN_VALUE + 1, Integer.MIN_VALUE + least, -32, -6, least - 2, least - 1,
            most + 1, most + 2, 6, 7, 32, 64, 216, 1000, 0x2AAAAAAB, 1 << 30, Integer.MAX_VALUE,
        };
        int many = 0;
        for (int number : far) {
            if (number < least || number > most) {
                far[many] = number;
                many++;
            }
        }
        return Arrays.copyOf(far, many);
    }
}
