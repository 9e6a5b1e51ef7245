import java.util.Arrays;

/**
 * Residents and hospitals that list each other: all stable matchings in order, the rotations that
 * lead from one to another, their meets, joins and costs, and what blocks a matching that is told.
 */
public final class MatchHall {
    public static final int NONE = -1;

    private static final int MOST = 6;
    private static final int MOST_SEATS = 3;

    /** No resident moves more than MOST - 1 times, and no rotation moves fewer than two. */
    private static final int MOST_ROTATIONS = MOST * (MOST - 1) / 2;

    /**
     * Rotations of which none comes before another share no resident, so at most three are like
     * that: all rotations lie in three chains. A stable matching is known by how far each chain is
     * done, and three chains of 15 rotations in all have at most 6 * 6 * 6 such states.
     */
    private static final int MOST_MATCHINGS = 216;

    private final Hall hall;
    private final Matching told;
    private final Matching scratch;
    private final Stables stables;
    private final Rotations rotations;
    private final Finder finder;

    public MatchHall() {
        hall = new Hall();
        told = new Matching(hall);
        scratch = new Matching(hall);
        stables = new Stables(hall);
        rotations = new Rotations(stables);
        finder = new Finder(hall, stables, scratch);
    }

    public void make(int residents, int hospitals) throws IllegalArgumentException {
        if (residents < 1 || residents > MOST || hospitals < 1 || hospitals > MOST) {
            throw new IllegalArgumentException();
        }
        hall.open(residents, hospitals);
        told.clear();
        dropWork();
    }

    public void seats(int hospital, int many) throws IndexOutOfBoundsException, IllegalArgumentException {
        if (!hall.hasHospital(hospital)) {
            throw new IndexOutOfBoundsException();
        }
        if (many < 1 || many > MOST_SEATS) {
            throw new IllegalArgumentException();
        }
        hall.seatsOf[hospital] = many;
        dropWork();
    }

    public int prefer(int side, int who, int whom) {
        Lists lists = hall.listsOf(side);
        if (lists == null || !lists.canAdd(who, whom)) {
            return NONE;
        }
        dropWork();
        return lists.add(who, whom);
    }

    public int forget(int side, int who) {
        Lists lists = hall.listsOf(side);
        if (lists == null || !lists.hasOwner(who)) {
            return NONE;
        }
        dropWork();
        return lists.empty(who);
    }

    public int listed(int side, int who, int place) {
        Lists lists = hall.listsOf(side);
        if (lists == null || !lists.hasOwner(who)) {
            return NONE;
        }
        return lists.at(who, place);
    }

    public int work() {
        dropWork();
        finder.findAll();
        rotations.findAll();
        return stables.size;
    }

    public int count(int what) {
        if (!isWorked()) {
            return NONE;
        }
        switch (what) {
            case 0:
                return stables.size;
            case 1:
                return rotations.size;
            case 2:
                return hall.countPairs();
            case 3:
                return stables.countSeated();
            default:
                return NONE;
        }
    }

    public int hospital(int matching, int resident) {
        if (!stables.has(matching) || !hall.hasResident(resident)) {
            return NONE;
        }
        return stables.hospitalAt(matching, resident);
    }

    public int cost(int matching, int what) {
        if (!stables.has(matching)) {
            return NONE;
        }
        return stables.costOf(matching, what);
    }

    public int cheapest(int what) {
        if (!isWorked() || what < 0 || what > 4) {
            return NONE;
        }
        int first = 0;
        for (int matching = 1; matching < stables.size; matching++) {
            if (stables.costOf(matching, what) < stables.costOf(first, what)) {
                first = matching;
            }
        }
        return first;
    }

    public int bound(int kind, int i, int k) {
        if (kind < 0 || kind > 1 || !stables.has(i) || !stables.has(k)) {
            return NONE;
        }
        for (int resident = 0; resident < hall.residents; resident++) {
            boolean firstIsBetter = stables.placeAt(i, resident) <= stables.placeAt(k, resident);
            int source = firstIsBetter == (kind == 0) ? i : k;
            scratch.hospitalOf[resident] = stables.hospitalAt(source, resident);
        }
        return stables.find(scratch);
    }

    public int behind(int i, int k) {
        if (!stables.has(i) || !stables.has(k)) {
            return NONE;
        }
        return stables.isBehind(i, k) ? 1 : 0;
    }

    public int rotation(int k, int i, int what) {
        if (!rotations.has(k)) {
            return NONE;
        }
        int resident = rotations.mover(k, i);
        if (resident == NONE) {
            return NONE;
        }
        switch (what) {
            case 0:
                return resident;
            case 1:
                return stables.hospitalAt(rotations.from[k], resident);
            case 2:
                return stables.hospitalAt(rotations.to[k], resident);
            default:
                return NONE;
        }
    }

    public int done(int k, int matching) {
        if (!rotations.has(k) || !stables.has(matching)) {
            return NONE;
        }
        return rotations.isDone(k, matching) ? 1 : 0;
    }

    public int before(int k, int l) {
        if (!rotations.has(k) || !rotations.has(l)) {
            return NONE;
        }
        return rotations.isBefore(k, l) ? 1 : 0;
    }

    public void tell(int resident, int hospital) throws IndexOutOfBoundsException {
        if (!hall.hasResident(resident)) {
            throw new IndexOutOfBoundsException();
        }
        if (hospital != NONE && !hall.hasHospital(hospital)) {
            throw new IndexOutOfBoundsException();
        }
        told.hospitalOf[resident] = hospital;
    }

    public void take(int matching) throws IndexOutOfBoundsException {
        if (!stables.has(matching)) {
            throw new IndexOutOfBoundsException();
        }
        stables.copyTo(told, matching);
    }

    public int fits() {
        return told.isMatching() ? 1 : 0;
    }

    public int blocks() {
        return told.isMatching() ? told.countBlocking() : NONE;
    }

    public int blocking(int i) {
        return told.isMatching() ? told.blockingPair(i) : NONE;
    }

    public int which() {
        return stables.find(told);
    }

    public int check() {
        if (!isWorked()) {
            return NONE;
        }
        for (int matching = 0; matching < stables.size; matching++) {
            stables.copyTo(scratch, matching);
            if (!scratch.isStable() || !rotations.isKnownByDone(matching)) {
                return 0;
            }
        }
        return 1;
    }

    /** There is always a stable matching, so none is kept only when nothing is worked out. */
    private boolean isWorked() {
        return stables.size > 0;
    }

    private void dropWork() {
        stables.size = 0;
        rotations.size = 0;
    }

    /** The lists of one side: only the places are kept, so that a list can't contradict them. */
    private static final class Lists {
        private final int[][] places = new int[MOST][MOST];
        private final int[] sizes = new int[MOST];
        private int owners;
        private int others;

        void open(int howManyOwners, int howManyOthers) {
            owners = howManyOwners;
            others = howManyOthers;
            for (int who = 0; who < MOST; who++) {
                empty(who);
            }
        }

        boolean hasOwner(int who) {
            return who >= 0 && who < owners;
        }

        boolean canAdd(int who, int whom) {
            return hasOwner(who) && whom >= 0 && whom < others && places[who][whom] == NONE;
        }

        int add(int who, int whom) {
            places[who][whom] = sizes[who];
            sizes[who]++;
            return sizes[who];
        }

        int empty(int who) {
            int had = sizes[who];
            Arrays.fill(places[who], NONE);
            sizes[who] = 0;
            return had;
        }

        int at(int who, int place) {
            for (int whom = 0; whom < others; whom++) {
                // a place below 0 would find those that are not listed
                if (place >= 0 && places[who][whom] == place) {
                    return whom;
                }
            }
            return NONE;
        }
    }

    /** Who there is, how many seats, and who lists whom. */
    private static final class Hall {
        private final Lists ofResidents = new Lists();
        private final Lists ofHospitals = new Lists();
        private final int[] seatsOf = new int[MOST];
        private int residents;
        private int hospitals;

        Hall() {
            open(1, 1);
        }

        void open(int howManyResidents, int howManyHospitals) {
            residents = howManyResidents;
            hospitals = howManyHospitals;
            ofResidents.open(residents, hospitals);
            ofHospitals.open(hospitals, residents);
            Arrays.fill(seatsOf, 1);
        }

        boolean hasResident(int resident) {
            return resident >= 0 && resident < residents;
        }

        boolean hasHospital(int hospital) {
            return hospital >= 0 && hospital < hospitals;
        }

        Lists listsOf(int side) {
            if (side == 0) {
                return ofResidents;
            }
            return side == 1 ? ofHospitals : null;
        }

        boolean isPair(int resident, int hospital) {
            return ofResidents.places[resident][hospital] != NONE
                && ofHospitals.places[hospital][resident] != NONE;
        }

        int countPairs() {
            int pairs = 0;
            for (int resident = 0; resident < residents; resident++) {
                for (int hospital = 0; hospital < hospitals; hospital++) {
                    if (isPair(resident, hospital)) {
                        pairs++;
                    }
                }
            }
            return pairs;
        }

        /** The place of a hospital in a resident's list; NONE also for no hospital. */
        int placeOfHospital(int resident, int hospital) {
            return hospital == NONE ? NONE : ofResidents.places[resident][hospital];
        }

        int placeOfResident(int hospital, int resident) {
            return ofHospitals.places[hospital][resident];
        }
    }

    /** A hospital or NONE for each resident: what may be a matching, and what would block it. */
    private static final class Matching {
        private final Hall hall;
        private final int[] hospitalOf = new int[MOST];

        Matching(Hall ofHall) {
            hall = ofHall;
            clear();
        }

        void clear() {
            Arrays.fill(hospitalOf, NONE);
        }

        int countAt(int hospital) {
            int many = 0;
            for (int resident = 0; resident < hall.residents; resident++) {
                if (hospitalOf[resident] == hospital) {
                    many++;
                }
            }
            return many;
        }

        /** The one of a hospital's residents that it lists last; NONE when it has none. */
        int lastAt(int hospital) {
            int last = NONE;
            for (int resident = 0; resident < hall.residents; resident++) {
                if (hospitalOf[resident] == hospital && (last == NONE
                    || hall.placeOfResident(hospital, resident) > hall.placeOfResident(hospital, last))) {
                    last = resident;
                }
            }
            return last;
        }

        boolean isMatching() {
            for (int resident = 0; resident < hall.residents; resident++) {
                int hospital = hospitalOf[resident];
                if (hospital != NONE && (!hall.isPair(resident, hospital)
                    || countAt(hospital) > hall.seatsOf[hospital])) {
                    return false;
                }
            }
            return true;
        }

        boolean isStable() {
            return isMatching() && blockingPair(0) == NONE;
        }

        int countBlocking() {
            int many = 0;
            for (int resident = 0; resident < hall.residents; resident++) {
                for (int hospital = 0; hospital < hall.hospitals; hospital++) {
                    if (isBlockedBy(resident, hospital)) {
                        many++;
                    }
                }
            }
            return many;
        }

        int blockingPair(int i) {
            int seen = 0;
            for (int resident = 0; resident < hall.residents; resident++) {
                for (int hospital = 0; hospital < hall.hospitals; hospital++) {
                    if (isBlockedBy(resident, hospital)) {
                        if (seen == i) {
                            return 8 * resident + hospital;
                        }
                        seen++;
                    }
                }
            }
            return NONE;
        }

        /** A pair of the matching needs no test: no list has its resident's hospital before itself. */
        private boolean isBlockedBy(int resident, int hospital) {
            return hall.isPair(resident, hospital)
                && wouldGo(resident, hospital)
                && wouldGet(hospital, resident);
        }

        private boolean wouldGo(int resident, int hospital) {
            int[] places = hall.ofResidents.places[resident];
            int own = hospitalOf[resident];
            return own == NONE || places[hospital] < places[own];
        }

        private boolean wouldGet(int hospital, int resident) {
            int[] places = hall.ofHospitals.places[hospital];
            int taken = 0;
            for (int other = 0; other < hall.residents; other++) {
                if (hospitalOf[other] == hospital) {
                    taken++;
                    if (places[resident] < places[other]) {
                        return true;
                    }
                }
            }
            return taken < hall.seatsOf[hospital];
        }

        /** Whether a resident and the hospital of another one would rather have each other. */
        boolean isRival(int resident, int other) {
            int hospital = hospitalOf[other];
            return hospital != NONE
                && hall.isPair(resident, hospital)
                && wouldGo(resident, hospital)
                && hall.placeOfResident(hospital, resident) < hall.placeOfResident(hospital, other);
        }
    }

    /** All stable matchings by their numbers, one after the other in a single row. */
    private static final class Stables {
        private final Hall hall;
        private final int[] hospitals = new int[MOST_MATCHINGS * MOST];
        private final int[] places = new int[MOST_MATCHINGS * MOST];
        private int size;

        Stables(Hall ofHall) {
            hall = ofHall;
        }

        boolean has(int matching) {
            return matching >= 0 && matching < size;
        }

        void add(Matching matching) {
            if (size == MOST_MATCHINGS) {
                return;
            }
            System.arraycopy(matching.hospitalOf, 0, hospitals, size * MOST, MOST);
            for (int resident = 0; resident < hall.residents; resident++) {
                places[size * MOST + resident] = hall.placeOfHospital(resident, matching.hospitalOf[resident]);
            }
            size++;
        }

        void copyTo(Matching target, int matching) {
            System.arraycopy(hospitals, matching * MOST, target.hospitalOf, 0, MOST);
        }

        int hospitalAt(int matching, int resident) {
            return hospitals[matching * MOST + resident];
        }

        int placeAt(int matching, int resident) {
            return places[matching * MOST + resident];
        }

        int find(Matching wanted) {
            for (int matching = 0; matching < size; matching++) {
                if (isSame(matching, wanted)) {
                    return matching;
                }
            }
            return NONE;
        }

        private boolean isSame(int matching, Matching wanted) {
            for (int resident = 0; resident < hall.residents; resident++) {
                if (hospitalAt(matching, resident) != wanted.hospitalOf[resident]) {
                    return false;
                }
            }
            return true;
        }

        /** Who has no hospital has none in both, so that its place is the same. */
        boolean isBehind(int i, int k) {
            int first = i * MOST;
            int second = k * MOST;
            for (int resident = 0; resident < hall.residents; resident++) {
                if (places[second + resident] < places[first + resident]) {
                    return false;
                }
            }
            return i != k;
        }

        /** The same residents have hospitals in all of them: the first one tells. */
        int countSeated() {
            int many = 0;
            for (int resident = 0; resident < hall.residents; resident++) {
                if (hospitalAt(0, resident) != NONE) {
                    many++;
                }
            }
            return many;
        }

        int costOf(int matching, int what) {
            int ofResidents = 0;
            int ofHospitals = 0;
            int greatest = NONE;
            for (int resident = 0; resident < hall.residents; resident++) {
                int hospital = hospitalAt(matching, resident);
                if (hospital != NONE) {
                    int mine = placeAt(matching, resident);
                    int theirs = hall.placeOfResident(hospital, resident);
                    ofResidents += mine;
                    ofHospitals += theirs;
                    greatest = Math.max(greatest, Math.max(mine, theirs));
                }
            }
            switch (what) {
                case 0:
                    return ofResidents;
                case 1:
                    return ofHospitals;
                case 2:
                    return ofResidents + ofHospitals;
                case 3:
                    return Math.abs(ofResidents - ofHospitals);
                case 4:
                    return greatest;
                default:
                    return NONE;
            }
        }
    }

    /**
     * Seats the residents one after the other, each at the hospitals of its list in order: so the
     * stable matchings come in the order of their numbers.
     */
    private static final class Finder {
        private final Hall hall;
        private final Stables stables;
        private final Matching trial;
        private final int[] asked = new int[MOST];
        private final int[] bestPlace = new int[MOST];
        private final int[] toFill = new int[MOST];

        Finder(Hall ofHall, Stables ofStables, Matching scratch) {
            hall = ofHall;
            stables = ofStables;
            trial = scratch;
        }

        void findAll() {
            trial.clear();
            letAllAsk();
            noteLimits();
            seatFrom(0);
        }

        /** Deferred acceptance: it ends with the stable matching that is best for all residents. */
        private void letAllAsk() {
            Arrays.fill(asked, 0);
            int asker = nextAsker();
            for (int times = 0; times < MOST * MOST && asker != NONE; times++) {
                ask(asker);
                asker = nextAsker();
            }
        }

        private int nextAsker() {
            for (int resident = 0; resident < hall.residents; resident++) {
                if (trial.hospitalOf[resident] == NONE
                    && asked[resident] < hall.ofResidents.sizes[resident]) {
                    return resident;
                }
            }
            return NONE;
        }

        private void ask(int resident) {
            int hospital = hall.ofResidents.at(resident, asked[resident]);
            asked[resident]++;
            if (hospital == NONE || !hall.isPair(resident, hospital)) {
                return;
            }
            trial.hospitalOf[resident] = hospital;
            int last = trial.lastAt(hospital);
            if (last != NONE && trial.countAt(hospital) > hall.seatsOf[hospital]) {
                trial.hospitalOf[last] = NONE;
            }
        }

        /**
         * No stable matching gives a resident a better hospital than this one, a hospital to one
         * that has none in it, or a hospital more or fewer residents: that keeps the search small.
         */
        private void noteLimits() {
            for (int resident = 0; resident < hall.residents; resident++) {
                bestPlace[resident] = hall.placeOfHospital(resident, trial.hospitalOf[resident]);
            }
            for (int hospital = 0; hospital < hall.hospitals; hospital++) {
                toFill[hospital] = trial.countAt(hospital);
            }
        }

        /** The resident's number is the depth: no level is deeper than the last resident's. */
        private void seatFrom(int first) {
            int resident = nextToSeat(first);
            if (resident == NONE) {
                // only pairs are tried, and no more than there are seats: it is a matching
                if (trial.blockingPair(0) == NONE) {
                    stables.add(trial);
                }
                return;
            }
            for (int place = bestPlace[resident]; place < hall.ofResidents.sizes[resident]; place++) {
                trySeat(resident, hall.ofResidents.at(resident, place));
            }
        }

        /** Those between have no hospital in any stable matching, nor in the trial from the start on. */
        private int nextToSeat(int first) {
            for (int resident = first; resident < hall.residents; resident++) {
                if (bestPlace[resident] != NONE) {
                    return resident;
                }
            }
            return NONE;
        }

        private void trySeat(int resident, int hospital) {
            if (hospital == NONE || toFill[hospital] == 0 || !hall.isPair(resident, hospital)) {
                return;
            }
            trial.hospitalOf[resident] = hospital;
            toFill[hospital]--;
            if (!hasRivals(resident)) {
                seatFrom(resident + 1);
            }
            toFill[hospital]++;
        }

        /** Two rivals block whatever the residents after them get, so none of those is tried. */
        private boolean hasRivals(int resident) {
            for (int other = 0; other < resident; other++) {
                if (trial.isRival(resident, other) || trial.isRival(other, resident)) {
                    return true;
                }
            }
            return false;
        }
    }

    /** All rotations by their numbers, each kept as the first step that has it. */
    private static final class Rotations {
        private final Stables stables;
        private final int[] from = new int[MOST_ROTATIONS];
        private final int[] to = new int[MOST_ROTATIONS];
        private final int[] keys = new int[MOST_ROTATIONS];
        private final int[] doneIn = new int[MOST_MATCHINGS];
        private int size;

        Rotations(Stables ofStables) {
            stables = ofStables;
        }

        boolean has(int k) {
            return k >= 0 && k < size;
        }

        void findAll() {
            for (int start = 0; start < stables.size; start++) {
                addFirstStep(start);
            }
            for (int matching = 0; matching < stables.size; matching++) {
                doneIn[matching] = doneMask(matching);
            }
        }

        /**
         * What is behind another one has a greater number: the first that is behind the start has no
         * third one before it. These steps have all rotations, as in the last of the stable matchings
         * in which a rotation is not done yet, all others that are not done come after it.
         */
        private void addFirstStep(int start) {
            for (int end = start + 1; end < stables.size; end++) {
                if (stables.isBehind(start, end)) {
                    add(start, end);
                    return;
                }
            }
        }

        private void add(int start, int end) {
            int key = orderKey(start, end);
            int k = 0;
            while (k < size && keys[k] < key) {
                k++;
            }
            boolean isKnown = k < size && keys[k] == key;
            if (isKnown || size == MOST_ROTATIONS) {
                return;
            }
            makeRoomAt(k);
            from[k] = start;
            to[k] = end;
            keys[k] = key;
            size++;
        }

        private void makeRoomAt(int k) {
            for (int later = size; later > k; later--) {
                from[later] = from[later - 1];
                to[later] = to[later - 1];
                keys[later] = keys[later - 1];
            }
        }

        /** Rotations are numbered by this, and no two have the same. */
        private int orderKey(int start, int end) {
            int least = moverOf(start, end, 0);
            return least == NONE ? NONE : least * MOST + stables.placeAt(start, least);
        }

        int mover(int k, int i) {
            return moverOf(from[k], to[k], i);
        }

        /** The i-th least resident that has not the same hospital in both; NONE when there is none. */
        private int moverOf(int start, int end, int i) {
            int seen = 0;
            for (int resident = 0; resident < stables.hall.residents; resident++) {
                if (stables.hospitalAt(start, resident) != stables.hospitalAt(end, resident)) {
                    if (seen == i) {
                        return resident;
                    }
                    seen++;
                }
            }
            return NONE;
        }

        private int doneMask(int matching) {
            int mask = 0;
            for (int k = 0; k < size; k++) {
                int least = mover(k, 0);
                if (least != NONE && stables.placeAt(matching, least) >= stables.placeAt(to[k], least)) {
                    mask |= 1 << k;
                }
            }
            return mask;
        }

        boolean isDone(int k, int matching) {
            return (doneIn[matching] >> k & 1) == 1;
        }

        boolean isBefore(int k, int l) {
            for (int matching = 0; matching < stables.size; matching++) {
                if (isDone(l, matching) && !isDone(k, matching)) {
                    return false;
                }
            }
            return k != l;
        }

        /** Whether in no other stable matching just the same rotations are done. */
        boolean isKnownByDone(int matching) {
            for (int other = 0; other < stables.size; other++) {
                if (other != matching && doneIn[other] == doneIn[matching]) {
                    return false;
                }
            }
            return true;
        }
    }
}
