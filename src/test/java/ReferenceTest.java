import java.util.ArrayList;
import java.util.Arrays;
import java.util.Collections;
import java.util.List;
import java.util.Random;

/**
 * Runs of calls, the same each time, whose answers are compared with a reference that follows the
 * document's words by trying everything: all matchings, all third ones, all rotations.
 */
public final class ReferenceTest {
    private static final int NONE = -1;
    private static final int CALLS = 512;
    private static final int RUNS = 300;
    private static final int THROWS_INDEX = -1000;
    private static final int THROWS_ARGUMENT = -1001;

    private static int wrong = 0;

    public static void main(String[] args) {
        for (int run = 0; run < RUNS; run++) {
            new Run(run).play();
        }
        System.out.println(wrong == 0 ? "all answers are as due" : wrong + " answers are not as due");
        if (wrong != 0) {
            System.exit(1);
        }
    }

    private enum Call {
        MAKE(2), SEATS(2), PREFER(3), FORGET(2), LISTED(3), WORK(0), COUNT(1), HOSPITAL(2), COST(2), CHEAPEST(1),
        BOUND(3), BEHIND(2), ROTATION(3), DONE(2), BEFORE(2), TELL(2), TAKE(1), FITS(0), BLOCKS(0), BLOCKING(1),
        WHICH(0), CHECK(0);

        final int arguments;

        Call(int arguments) {
            this.arguments = arguments;
        }
    }

    /** One object and its reference, told the same calls. */
    private static final class Run {
        final int number;
        final Random random;
        final MatchHall hall = new MatchHall();
        final Reference reference = new Reference();
        final StringBuilder story = new StringBuilder();
        int calls = 0;

        Run(int number) {
            this.number = number;
            this.random = new Random(number);
        }

        void play() {
            if (number % 10 != 0) {
                build();
                call(Call.WORK, 0, 0, 0);
            }
            while (calls < CALLS) {
                anyCall();
            }
        }

        void build() {
            int n = number % 4 == 0 ? 6 : 1 + random.nextInt(6);
            int m = number % 4 < 2 ? n : 1 + random.nextInt(6);
            call(Call.MAKE, n, m, 0);
            for (int h = 0; h < m; h++) {
                if (number % 4 != 0 && random.nextInt(3) > 0) {
                    call(Call.SEATS, h, 1 + random.nextInt(3), 0);
                }
            }
            List<List<Integer>> ofResidents = new ArrayList<>();
            List<Integer> turns = shuffled(m);
            for (int r = 0; r < n; r++) {
                ofResidents.add(number % 4 == 0 ? turned(r, turns) : shuffled(m));
            }
            int gaps = random.nextInt(3) * 10;
            for (int r = 0; r < n; r++) {
                fill(0, r, ofResidents.get(r), gaps);
            }
            for (int h = 0; h < m; h++) {
                fill(1, h, number % 5 == 0 ? shuffled(n) : opposed(h, ofResidents), gaps);
            }
        }

        List<Integer> shuffled(int size) {
            List<Integer> list = new ArrayList<>();
            for (int i = 0; i < size; i++) {
                list.add(i);
            }
            Collections.shuffle(list, random);
            return list;
        }

        /** The turns of a triangle and its mirror: up to 48 stable matchings, the most there are. */
        List<Integer> turned(int who, List<Integer> turns) {
            List<Integer> list = new ArrayList<>();
            for (int turn : turns) {
                int angle = Math.floorMod(who < 3 ? who + turn : who - turn, 3);
                list.add(angle + ((who < 3) == (turn < 3) ? 0 : 3));
            }
            return list;
        }

        /** Who lists the hospital late stands early in its list: that makes many stable matchings. */
        List<Integer> opposed(int h, List<List<Integer>> ofResidents) {
            List<Integer> list = shuffled(ofResidents.size());
            list.sort((a, b) -> ofResidents.get(b).indexOf(h) - ofResidents.get(a).indexOf(h));
            if (random.nextInt(5) == 0) {
                Collections.swap(list, random.nextInt(list.size()), random.nextInt(list.size()));
            }
            return list;
        }

        void fill(int side, int who, List<Integer> list, int gaps) {
            for (int whom : list) {
                if (random.nextInt(100) >= gaps) {
                    call(Call.PREFER, side, who, whom);
                }
            }
        }

        void anyCall() {
            int kind = random.nextInt(300);
            Call[] all = Call.values();
            if (kind < 1) {
                call(Call.MAKE, number(1, 6), number(1, 6), 0);
                build();
            } else if (kind < 2) {
                call(Call.SEATS, number(0, reference.m - 1), number(1, 3), 0);
            } else if (kind < 4) {
                call(Call.FORGET, number(0, 1), number(0, 5), 0);
            } else if (kind < 10) {
                call(Call.PREFER, number(0, 1), number(0, 5), number(0, 5));
            } else if (kind < 12 || reference.stable == null && kind < 100) {
                call(Call.WORK, 0, 0, 0);
            } else if (kind < 30) {
                call(Call.TELL, number(0, reference.n - 1), number(-1, reference.m - 1), 0);
            } else if (kind < 50) {
                nearTake();
            } else {
                query(all[Call.LISTED.ordinal() + random.nextInt(all.length - Call.LISTED.ordinal())]);
            }
        }

        /** Tells a stable matching with perhaps one resident changed. */
        void nearTake() {
            call(Call.TAKE, number(0, stables() - 1), 0, 0);
            if (random.nextBoolean()) {
                call(Call.TELL, number(0, reference.n - 1), number(-1, reference.m - 1), 0);
            }
            call(Call.BLOCKS, 0, 0, 0);
            call(Call.BLOCKING, number(0, 2), 0, 0);
            call(Call.WHICH, 0, 0, 0);
        }

        void query(Call call) {
            int s = stables() - 1;
            int t = rotations() - 1;
            switch (call) {
                case LISTED -> call(call, number(0, 1), number(0, 5), number(0, 5));
                case COUNT -> call(call, number(0, 3), 0, 0);
                case HOSPITAL -> call(call, number(0, s), number(0, reference.n - 1), 0);
                case COST -> call(call, number(0, s), number(0, 4), 0);
                case CHEAPEST -> call(call, number(0, 4), 0, 0);
                case BOUND -> call(call, number(0, 1), number(0, s), number(0, s));
                case BEHIND -> call(call, number(0, s), number(0, s), 0);
                case ROTATION -> call(call, number(0, t), number(0, 3), number(0, 2));
                case DONE -> call(call, number(0, t), number(0, s), 0);
                case BEFORE -> call(call, number(0, t), number(0, t), 0);
                case TELL -> call(call, number(0, 5), number(-1, 5), 0);
                case TAKE -> call(call, number(0, s), 0, 0);
                case BLOCKING -> call(call, number(0, 6), 0, 0);
                default -> call(call, 0, 0, 0);
            }
        }

        int stables() {
            return reference.stable == null ? 0 : reference.stable.size();
        }

        int rotations() {
            return reference.stable == null ? 0 : reference.rotations.size();
        }

        /** Mostly one of least .. most, now and then one beside them or far away. */
        int number(int least, int most) {
            int kind = random.nextInt(60);
            if (kind == 0) {
                return least - 1;
            }
            if (kind == 1) {
                return most + 1;
            }
            if (kind == 2) {
                int[] far = {Integer.MIN_VALUE, Integer.MAX_VALUE, -7, 100, 1 << 30, 0x55555555};
                return far[random.nextInt(far.length)];
            }
            return most < least ? least : least + random.nextInt(most - least + 1);
        }

        void call(Call call, int a, int b, int c) {
            if (calls >= CALLS) {
                return;
            }
            calls++;
            int got = ask(call, a, b, c);
            int want = reference.answer(call, a, b, c);
            int[] arguments = {a, b, c};
            story.append(call).append(Arrays.toString(Arrays.copyOf(arguments, call.arguments)))
                .append(" = ").append(got).append('\n');
            if (got != want) {
                wrong++;
                if (wrong == 1) {
                    System.out.print(story);
                }
                System.out.println("run " + number + ", call " + calls + ": " + call
                    + Arrays.toString(Arrays.copyOf(arguments, call.arguments))
                    + " answered " + got + ", due is " + want);
            }
        }

        int ask(Call call, int a, int b, int c) {
            try {
                switch (call) {
                    case MAKE -> hall.make(a, b);
                    case SEATS -> hall.seats(a, b);
                    case TELL -> hall.tell(a, b);
                    case TAKE -> hall.take(a);
                    default -> {
                        return answered(call, a, b, c);
                    }
                }
                return 0;
            } catch (IndexOutOfBoundsException e) {
                // one that the library throws has a text or another class
                boolean isThrownByHand = e.getClass() == IndexOutOfBoundsException.class && e.getMessage() == null;
                return isThrownByHand ? THROWS_INDEX : THROWS_INDEX - 100;
            } catch (IllegalArgumentException e) {
                return e.getClass() == IllegalArgumentException.class ? THROWS_ARGUMENT : THROWS_ARGUMENT - 100;
            }
        }

        int answered(Call call, int a, int b, int c) {
            return switch (call) {
                case PREFER -> hall.prefer(a, b, c);
                case FORGET -> hall.forget(a, b);
                case LISTED -> hall.listed(a, b, c);
                case WORK -> hall.work();
                case COUNT -> hall.count(a);
                case HOSPITAL -> hall.hospital(a, b);
                case COST -> hall.cost(a, b);
                case CHEAPEST -> hall.cheapest(a);
                case BOUND -> hall.bound(a, b, c);
                case BEHIND -> hall.behind(a, b);
                case ROTATION -> hall.rotation(a, b, c);
                case DONE -> hall.done(a, b);
                case BEFORE -> hall.before(a, b);
                case FITS -> hall.fits();
                case BLOCKS -> hall.blocks();
                case BLOCKING -> hall.blocking(a);
                case WHICH -> hall.which();
                case CHECK -> hall.check();
                default -> throw new IllegalStateException();
            };
        }
    }

    /** The moves of a rotation: who leaves which hospital for which. */
    private record Move(int resident, int leaves, int gets) { }

    /** The document's words, one after the other. */
    private static final class Reference {
        int n = 1;
        int m = 1;
        int[] seats = {1, 1, 1, 1, 1, 1};
        List<List<List<Integer>>> lists = emptyLists();
        int[] told = {NONE};
        List<int[]> stable = null;
        List<List<Move>> rotations = null;

        List<List<List<Integer>>> emptyLists() {
            List<List<List<Integer>>> sides = new ArrayList<>();
            for (int side = 0; side < 2; side++) {
                List<List<Integer>> all = new ArrayList<>();
                for (int who = 0; who < 6; who++) {
                    all.add(new ArrayList<>());
                }
                sides.add(all);
            }
            return sides;
        }

        int answer(Call call, int a, int b, int c) {
            return switch (call) {
                case MAKE -> make(a, b);
                case SEATS -> seats(a, b);
                case PREFER -> prefer(a, b, c);
                case FORGET -> forget(a, b);
                case LISTED -> isList(a, b) && isIn(c, lists.get(a).get(b).size()) ? lists.get(a).get(b).get(c) : NONE;
                case WORK -> work();
                case COUNT -> count(a);
                case HOSPITAL -> isStable(a) && isIn(b, n) ? stable.get(a)[b] : NONE;
                case COST -> cost(a, b);
                case CHEAPEST -> cheapest(a);
                case BOUND -> bound(a, b, c);
                case BEHIND -> isStable(a) && isStable(b) ? bit(isBehind(stable.get(a), stable.get(b))) : NONE;
                case ROTATION -> rotation(a, b, c);
                case DONE -> isRotation(a) && isStable(b) ? bit(isDone(rotations.get(a), stable.get(b))) : NONE;
                case BEFORE -> before(a, b);
                case TELL -> tell(a, b);
                case TAKE -> take(a);
                case FITS -> bit(isMatching(told));
                case BLOCKS -> isMatching(told) ? blocking(told).size() : NONE;
                case BLOCKING -> isMatching(told) && isIn(a, blocking(told).size()) ? blocking(told).get(a) : NONE;
                case WHICH -> which();
                case CHECK -> check();
            };
        }

        static int bit(boolean is) {
            return is ? 1 : 0;
        }

        static boolean isIn(int i, int size) {
            return i >= 0 && i < size;
        }

        boolean isStable(int k) {
            return stable != null && isIn(k, stable.size());
        }

        boolean isRotation(int k) {
            return stable != null && isIn(k, rotations.size());
        }

        boolean isList(int side, int who) {
            return side == 0 && isIn(who, n) || side == 1 && isIn(who, m);
        }

        int make(int residents, int hospitals) {
            if (!isIn(residents - 1, 6) || !isIn(hospitals - 1, 6)) {
                return THROWS_ARGUMENT;
            }
            n = residents;
            m = hospitals;
            Arrays.fill(seats, 1);
            lists = emptyLists();
            told = new int[n];
            Arrays.fill(told, NONE);
            stable = null;
            return 0;
        }

        int seats(int hospital, int many) {
            if (!isIn(hospital, m)) {
                return THROWS_INDEX;
            }
            if (many < 1 || many > 3) {
                return THROWS_ARGUMENT;
            }
            seats[hospital] = many;
            stable = null;
            return 0;
        }

        int prefer(int side, int who, int whom) {
            if (!isList(side, who) || !isList(1 - side, whom) || lists.get(side).get(who).contains(whom)) {
                return NONE;
            }
            lists.get(side).get(who).add(whom);
            stable = null;
            return lists.get(side).get(who).size();
        }

        int forget(int side, int who) {
            if (!isList(side, who)) {
                return NONE;
            }
            int had = lists.get(side).get(who).size();
            lists.get(side).get(who).clear();
            stable = null;
            return had;
        }

        int place(int side, int who, int whom) {
            return lists.get(side).get(who).indexOf(whom);
        }

        boolean isPair(int r, int h) {
            return place(0, r, h) >= 0 && place(1, h, r) >= 0;
        }

        boolean isMatching(int[] row) {
            int[] taken = new int[6];
            for (int r = 0; r < n; r++) {
                if (row[r] != NONE) {
                    taken[row[r]]++;
                    if (!isPair(r, row[r]) || taken[row[r]] > seats[row[r]]) {
                        return false;
                    }
                }
            }
            return true;
        }

        boolean isBlocking(int r, int h, int[] row) {
            if (!isPair(r, h) || row[r] == h) {
                return false;
            }
            if (row[r] != NONE && place(0, r, h) > place(0, r, row[r])) {
                return false;
            }
            int taken = 0;
            boolean isBeforeOne = false;
            for (int other = 0; other < n; other++) {
                if (row[other] == h) {
                    taken++;
                    isBeforeOne |= place(1, h, r) < place(1, h, other);
                }
            }
            return taken < seats[h] || isBeforeOne;
        }

        boolean isBlocked(int[] row) {
            for (int r = 0; r < n; r++) {
                for (int h = 0; h < m; h++) {
                    if (isBlocking(r, h, row)) {
                        return true;
                    }
                }
            }
            return false;
        }

        List<Integer> blocking(int[] row) {
            List<Integer> found = new ArrayList<>();
            for (int r = 0; r < n; r++) {
                for (int h = 0; h < m; h++) {
                    if (isBlocking(r, h, row)) {
                        found.add(8 * r + h);
                    }
                }
            }
            return found;
        }

        int work() {
            stable = new ArrayList<>();
            tryAll(new int[n], 0);
            stable.sort(this::order);
            findRotations();
            return stable.size();
        }

        void tryAll(int[] row, int r) {
            if (r == n) {
                if (isMatching(row) && !isBlocked(row)) {
                    stable.add(row.clone());
                }
                return;
            }
            for (int h = NONE; h < m; h++) {
                if (h == NONE || isPair(r, h)) {
                    row[r] = h;
                    tryAll(row, r + 1);
                }
            }
        }

        int order(int[] a, int[] b) {
            for (int r = 0; r < n; r++) {
                if (a[r] != b[r]) {
                    return place(0, r, a[r]) - place(0, r, b[r]);
                }
            }
            return 0;
        }

        boolean isBehind(int[] first, int[] second) {
            for (int r = 0; r < n; r++) {
                if (first[r] != second[r] && place(0, r, second[r]) < place(0, r, first[r])) {
                    return false;
                }
            }
            return !Arrays.equals(first, second);
        }

        void findRotations() {
            rotations = new ArrayList<>();
            for (int[] first : stable) {
                for (int[] second : stable) {
                    if (isStep(first, second) && !rotations.contains(moves(first, second))) {
                        rotations.add(moves(first, second));
                    }
                }
            }
            rotations.sort((a, b) -> key(a) - key(b));
        }

        boolean isStep(int[] first, int[] second) {
            if (!isBehind(first, second)) {
                return false;
            }
            for (int[] third : stable) {
                if (isBehind(first, third) && isBehind(third, second)) {
                    return false;
                }
            }
            return true;
        }

        List<Move> moves(int[] first, int[] second) {
            List<Move> all = new ArrayList<>();
            for (int r = 0; r < n; r++) {
                if (first[r] != second[r]) {
                    all.add(new Move(r, first[r], second[r]));
                }
            }
            return all;
        }

        int key(List<Move> moves) {
            Move least = moves.get(0);
            return least.resident() * 10 + place(0, least.resident(), least.leaves());
        }

        boolean isDone(List<Move> moves, int[] row) {
            Move least = moves.get(0);
            return place(0, least.resident(), row[least.resident()]) >= place(0, least.resident(), least.gets());
        }

        int before(int k, int l) {
            if (!isRotation(k) || !isRotation(l)) {
                return NONE;
            }
            for (int[] row : stable) {
                if (isDone(rotations.get(l), row) && !isDone(rotations.get(k), row)) {
                    return 0;
                }
            }
            return bit(k != l);
        }

        int rotation(int k, int i, int what) {
            if (!isRotation(k) || !isIn(i, rotations.get(k).size()) || !isIn(what, 3)) {
                return NONE;
            }
            Move move = rotations.get(k).get(i);
            int[] answers = {move.resident(), move.leaves(), move.gets()};
            return answers[what];
        }

        int count(int what) {
            if (stable == null || !isIn(what, 4)) {
                return NONE;
            }
            int pairs = 0;
            int seated = 0;
            for (int r = 0; r < n; r++) {
                boolean isSeated = true;
                for (int[] row : stable) {
                    isSeated &= row[r] != NONE;
                }
                seated += bit(isSeated);
                for (int h = 0; h < m; h++) {
                    pairs += bit(isPair(r, h));
                }
            }
            int[] answers = {stable.size(), rotations.size(), pairs, seated};
            return answers[what];
        }

        int cost(int k, int what) {
            if (!isStable(k) || !isIn(what, 5)) {
                return NONE;
            }
            int[] row = stable.get(k);
            int mine = 0;
            int theirs = 0;
            List<Integer> all = new ArrayList<>();
            for (int r = 0; r < n; r++) {
                if (row[r] != NONE) {
                    mine += place(0, r, row[r]);
                    theirs += place(1, row[r], r);
                    all.add(place(0, r, row[r]));
                    all.add(place(1, row[r], r));
                }
            }
            int greatest = all.isEmpty() ? NONE : Collections.max(all);
            int[] answers = {mine, theirs, mine + theirs, mine > theirs ? mine - theirs : theirs - mine, greatest};
            return answers[what];
        }

        int cheapest(int what) {
            if (stable == null || !isIn(what, 5)) {
                return NONE;
            }
            for (int k = 0; k < stable.size(); k++) {
                boolean isLeast = true;
                for (int other = 0; other < stable.size(); other++) {
                    isLeast &= cost(k, what) <= cost(other, what);
                }
                if (isLeast) {
                    return k;
                }
            }
            throw new IllegalStateException("no cost is least");
        }

        int bound(int kind, int i, int k) {
            if (!isIn(kind, 2) || !isStable(i) || !isStable(k)) {
                return NONE;
            }
            int[] wanted = new int[n];
            for (int r = 0; r < n; r++) {
                int a = stable.get(i)[r];
                int b = stable.get(k)[r];
                boolean isBetter = place(0, r, a) < place(0, r, b);
                wanted[r] = kind == 0 ? (isBetter ? a : b) : (isBetter ? b : a);
            }
            int found = numberOf(wanted);
            if (found == NONE) {
                throw new IllegalStateException("a bound is not stable");
            }
            return found;
        }

        int numberOf(int[] wanted) {
            for (int k = 0; stable != null && k < stable.size(); k++) {
                if (Arrays.equals(stable.get(k), wanted)) {
                    return k;
                }
            }
            return NONE;
        }

        int tell(int r, int h) {
            if (!isIn(r, n) || h != NONE && !isIn(h, m)) {
                return THROWS_INDEX;
            }
            told[r] = h;
            return 0;
        }

        int take(int k) {
            if (!isStable(k)) {
                return THROWS_INDEX;
            }
            told = stable.get(k).clone();
            return 0;
        }

        int which() {
            return numberOf(told);
        }

        int check() {
            return stable == null ? NONE : 1;
        }
    }
}
