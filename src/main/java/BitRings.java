import java.util.Arrays;

/**
 * A shift register with any feedback and its rings, and four sheets that hold rows of its output.
 * Refusals and faults are answered as numbers; nothing is ever thrown.
 */
public final class BitRings {
    public static final int UNKNOWN = -1, OUTSIDE = -2, STATE = -3, FULL = -4, NONE = -9;
    public static final long LOST = Long.MIN_VALUE;

    private static final int NO_FAULT = 0, NULL = 1, CAST = 2, INDEX = 3, SIZE = 4;
    private static final int FAULT_BASE = -10;
    private static final int SHEETS = 4;
    private static final int ALONE = 0, LONGER = 1, BEHIND = 2, ANY_ON = 3;
    private static final int WEIGHT_BEHIND = 600;
    private static final int UNNAMED = -1;

    private final Register register;
    private final Rings rings;
    private final Trees trees;
    private final Sheet[] sheets;
    private final RowReader reader;
    private int traceLeft;
    private int latestFault;

    public BitRings() {
        register = new Register();
        rings = new Rings();
        trees = new Trees();
        sheets = new Sheet[SHEETS];
        for (int k = 0; k < SHEETS; k++) {
            sheets[k] = new Sheet();
        }
        reader = new RowReader();
    }

    // ---- 1 the register

    public int length(int n) {
        if (n < Register.SHORTEST || n > Register.LONGEST) {
            return OUTSIDE;
        }
        int was = register.bitCount;
        register.restart(n);
        return was;
    }

    public int set(int s, int bit) {
        if (!register.has(s)) {
            return UNKNOWN;
        }
        if (!isBit(bit)) {
            return OUTSIDE;
        }
        int was = register.bits[s];
        register.write(s, bit);
        return was;
    }

    public int linear(int mask, int one) {
        if (!register.has(mask) || !isBit(one)) {
            return OUTSIDE;
        }
        register.fillLinear(mask, one);
        return register.countOnes();
    }

    public int take(int sheet, int lane, int i, int k, int s) {
        latestFault = NO_FAULT;
        if (!isSheet(sheet) || !register.has(s)) {
            return UNKNOWN;
        }
        if (!isLane(lane)) {
            return OUTSIDE;
        }
        Sheet row = sheets[sheet];
        if (row.isOfOtherLane(lane)) {
            return faulted(CAST);
        }
        if (row.isNothing()) {
            return faulted(NULL);
        }
        if (k < 0) {
            return faulted(SIZE);
        }
        if (!row.hasCells(i, k) || !register.hasRun(s, k)) {
            return faulted(INDEX);
        }
        for (int j = 0; j < k; j++) {
            register.write(s + j, row.bitAt(i + j));
        }
        return k;
    }

    public int feedback(int s) {
        return register.has(s) ? register.bits[s] : UNKNOWN;
    }

    public int step(int s, long k) {
        if (!register.has(s)) {
            return UNKNOWN;
        }
        if (k < 0) {
            return OUTSIDE;
        }
        return register.walk(s, foundRings().stepsThatMatter(s, k));
    }

    public int back(int s, int which) {
        if (!register.has(s)) {
            return UNKNOWN;
        }
        if (which < -1 || which > 1) {
            return OUTSIDE;
        }
        int count = register.countBefore(s);
        if (which == -1) {
            return count;
        }
        if (which >= count) {
            return UNKNOWN;
        }
        int even = register.evenBefore(s);
        boolean isEven = which == 0 && register.next(even) == s;
        return isEven ? even : even + 1;
    }

    public int about(int s, int what) {
        if (!register.has(s)) {
            return UNKNOWN;
        }
        switch (what) {
            case 0:
                return foundRings().ringOf[s];
            case 1:
                return foundRings().behind[s];
            case 2:
                return foundRings().place[s];
            case 3:
                return s ^ 1;
            default:
                return OUTSIDE;
        }
    }

    public int ring(int r, int what) {
        Rings found = foundRings();
        if (!found.has(r)) {
            return UNKNOWN;
        }
        switch (what) {
            case 0:
                return found.size[r];
            case 1:
                return found.least[r];
            case 2:
                return found.countOnesOut(register, r);
            case 3:
                return found.countBehind(register, r);
            default:
                return OUTSIDE;
        }
    }

    public int told(int what) {
        switch (what) {
            case 0:
                return register.bitCount;
            case 1:
                return register.states;
            case 2:
                return foundRings().count;
            case 3:
                return register.states - foundRings().peeled;
            case 4:
                return register.isPure() ? 1 : 0;
            case 5:
                return register.countOnes();
            case 6:
                return foundRings().farthest;
            case 7:
                return foundRings().starts;
            default:
                return OUTSIDE;
        }
    }

    public int turn(int t) {
        if (t < 0 || t >= register.states / 2) {
            return UNKNOWN;
        }
        if (!register.isPure()) {
            return STATE;
        }
        register.turnPair(t);
        return foundRings().count;
    }

    public int join() {
        if (!register.isPure()) {
            return STATE;
        }
        return foundRings().joinAll(register);
    }

    public int ways() {
        if (!register.isPure()) {
            return STATE;
        }
        return trees.count(register, foundRings());
    }

    public int prefer(int b) {
        if (!isBit(b)) {
            return OUTSIDE;
        }
        register.fillPreferring(b);
        return register.countOnes();
    }

    // ---- 2 sheets

    public int sheet(int k, int lane, int n) {
        latestFault = NO_FAULT;
        if (!isSheet(k)) {
            return UNKNOWN;
        }
        if (!isLane(lane) || n > Sheet.MOST_CELLS) {
            return OUTSIDE;
        }
        if (n < 0) {
            return faulted(SIZE);
        }
        sheets[k].renew(lane, n);
        return 1;
    }

    public int lose(int k) {
        if (!isSheet(k)) {
            return UNKNOWN;
        }
        int had = sheets[k].isNothing() ? 0 : 1;
        sheets[k].drop();
        return had;
    }

    public int put(int k, int i, long v) {
        latestFault = NO_FAULT;
        if (!isSheet(k)) {
            return UNKNOWN;
        }
        Sheet row = sheets[k];
        if (row.isNothing()) {
            return faulted(NULL);
        }
        if (!row.hasCells(i, 1)) {
            return faulted(INDEX);
        }
        row.write(i, v);
        return 1;
    }

    public long at(int k, int i, int lane) {
        latestFault = NO_FAULT;
        if (!isSheet(k) || !isLane(lane)) {
            return LOST;
        }
        Sheet row = sheets[k];
        if (row.isOfOtherLane(lane)) {
            latestFault = CAST;
        } else if (row.isNothing()) {
            latestFault = NULL;
        } else if (!row.hasCells(i, 1)) {
            latestFault = INDEX;
        }
        return latestFault == NO_FAULT ? row.cells[i] : LOST;
    }

    public int out(int s, int k, int i, int n) {
        latestFault = NO_FAULT;
        if (!isSheet(k) || !register.has(s)) {
            return UNKNOWN;
        }
        Sheet row = sheets[k];
        if (row.isNothing()) {
            return faulted(NULL);
        }
        if (n < 0) {
            return faulted(SIZE);
        }
        if (!row.hasCells(i, n)) {
            return faulted(INDEX);
        }
        int here = s;
        for (int j = 0; j < n; j++) {
            row.write(i + j, here & 1);
            here = register.next(here);
        }
        return here;
    }

    public int thin(int from, int d, int to) {
        latestFault = NO_FAULT;
        if (!isSheet(from) || !isSheet(to)) {
            return UNKNOWN;
        }
        if (d < 1 || d > Sheet.MOST_CELLS) {
            return OUTSIDE;
        }
        if (sheets[from].isNothing()) {
            return faulted(NULL);
        }
        sheets[to].becomeThinned(sheets[from], d);
        return sheets[to].size;
    }

    public int mix(int a, int b, int how) {
        latestFault = NO_FAULT;
        if (!isSheet(a) || !isSheet(b)) {
            return UNKNOWN;
        }
        if (how != 0 && how != 1) {
            return OUTSIDE;
        }
        Sheet first = sheets[a];
        Sheet other = sheets[b];
        if (first.isNothing() || other.isNothing()) {
            return faulted(NULL);
        }
        if (first.isOfOtherLane(other.lane)) {
            return faulted(CAST);
        }
        return first.mixWith(other, how);
    }

    public int order(int k, int n) {
        int refused = refusedBits(k, n);
        return refused != 0 ? refused : reader.linearOrder(sheets[k], n);
    }

    public int greatest(int k, int n) {
        int refused = refusedBits(k, n);
        return refused != 0 ? refused : reader.greatestOrder(sheets[k], n);
    }

    public int period(int k) {
        int refused = refusedRow(k);
        if (refused != 0) {
            return refused;
        }
        return sheets[k].size == 0 ? STATE : reader.leastPeriod(sheets[k]);
    }

    public int learn(int k) {
        int refused = refusedRow(k);
        if (refused != 0) {
            return refused;
        }
        Sheet row = sheets[k];
        int wanted = reader.greatestOrder(row, row.size);
        if (wanted > Register.LONGEST) {
            return STATE;
        }
        register.restart(Math.max(wanted, Register.SHORTEST));
        register.fillFrom(row);
        return register.bitCount;
    }

    public int along(int r, int d) {
        Rings found = foundRings();
        if (!found.has(r)) {
            return UNKNOWN;
        }
        if (d < 0) {
            return OUTSIDE;
        }
        return found.likeness(register, r, d);
    }

    // ---- 3 parts

    public int tell(int s) {
        if (!register.has(s)) {
            return UNKNOWN;
        }
        Rings found = foundRings();
        switch (found.kindOf(s)) {
            case BEHIND:
                return tellBehind(found.behind[s]);
            case LONGER:
                return tellLonger(found.sizeAround(s));
            default:
                return tellAlone();
        }
    }

    public int weigh(int s) {
        if (!register.has(s)) {
            return UNKNOWN;
        }
        return foundRings().kindOf(s) == BEHIND ? weighBehind() : weighLent(s);
    }

    public int as(int s, int kind) {
        latestFault = NO_FAULT;
        if (!register.has(s)) {
            return UNKNOWN;
        }
        if (kind < ALONE || kind > ANY_ON) {
            return OUTSIDE;
        }
        int own = foundRings().kindOf(s);
        boolean fits = kind == ANY_ON ? own != BEHIND : own == kind;
        return fits ? 1 : faulted(CAST);
    }

    public int trace() {
        return traceLeft;
    }

    public int fault() {
        return latestFault;
    }

    // ---- helpers of the face

    private static boolean isBit(int bit) {
        return bit == 0 || bit == 1;
    }

    private static boolean isSheet(int k) {
        return k >= 0 && k < SHEETS;
    }

    private static boolean isLane(int lane) {
        return lane >= Sheet.BYTES && lane <= Sheet.LONGS;
    }

    private int faulted(int number) {
        latestFault = number;
        return FAULT_BASE - number;
    }

    /** Finding the rings costs a walk over all states, so it waits until one asks after a change. */
    private Rings foundRings() {
        if (register.changed) {
            rings.find(register);
            register.changed = false;
        }
        return rings;
    }

    /** What a call that reads the whole row of a sheet must answer at once; 0 if nothing hinders it. */
    private int refusedRow(int k) {
        latestFault = NO_FAULT;
        if (!isSheet(k)) {
            return UNKNOWN;
        }
        return sheets[k].isNothing() ? faulted(NULL) : 0;
    }

    /** The same for a call that reads the first n bits only. */
    private int refusedBits(int k, int n) {
        int refused = refusedRow(k);
        if (refused != 0) {
            return refused;
        }
        return n < 0 || n > sheets[k].size ? faulted(INDEX) : 0;
    }

    private void leave(int number) {
        traceLeft = 31 * traceLeft + number;
    }

    private int tellAlone() {
        leave(1);
        return 1;
    }

    private int tellLonger(int howLong) {
        leave(2);
        return 2 * tellAlone() + howLong;
    }

    private int tellBehind(int steps) {
        leave(3);
        return tellAlone() - steps;
    }

    private int weighLent(int s) {
        leave(4);
        return s;
    }

    private int weighBehind() {
        leave(5);
        return WEIGHT_BEHIND;
    }

    /** The register itself: its length and a feedback bit for each state. */
    private static final class Register {
        static final int SHORTEST = 2, LONGEST = 9, MOST_STATES = 512;

        int bitCount = 3;
        int states = 8;
        boolean changed = true;
        final int[] bits = new int[MOST_STATES];
        private final int[] been = new int[MOST_STATES];

        boolean has(int s) {
            return s >= 0 && s < states;
        }

        /** In longs, as the end of the run may lie beyond all ints. */
        boolean hasRun(int s, int k) {
            return s >= 0 && (long) s + k <= states;
        }

        void restart(int n) {
            bitCount = n;
            states = 1 << n;
            Arrays.fill(bits, 0);
            changed = true;
        }

        void write(int s, int bit) {
            bits[s] = bit;
            changed = true;
        }

        int lead(int s, int bit) {
            return (s >> 1) | (bit << (bitCount - 1));
        }

        int next(int s) {
            return lead(s, bits[s]);
        }

        int walk(int s, int steps) {
            int here = s;
            for (int i = 0; i < steps; i++) {
                here = next(here);
            }
            return here;
        }

        /** Only this state and its partner can lead to s: the others keep other low bits. */
        int evenBefore(int s) {
            return (s << 1) & (states - 1);
        }

        int countBefore(int s) {
            int even = evenBefore(s);
            int top = s >> (bitCount - 1);
            return (bits[even] == top ? 1 : 0) + (bits[even + 1] == top ? 1 : 0);
        }

        boolean isPure() {
            for (int s = 0; s < states; s += 2) {
                if (bits[s] == bits[s + 1]) {
                    return false;
                }
            }
            return true;
        }

        int countOnes() {
            int ones = 0;
            for (int s = 0; s < states; s++) {
                ones += bits[s];
            }
            return ones;
        }

        void turnPair(int t) {
            write(2 * t, 1 - bits[2 * t]);
            write(2 * t + 1, 1 - bits[2 * t + 1]);
        }

        void fillLinear(int mask, int one) {
            for (int s = 0; s < states; s++) {
                write(s, (Integer.bitCount(s & mask) + one) & 1);
            }
        }

        /** The last state needs no case of its own: b is used up there, and the other bit closes the ring. */
        void fillPreferring(int b) {
            Arrays.fill(been, 0);
            int here = b == 1 ? 0 : states - 1;
            for (int i = 0; i < states; i++) {
                been[here] = 1;
                int bit = been[lead(here, b)] == 1 ? 1 - b : b;
                write(here, bit);
                here = lead(here, bit);
            }
        }

        /** Likes behind likes are sure here, as the length is at least the row's greatest order. */
        void fillFrom(Sheet row) {
            int window = 0;
            for (int i = 0; i < row.size; i++) {
                int bit = row.bitAt(i);
                if (i >= bitCount) {
                    write(window, bit);
                }
                window = lead(window, bit);
            }
        }
    }

    /** What is found out about all rings of a register, until its feedback changes. */
    private static final class Rings {
        int count;
        int peeled;
        int starts;
        int farthest;
        final int[] ringOf = new int[Register.MOST_STATES];
        final int[] behind = new int[Register.MOST_STATES];
        final int[] place = new int[Register.MOST_STATES];
        final int[] least = new int[Register.MOST_STATES];
        final int[] size = new int[Register.MOST_STATES];
        private final int[] waits = new int[Register.MOST_STATES];
        private final int[] queue = new int[Register.MOST_STATES];

        boolean has(int r) {
            return r >= 0 && r < count;
        }

        void find(Register register) {
            peel(register);
            nameRings(register);
            nameBehind(register);
        }

        /** Takes away, again and again, states that none left leads to: what stays is on rings. */
        private void peel(Register register) {
            peeled = 0;
            for (int s = 0; s < register.states; s++) {
                ringOf[s] = UNNAMED;
                waits[s] = register.countBefore(s);
                if (waits[s] == 0) {
                    queue[peeled] = s;
                    peeled++;
                }
            }
            starts = peeled;
            for (int q = 0; q < peeled && q < register.states; q++) {
                int next = register.next(queue[q]);
                waits[next]--;
                if (waits[next] == 0 && peeled < register.states) {
                    queue[peeled] = next;
                    peeled++;
                }
            }
        }

        private void nameRings(Register register) {
            count = 0;
            for (int s = 0; s < register.states; s++) {
                if (waits[s] > 0 && ringOf[s] == UNNAMED) {
                    nameRing(register, s);
                }
            }
        }

        private void nameRing(Register register, int first) {
            int here = first;
            int steps = 0;
            while (steps < register.states && ringOf[here] == UNNAMED) {
                ringOf[here] = count;
                behind[here] = 0;
                place[here] = steps;
                here = register.next(here);
                steps++;
            }
            least[count] = first;
            size[count] = steps;
            count++;
        }

        /** Backwards through the queue, as each state was peeled ahead of the one it leads to. */
        private void nameBehind(Register register) {
            farthest = 0;
            for (int q = peeled - 1; q >= 0; q--) {
                int s = queue[q];
                int next = register.next(s);
                ringOf[s] = ringOf[next];
                place[s] = place[next];
                behind[s] = behind[next] + 1;
                farthest = Math.max(farthest, behind[s]);
            }
        }

        /** At least 1, so that one may divide by it. */
        int sizeAround(int s) {
            int r = ringOf[s];
            return has(r) ? Math.max(1, size[r]) : 1;
        }

        int kindOf(int s) {
            if (behind[s] > 0) {
                return BEHIND;
            }
            return sizeAround(s) == 1 ? ALONE : LONGER;
        }

        /** Whole turns round the ring are left out, so that a walk stays short. */
        int stepsThatMatter(int s, long k) {
            if (k <= behind[s]) {
                return (int) k;
            }
            return behind[s] + (int) ((k - behind[s]) % sizeAround(s));
        }

        int countOnesOut(Register register, int r) {
            int ones = 0;
            int here = least[r];
            for (int i = 0; i < size[r]; i++) {
                ones += here & 1;
                here = register.next(here);
            }
            return ones;
        }

        int countBehind(Register register, int r) {
            int found = 0;
            for (int s = 0; s < register.states; s++) {
                if (ringOf[s] == r && behind[s] > 0) {
                    found++;
                }
            }
            return found;
        }

        int likeness(Register register, int r, int d) {
            int here = least[r];
            int there = register.walk(here, d % sizeAround(here));
            int sum = 0;
            for (int i = 0; i < size[r]; i++) {
                sum += (here & 1) == (there & 1) ? 1 : -1;
                here = register.next(here);
                there = register.next(there);
            }
            return sum;
        }

        /** Groups of rings stand for the rings as they are then: a turned pair joins two groups. */
        int joinAll(Register register) {
            int[] group = new int[count];
            for (int r = 0; r < count; r++) {
                group[r] = r;
            }
            int turned = 0;
            for (int t = 0; t < register.states / 2; t++) {
                int one = group[ringOf[2 * t]];
                int other = group[ringOf[2 * t + 1]];
                if (one != other) {
                    register.turnPair(t);
                    regroup(group, other, one);
                    turned++;
                }
            }
            return turned;
        }

        private static void regroup(int[] group, int from, int to) {
            for (int r = 0; r < group.length; r++) {
                if (group[r] == from) {
                    group[r] = to;
                }
            }
        }
    }

    /** Counts the trees of pairs over rings, by the determinant of the matrix-tree theorem. */
    private static final class Trees {
        private static final int PRIME = 1000003;

        private long[] cells = new long[0];
        private int width;

        int count(Register register, Rings rings) {
            width = rings.count - 1;
            if (width < 1) {
                return 1;
            }
            clear();
            for (int t = 0; t < register.states / 2; t++) {
                int one = rings.ringOf[2 * t];
                int other = rings.ringOf[2 * t + 1];
                if (one != other) {
                    addPair(one, other);
                }
            }
            return (int) determinant();
        }

        private void clear() {
            if (cells.length < width * width) {
                cells = new long[width * width];
            }
            Arrays.fill(cells, 0L);
        }

        /** The last ring has neither row nor column: the theorem leaves one out. */
        private void addPair(int one, int other) {
            if (one < width) {
                add(one, one, 1);
            }
            if (other < width) {
                add(other, other, 1);
            }
            if (one < width && other < width) {
                add(one, other, PRIME - 1);
                add(other, one, PRIME - 1);
            }
        }

        private void add(int row, int column, long amount) {
            int i = row * width + column;
            cells[i] = (cells[i] + amount) % PRIME;
        }

        private long determinant() {
            long product = 1;
            for (int c = 0; c < width; c++) {
                int row = pivotRow(c);
                if (row < 0) {
                    return 0;
                }
                if (row != c) {
                    swapRows(row, c);
                    product = PRIME - product;
                }
                long pivot = cells[c * width + c];
                product = product * pivot % PRIME;
                clearBelow(c, inverse(pivot));
            }
            return product;
        }

        private int pivotRow(int c) {
            for (int row = c; row < width; row++) {
                if (cells[row * width + c] != 0) {
                    return row;
                }
            }
            return -1;
        }

        private void swapRows(int row, int c) {
            for (int j = c; j < width; j++) {
                long kept = cells[row * width + j];
                cells[row * width + j] = cells[c * width + j];
                cells[c * width + j] = kept;
            }
        }

        private void clearBelow(int c, long inverse) {
            for (int row = c + 1; row < width; row++) {
                long factor = (PRIME - cells[row * width + c]) * inverse % PRIME;
                for (int j = c; j < width && factor != 0; j++) {
                    int i = row * width + j;
                    cells[i] = (cells[i] + factor * cells[c * width + j]) % PRIME;
                }
            }
        }

        /** By Fermat: the power of PRIME - 2 undoes a number that is not 0. */
        private static long inverse(long number) {
            long result = 1;
            long power = number;
            for (int left = PRIME - 2; left > 0; left >>= 1) {
                if ((left & 1) == 1) {
                    result = result * power % PRIME;
                }
                power = power * power % PRIME;
            }
            return result;
        }
    }

    /** A row of cells, cut to its lane as they come; every lane fits into longs, so they are used again. */
    private static final class Sheet {
        static final int BYTES = 0, INTS = 1, LONGS = 2, MOST_CELLS = 600;
        private static final int NO_LANE = -1;

        int lane = NO_LANE;
        int size;
        final long[] cells = new long[MOST_CELLS];

        boolean isNothing() {
            return lane == NO_LANE;
        }

        /** Nothing passes, as nothing may be taken as a row of any lane. */
        boolean isOfOtherLane(int wanted) {
            return lane != NO_LANE && lane != wanted;
        }

        /** As the machine looks at a run ahead of a copy: one of none must begin within the row too, or at its end. */
        boolean hasCells(int i, int k) {
            return i >= 0 && (long) i + k <= size;
        }

        void renew(int newLane, int n) {
            lane = newLane;
            size = n;
            Arrays.fill(cells, 0L);
        }

        void drop() {
            lane = NO_LANE;
            size = 0;
        }

        void write(int i, long v) {
            if (lane == BYTES) {
                cells[i] = (byte) v;
            } else if (lane == INTS) {
                cells[i] = (int) v;
            } else {
                cells[i] = v;
            }
        }

        int bitAt(int i) {
            return (int) (cells[i] & 1);
        }

        /** From the front on, as source may be this sheet itself: no cell is read behind its overwriting. */
        void becomeThinned(Sheet source, int d) {
            int kept = d < 1 ? 0 : (source.size + d - 1) / d;
            for (int j = 0; j < kept; j++) {
                cells[j] = source.cells[j * d];
            }
            lane = source.lane;
            size = kept;
        }

        int mixWith(Sheet other, int how) {
            int both = Math.min(size, other.size);
            for (int i = 0; i < both; i++) {
                int mine = bitAt(i);
                int its = other.bitAt(i);
                write(i, how == 0 ? mine ^ its : mine & its);
            }
            return both;
        }
    }

    /** Orders and periods of rows of bits, with rows of its own that are used again. */
    private static final class RowReader {
        private static final int WORDS = 10;

        private final long[] rule = new long[WORDS];
        private final long[] olderRule = new long[WORDS];
        private final long[] recent = new long[WORDS];
        private final int[] marks = new int[Sheet.MOST_CELLS];
        private final int[] split = new int[2 * Sheet.MOST_CELLS];
        private int markCount;

        /** Berlekamp and Massey's way; polynomials and the bits behind are packed, 64 to a word. */
        int linearOrder(Sheet row, int n) {
            Arrays.fill(rule, 0L);
            Arrays.fill(olderRule, 0L);
            Arrays.fill(recent, 0L);
            rule[0] = 1;
            olderRule[0] = 1;
            int found = 0;
            for (int i = 0; i < n; i++) {
                shiftIn(olderRule, 0);
                shiftIn(recent, row.bitAt(i));
                if (ruleFails()) {
                    boolean grows = 2 * found <= i;
                    correctRule(grows);
                    found = grows ? i + 1 - found : found;
                }
            }
            return found;
        }

        private static void shiftIn(long[] words, long bit) {
            long carry = bit;
            for (int w = 0; w < words.length; w++) {
                long top = words[w] >>> 63;
                words[w] = (words[w] << 1) | carry;
                carry = top;
            }
        }

        private boolean ruleFails() {
            long sum = 0;
            for (int w = 0; w < WORDS; w++) {
                sum ^= rule[w] & recent[w];
            }
            return (Long.bitCount(sum) & 1) == 1;
        }

        private void correctRule(boolean keepsOlder) {
            for (int w = 0; w < WORDS; w++) {
                long kept = rule[w];
                rule[w] = kept ^ olderRule[w];
                if (keepsOlder) {
                    olderRule[w] = kept;
                }
            }
        }

        /**
         * Places with like rows of m bits bear like marks; as m grows, marks are split by the bit behind.
         * If no mark is split into two, likes have likes behind.
         */
        int greatestOrder(Sheet row, int n) {
            Arrays.fill(marks, 0);
            markCount = 1;
            for (int m = 0; m < n; m++) {
                if (!splitMarks(row, n, m)) {
                    return m;
                }
            }
            return n;
        }

        private boolean splitMarks(Sheet row, int n, int m) {
            boolean unlike = false;
            int fresh = 0;
            Arrays.fill(split, 0, 2 * markCount, UNNAMED);
            for (int i = 0; i + m < n; i++) {
                int key = 2 * marks[i] + row.bitAt(i + m);
                if (split[key] == UNNAMED) {
                    split[key] = fresh;
                    fresh++;
                    unlike = unlike || split[key ^ 1] != UNNAMED;
                }
                marks[i] = split[key];
            }
            markCount = fresh;
            return unlike;
        }

        /** A row with a period p has its front, p shorter, as its end too: the longest such front tells it. */
        int leastPeriod(Sheet row) {
            int front = 0;
            marks[0] = 0;
            for (int i = 1; i < row.size; i++) {
                int bit = row.bitAt(i);
                for (int tries = 0; tries < i && front > 0 && row.bitAt(front) != bit; tries++) {
                    front = marks[front - 1];
                }
                if (row.bitAt(front) == bit) {
                    front++;
                }
                marks[i] = front;
            }
            return row.size - front;
        }
    }
}
