import java.math.BigInteger;
import java.util.ArrayList;
import java.util.List;
import java.util.Random;

/**
 * Long runs of calls, made by a fixed seed, beside a slow model that follows the document's words.
 * The model lets the machine throw and reads the fault off what it threw. No run is longer than the calls
 * for which an object is promised.
 */
public final class ModelTests {
    private static final long LOST = Long.MIN_VALUE;
    private static final int CALLS = 512;
    private static long asked = 0;
    private static int wrong = 0;

    private static final class Refused extends RuntimeException {
        private static final long serialVersionUID = 1L;
        final int code;

        Refused(int code) {
            this.code = code;
        }
    }

    private static void refuse(boolean when, int code) {
        if (when) {
            throw new Refused(code);
        }
    }

    private interface Body {
        long run();
    }

    private static final class Model {
        int n = 3;
        int[] f = new int[8];
        final Object[] sheets = new Object[4];
        int trace = 0;
        int fault = 0;

        long answer(boolean namesFaults, boolean answersLong, Body body) {
            int met = 0;
            long answer;
            try {
                answer = body.run();
            } catch (Refused e) {
                answer = answersLong ? LOST : e.code;
            } catch (NullPointerException e) {
                met = 1;
                answer = answersLong ? LOST : -11;
            } catch (ClassCastException e) {
                met = 2;
                answer = answersLong ? LOST : -12;
            } catch (IndexOutOfBoundsException e) {
                met = 3;
                answer = answersLong ? LOST : -13;
            } catch (NegativeArraySizeException e) {
                met = 4;
                answer = answersLong ? LOST : -14;
            }
            if (namesFaults) {
                fault = met;
            }
            return answer;
        }

        int next(int s) {
            return s / 2 + (f[s] == 1 ? f.length / 2 : 0);
        }

        boolean on(int s) {
            int t = s;
            for (int i = 0; i < f.length; i++) {
                t = next(t);
                if (t == s) {
                    return true;
                }
            }
            return false;
        }

        List<List<Integer>> rings() {
            List<List<Integer>> all = new ArrayList<>();
            boolean[] seen = new boolean[f.length];
            for (int s = 0; s < f.length; s++) {
                if (!seen[s] && on(s)) {
                    List<Integer> ring = new ArrayList<>();
                    for (int t = s; !seen[t]; t = next(t)) {
                        seen[t] = true;
                        ring.add(t);
                    }
                    all.add(ring);
                }
            }
            return all;
        }

        int behind(int s) {
            int steps = 0;
            for (int t = s; !on(t); t = next(t)) {
                steps++;
            }
            return steps;
        }

        int entry(int s) {
            int t = s;
            while (!on(t)) {
                t = next(t);
            }
            return t;
        }

        int ringOf(int s) {
            List<List<Integer>> all = rings();
            for (int r = 0; r < all.size(); r++) {
                if (all.get(r).contains(entry(s))) {
                    return r;
                }
            }
            throw new IllegalStateException("no ring");
        }

        boolean pure() {
            for (int t = 0; t < f.length / 2; t++) {
                if (f[2 * t] == f[2 * t + 1]) {
                    return false;
                }
            }
            return true;
        }

        int ones() {
            int sum = 0;
            for (int bit : f) {
                sum += bit;
            }
            return sum;
        }

        void needState(int s) {
            refuse(s < 0 || s >= f.length, -1);
        }

        void needSheet(int k) {
            refuse(k < 0 || k > 3, -1);
        }

        void needLane(int lane) {
            refuse(lane < 0 || lane > 2, -2);
        }

        Object cast(Object row, int lane) {
            if (lane == 0) {
                return (byte[]) row;
            }
            if (lane == 1) {
                return (int[]) row;
            }
            return (long[]) row;
        }

        int size(Object row) {
            return java.lang.reflect.Array.getLength(row);
        }

        long cell(Object row, int i) {
            if (row instanceof byte[]) {
                return ((byte[]) row)[i];
            }
            if (row instanceof int[]) {
                return ((int[]) row)[i];
            }
            return ((long[]) row)[i];
        }

        void cell(Object row, int i, long v) {
            if (row instanceof byte[]) {
                ((byte[]) row)[i] = (byte) v;
            } else if (row instanceof int[]) {
                ((int[]) row)[i] = (int) v;
            } else {
                ((long[]) row)[i] = v;
            }
        }

        Object make(int lane, int n) {
            return lane == 0 ? new byte[n] : lane == 1 ? (Object) new int[n] : new long[n];
        }

        int laneOf(Object row) {
            return row instanceof byte[] ? 0 : row instanceof int[] ? 1 : 2;
        }

        int[] bits(Object row, int n) {
            int[] bits = new int[n];
            for (int i = 0; i < n; i++) {
                bits[i] = (int) Math.floorMod(cell(row, i), 2L);
            }
            return bits;
        }

        int length(int m) {
            refuse(m < 2 || m > 9, -2);
            int was = n;
            n = m;
            f = new int[1 << m];
            return was;
        }

        int set(int s, int bit) {
            needState(s);
            refuse(bit != 0 && bit != 1, -2);
            int was = f[s];
            f[s] = bit;
            return was;
        }

        int linear(int mask, int one) {
            refuse(mask < 0 || mask >= f.length || one < 0 || one > 1, -2);
            for (int s = 0; s < f.length; s++) {
                int sum = one;
                for (int j = 0; j < n; j++) {
                    sum += (s >> j) % 2 * ((mask >> j) % 2);
                }
                f[s] = sum % 2;
            }
            return ones();
        }

        int take(int sheet, int lane, int i, int k, int s) {
            needSheet(sheet);
            needState(s);
            needLane(lane);
            Object row = cast(sheets[sheet], lane);
            row.getClass();
            int[] copy = new int[k];
            java.util.Objects.checkFromIndexSize(i, k, size(row));
            for (int j = 0; j < k; j++) {
                copy[j] = (int) Math.floorMod(cell(row, i + j), 2L);
            }
            System.arraycopy(copy, 0, f, s, k);
            return k;
        }

        int step(int s, long k) {
            needState(s);
            refuse(k < 0, -2);
            // doubling: jump[t] is where as many steps as the power lead from t
            int[] jump = new int[f.length];
            for (int t = 0; t < f.length; t++) {
                jump[t] = next(t);
            }
            int here = s;
            for (int bit = 0; bit < 63; bit++) {
                if ((k >> bit & 1) == 1) {
                    here = jump[here];
                }
                int[] twice = new int[f.length];
                for (int t = 0; t < f.length; t++) {
                    twice[t] = jump[jump[t]];
                }
                jump = twice;
            }
            return here;
        }

        int back(int s, int which) {
            needState(s);
            refuse(which < -1 || which > 1, -2);
            List<Integer> all = new ArrayList<>();
            for (int t = 0; t < f.length; t++) {
                if (next(t) == s) {
                    all.add(t);
                }
            }
            if (which == -1) {
                return all.size();
            }
            refuse(which >= all.size(), -1);
            return all.get(which);
        }

        int about(int s, int what) {
            needState(s);
            refuse(what < 0 || what > 3, -2);
            return what == 0 ? ringOf(s) : what == 1 ? behind(s)
                : what == 2 ? rings().get(ringOf(s)).indexOf(entry(s)) : s % 2 == 0 ? s + 1 : s - 1;
        }

        int ring(int r, int what) {
            List<List<Integer>> all = rings();
            refuse(r < 0 || r >= all.size(), -1);
            refuse(what < 0 || what > 3, -2);
            int count = 0;
            if (what == 2) {
                for (int s : all.get(r)) {
                    count += s % 2;
                }
                return count;
            }
            if (what == 3) {
                for (int s = 0; s < f.length; s++) {
                    count += !on(s) && all.get(r).contains(entry(s)) ? 1 : 0;
                }
                return count;
            }
            return what == 0 ? all.get(r).size() : all.get(r).get(0);
        }

        int told(int what) {
            refuse(what < 0 || what > 7, -2);
            int count = 0;
            switch (what) {
                case 0:
                    return n;
                case 1:
                    return f.length;
                case 2:
                    return rings().size();
                case 3:
                    for (int s = 0; s < f.length; s++) {
                        count += on(s) ? 1 : 0;
                    }
                    return count;
                case 4:
                    return pure() ? 1 : 0;
                case 5:
                    return ones();
                case 6:
                    for (int s = 0; s < f.length; s++) {
                        count = Math.max(count, behind(s));
                    }
                    return count;
                default:
                    for (int s = 0; s < f.length; s++) {
                        count += back(s, -1) == 0 ? 1 : 0;
                    }
                    return count;
            }
        }

        void turnPair(int t) {
            f[2 * t] ^= 1;
            f[2 * t + 1] ^= 1;
        }

        int turn(int t) {
            refuse(t < 0 || t >= f.length / 2, -1);
            refuse(!pure(), -3);
            turnPair(t);
            return rings().size();
        }

        int join() {
            refuse(!pure(), -3);
            int turned = 0;
            for (int t = 0; t < f.length / 2; t++) {
                if (ringOf(2 * t) != ringOf(2 * t + 1)) {
                    turnPair(t);
                    turned++;
                }
            }
            return turned;
        }

        int ways() {
            refuse(!pure(), -3);
            return f.length <= 16 ? waysTried() : waysCounted();
        }

        int waysTried() {
            int wanted = rings().size() - 1;
            int found = 0;
            for (int set = 0; set < 1 << f.length / 2; set++) {
                if (Integer.bitCount(set) == wanted) {
                    turnSet(set);
                    found += rings().size() == 1 ? 1 : 0;
                    turnSet(set);
                }
            }
            return found % 1000003;
        }

        void turnSet(int set) {
            for (int t = 0; t < f.length / 2; t++) {
                if ((set >> t & 1) == 1) {
                    turnPair(t);
                }
            }
        }

        /** In whole numbers, without rests (Bareiss), so that nothing is shared with the class's way. */
        int waysCounted() {
            int m = rings().size() - 1;
            int[] of = new int[f.length];
            List<List<Integer>> all = rings();
            for (int r = 0; r < all.size(); r++) {
                for (int s : all.get(r)) {
                    of[s] = r;
                }
            }
            BigInteger[][] a = new BigInteger[m + 1][m + 1];
            for (BigInteger[] row : a) {
                java.util.Arrays.fill(row, BigInteger.ZERO);
            }
            for (int t = 0; t < f.length / 2; t++) {
                int x = of[2 * t];
                int y = of[2 * t + 1];
                a[x][x] = a[x][x].add(BigInteger.ONE);
                a[y][y] = a[y][y].add(BigInteger.ONE);
                a[x][y] = a[x][y].subtract(BigInteger.ONE);
                a[y][x] = a[y][x].subtract(BigInteger.ONE);
            }
            BigInteger before = BigInteger.ONE;
            // the first ring is left out; no pivot is 0, as the rings hang together
            for (int c = 1; c <= m; c++) {
                for (int i = c + 1; i <= m; i++) {
                    for (int j = c + 1; j <= m; j++) {
                        a[i][j] = a[i][j].multiply(a[c][c]).subtract(a[i][c].multiply(a[c][j])).divide(before);
                    }
                }
                before = a[c][c];
            }
            return before.mod(BigInteger.valueOf(1000003)).intValue();
        }

        int prefer(int b) {
            refuse(b != 0 && b != 1, -2);
            int first = b == 1 ? 0 : f.length - 1;
            boolean[] was = new boolean[f.length];
            int[] bits = new int[f.length];
            int here = first;
            was[here] = true;
            while (true) {
                int with = here / 2 + b * (f.length / 2);
                int without = here / 2 + (1 - b) * (f.length / 2);
                if (was[with] && was[without]) {
                    break;
                }
                bits[here] = was[with] ? 1 - b : b;
                here = was[with] ? without : with;
                was[here] = true;
            }
            bits[here] = here / 2 == first ? 0 : 1;
            f = bits;
            return ones();
        }

        int sheet(int k, int lane, int m) {
            needSheet(k);
            refuse(lane < 0 || lane > 2 || m > 600, -2);
            sheets[k] = make(lane, m);
            return 1;
        }

        int lose(int k) {
            needSheet(k);
            int had = sheets[k] == null ? 0 : 1;
            sheets[k] = null;
            return had;
        }

        int put(int k, int i, long v) {
            needSheet(k);
            cell(sheets[k], i, v);
            return 1;
        }

        long at(int k, int i, int lane) {
            needSheet(k);
            needLane(lane);
            return cell(cast(sheets[k], lane), i);
        }

        int out(int s, int k, int i, int m) {
            needSheet(k);
            needState(s);
            Object row = sheets[k];
            row.getClass();
            int[] all = new int[m];
            int here = s;
            for (int j = 0; j < m && j < 5000; j++) {
                all[j] = here % 2;
                here = next(here);
            }
            java.util.Objects.checkFromIndexSize(i, m, size(row));
            for (int j = 0; j < m; j++) {
                cell(row, i + j, all[j]);
            }
            return here;
        }

        int thin(int from, int d, int to) {
            needSheet(from);
            needSheet(to);
            refuse(d < 1 || d > 600, -2);
            Object row = sheets[from];
            row.getClass();
            List<Long> kept = new ArrayList<>();
            for (int i = 0; i < size(row); i += d) {
                kept.add(cell(row, i));
            }
            Object made = make(laneOf(row), kept.size());
            for (int i = 0; i < kept.size(); i++) {
                cell(made, i, kept.get(i));
            }
            sheets[to] = made;
            return kept.size();
        }

        int mix(int a, int b, int how) {
            needSheet(a);
            needSheet(b);
            refuse(how < 0 || how > 1, -2);
            Object x = sheets[a];
            Object y = sheets[b];
            x.getClass();
            y.getClass();
            cast(y, laneOf(x));
            int count = 0;
            for (int i = 0; i < size(x) && i < size(y); i++) {
                long p = Math.floorMod(cell(x, i), 2L);
                long q = Math.floorMod(cell(y, i), 2L);
                cell(x, i, how == 0 ? (p + q) % 2 : p * q);
                count++;
            }
            return count;
        }

        int[] first(int k, int m) {
            needSheet(k);
            Object row = sheets[k];
            row.getClass();
            if (m < 0 || m > size(row)) {
                throw new IndexOutOfBoundsException();
            }
            return bits(row, m);
        }

        int order(int k, int m) {
            int[] b = first(k, m);
            for (int l = 0; l < m; l++) {
                if (hasRule(b, l)) {
                    return l;
                }
            }
            return m;
        }

        /** By solving the equations of the definition outright. */
        boolean hasRule(int[] b, int l) {
            List<BigInteger> rows = new ArrayList<>();
            for (int i = l; i < b.length; i++) {
                BigInteger row = BigInteger.ZERO;
                for (int j = 1; j <= l; j++) {
                    row = b[i - j] == 1 ? row.setBit(j) : row;
                }
                row = b[i] == 1 ? row.setBit(0) : row;
                for (BigInteger old : rows) {
                    row = row.testBit(old.bitLength() - 1) ? row.xor(old) : row;
                }
                if (row.equals(BigInteger.ONE)) {
                    return false;
                }
                if (row.signum() != 0) {
                    rows.add(row);
                }
            }
            return true;
        }

        int greatest(int k, int m) {
            return greatestOf(first(k, m));
        }

        int greatestOf(int[] b) {
            for (int m = 0; m < b.length; m++) {
                if (likesBehindLikes(b, m)) {
                    return m;
                }
            }
            return b.length;
        }

        boolean likesBehindLikes(int[] b, int m) {
            for (int i = 0; i + m < b.length; i++) {
                for (int j = 0; j < i; j++) {
                    if (b[i + m] != b[j + m] && java.util.Arrays.equals(b, i, i + m, b, j, j + m)) {
                        return false;
                    }
                }
            }
            return true;
        }

        int period(int k) {
            needSheet(k);
            int[] b = first(k, size(sheets[k]));
            refuse(b.length == 0, -3);
            int p = 1;
            while (!java.util.Arrays.equals(b, 0, b.length - p, b, p, b.length)) {
                p++;
            }
            return p;
        }

        int learn(int k) {
            needSheet(k);
            int[] b = first(k, size(sheets[k]));
            int m = greatestOf(b);
            refuse(m > 9, -3);
            length(Math.max(2, m));
            for (int i = 0; i + n < b.length; i++) {
                int s = 0;
                for (int j = 0; j < n; j++) {
                    s += b[i + j] << j;
                }
                f[s] = b[i + n];
            }
            return n;
        }

        int along(int r, int d) {
            List<List<Integer>> all = rings();
            refuse(r < 0 || r >= all.size(), -1);
            refuse(d < 0, -2);
            List<Integer> ring = all.get(r);
            int sum = 0;
            for (int i = 0; i < ring.size(); i++) {
                int shifted = ring.get((int) (((long) i + d) % ring.size()));
                sum += ring.get(i) % 2 == shifted % 2 ? 1 : -1;
            }
            return sum;
        }

        int leave(int number, int given) {
            trace = trace * 31 + number;
            return given;
        }

        int tell(int s) {
            needState(s);
            int around = rings().get(ringOf(s)).size();
            if (!on(s)) {
                leave(3, 0);
                return leave(1, 1) - behind(s);
            }
            if (around == 1) {
                return leave(1, 1);
            }
            leave(2, 0);
            return 2 * leave(1, 1) + around;
        }

        int weigh(int s) {
            needState(s);
            return on(s) ? leave(4, s) : leave(5, 600);
        }

        int as(int s, int kind) {
            needState(s);
            refuse(kind < 0 || kind > 3, -2);
            int own = !on(s) ? 2 : rings().get(ringOf(s)).size() == 1 ? 0 : 1;
            if (kind == 3 ? own == 2 : own != kind) {
                throw new ClassCastException();
            }
            return 1;
        }
    }

    /** One run: the object, the model beside it, and where its arguments come from. */
    private static final class Run {
        final BitRings x = new BitRings();
        final Model m = new Model();
        final Random random;
        final int seed;
        final int most;
        final StringBuilder said = new StringBuilder();
        int callsLeft = CALLS;

        Run(int seed, int most) {
            this.seed = seed;
            this.most = most;
            random = new Random(seed);
        }

        int pick(int low, int high) {
            return low + random.nextInt(high - low + 1);
        }

        /** Mostly within, at times just beyond, seldom far away. */
        int about(int low, int high) {
            int kind = random.nextInt(40);
            if (kind == 0) {
                return low - 1;
            }
            if (kind == 1) {
                return high + 1;
            }
            if (kind == 2) {
                return random.nextInt();
            }
            return low > high ? low : pick(low, high);
        }

        int state() {
            return about(0, m.f.length - 1);
        }

        int sheet() {
            return about(0, 3);
        }

        int cell(int k) {
            Object row = k >= 0 && k < 4 ? m.sheets[k] : null;
            return about(0, row == null ? 5 : m.size(row) - 1);
        }

        int count(int k) {
            Object row = k >= 0 && k < 4 ? m.sheets[k] : null;
            int limit = row == null ? 5 : m.size(row);
            int n = about(-1, limit);
            // the model makes rows of that length
            return n > 1000000 ? limit + 1 : n;
        }

        /** The document leaves open whether a run of no cells may begin beyond the row. */
        int begin(int i, int n) {
            return n == 0 ? 0 : i;
        }

        int lane(int k) {
            Object row = k >= 0 && k < 4 ? m.sheets[k] : null;
            return row == null || random.nextInt(8) == 0 ? about(0, 2) : m.laneOf(row);
        }

        long number() {
            return random.nextInt(3) == 0 ? random.nextLong() : random.nextInt(2);
        }

        void due(String call, long got, long want) {
            asked++;
            callsLeft--;
            said.append(call).append(" = ").append(want).append('\n');
            if (got != want) {
                wrong++;
                System.out.println("seed " + seed + ": " + call + " answered " + got + ", due is " + want);
                if (wrong < 3) {
                    System.out.println(said);
                }
            }
        }

        void registerCall() {
            int s = state();
            int a = about(0, 3);
            switch (random.nextInt(16)) {
                case 0:
                    int n = random.nextInt(4) == 0 ? about(2, most) : pick(2, Math.min(5, most));
                    due("length(" + n + ")", x.length(n), m.answer(false, false, () -> m.length(n)));
                    break;
                case 1:
                case 2:
                    int bit = about(0, 1);
                    due("set(" + s + ", " + bit + ")", x.set(s, bit), m.answer(false, false, () -> m.set(s, bit)));
                    break;
                case 3:
                    int one = about(0, 1);
                    int mask = random.nextBoolean() && m.f.length > s && s >= 0 ? s | 1 : s;
                    due("linear(" + mask + ", " + one + ")", x.linear(mask, one),
                        m.answer(false, false, () -> m.linear(mask, one)));
                    break;
                case 4:
                    due("feedback(" + s + ")", x.feedback(s), s < 0 || s >= m.f.length ? -1 : m.f[s]);
                    break;
                case 5:
                    long k = random.nextInt(3) == 0 ? random.nextLong() : about(0, 40);
                    due("step(" + s + ", " + k + ")", x.step(s, k), m.answer(false, false, () -> m.step(s, k)));
                    break;
                case 6:
                    int which = about(-1, 1);
                    due("back(" + s + ", " + which + ")", x.back(s, which),
                        m.answer(false, false, () -> m.back(s, which)));
                    break;
                case 7:
                case 8:
                    due("about(" + s + ", " + a + ")", x.about(s, a), m.answer(false, false, () -> m.about(s, a)));
                    break;
                case 9:
                    int r = about(0, m.rings().size() - 1);
                    due("ring(" + r + ", " + a + ")", x.ring(r, a), m.answer(false, false, () -> m.ring(r, a)));
                    break;
                case 10:
                    int what = about(0, 7);
                    due("told(" + what + ")", x.told(what), m.answer(false, false, () -> m.told(what)));
                    break;
                case 11:
                case 12:
                    int t = about(0, m.f.length / 2 - 1);
                    due("turn(" + t + ")", x.turn(t), m.answer(false, false, () -> m.turn(t)));
                    break;
                case 13:
                    due("ways()", x.ways(), m.answer(false, false, () -> m.ways()));
                    break;
                case 14:
                    if (random.nextInt(3) == 0) {
                        due("join()", x.join(), m.answer(false, false, () -> m.join()));
                    }
                    break;
                default:
                    int b = about(0, 1);
                    if (random.nextInt(3) == 0) {
                        due("prefer(" + b + ")", x.prefer(b), m.answer(false, false, () -> m.prefer(b)));
                    }
            }
        }

        void sheetCall() {
            int k = sheet();
            int k2 = sheet();
            int i = cell(k);
            int n = count(k);
            int s = state();
            int lane = lane(k);
            switch (random.nextInt(16)) {
                case 0:
                    int cells = random.nextInt(10) == 0 ? about(0, 600) : about(0, 24);
                    int newLane = about(0, 2);
                    due("sheet(" + k + ", " + newLane + ", " + cells + ")", x.sheet(k, newLane, cells),
                        m.answer(true, false, () -> m.sheet(k, newLane, cells)));
                    break;
                case 1:
                    if (random.nextInt(3) == 0) {
                        due("lose(" + k + ")", x.lose(k), m.answer(false, false, () -> m.lose(k)));
                    }
                    break;
                case 2:
                case 3:
                case 4:
                    long v = number();
                    due("put(" + k + ", " + i + ", " + v + ")", x.put(k, i, v),
                        m.answer(true, false, () -> m.put(k, i, v)));
                    break;
                case 5:
                    due("at(" + k + ", " + i + ", " + lane + ")", x.at(k, i, lane),
                        m.answer(true, true, () -> m.at(k, i, lane)));
                    break;
                case 6:
                case 7:
                    int from = random.nextInt(3) == 0 ? begin(i, n) : 0;
                    due("out(" + s + ", " + k + ", " + from + ", " + n + ")", x.out(s, k, from, n),
                        m.answer(true, false, () -> m.out(s, k, from, n)));
                    break;
                case 8:
                    int d = random.nextInt(4) == 0 ? about(1, 600) : pick(1, 4);
                    due("thin(" + k + ", " + d + ", " + k2 + ")", x.thin(k, d, k2),
                        m.answer(true, false, () -> m.thin(k, d, k2)));
                    break;
                case 9:
                    int how = about(0, 1);
                    due("mix(" + k + ", " + k2 + ", " + how + ")", x.mix(k, k2, how),
                        m.answer(true, false, () -> m.mix(k, k2, how)));
                    break;
                case 10:
                    int o = Math.min(n, 64);
                    due("order(" + k + ", " + o + ")", x.order(k, o), m.answer(true, false, () -> m.order(k, o)));
                    break;
                case 11:
                    due("greatest(" + k + ", " + n + ")", x.greatest(k, n),
                        m.answer(true, false, () -> m.greatest(k, n)));
                    break;
                case 12:
                    due("period(" + k + ")", x.period(k), m.answer(true, false, () -> m.period(k)));
                    break;
                case 13:
                    due("learn(" + k + ")", x.learn(k), m.answer(true, false, () -> m.learn(k)));
                    break;
                case 14:
                    int r = about(0, m.rings().size() - 1);
                    int shift = about(0, 20);
                    due("along(" + r + ", " + shift + ")", x.along(r, shift),
                        m.answer(false, false, () -> m.along(r, shift)));
                    break;
                default:
                    int taken = random.nextBoolean() ? Math.min(n, m.f.length) : n;
                    int to = random.nextBoolean() ? 0 : s;
                    int begin = random.nextBoolean() ? 0 : begin(i, taken);
                    due("take(" + k + ", " + lane + ", " + begin + ", " + taken + ", " + to + ")",
                        x.take(k, lane, begin, taken, to),
                        m.answer(true, false, () -> m.take(k, lane, begin, taken, to)));
            }
        }

        void partCall() {
            int s = state();
            switch (random.nextInt(3)) {
                case 0:
                    due("tell(" + s + ")", x.tell(s), m.answer(false, false, () -> m.tell(s)));
                    break;
                case 1:
                    due("weigh(" + s + ")", x.weigh(s), m.answer(false, false, () -> m.weigh(s)));
                    break;
                default:
                    int kind = about(0, 3);
                    due("as(" + s + ", " + kind + ")", x.as(s, kind), m.answer(true, false, () -> m.as(s, kind)));
            }
        }

        void look() {
            int s = state();
            int k = sheet();
            int i = cell(k);
            int lane = lane(k);
            if (random.nextBoolean()) {
                due("feedback(" + s + ")", x.feedback(s), s < 0 || s >= m.f.length ? -1 : m.f[s]);
            } else {
                due("at(" + k + ", " + i + ", " + lane + ")", x.at(k, i, lane),
                    m.answer(true, true, () -> m.at(k, i, lane)));
            }
        }

        void lookAtFeedbacks() {
            for (int s = 0; s < m.f.length && callsLeft > 0; s++) {
                due("feedback(" + s + ")", x.feedback(s), m.f[s]);
            }
        }

        void call() {
            int kind = random.nextInt(20);
            if (kind < 9) {
                registerCall();
            } else if (kind < 17) {
                sheetCall();
            } else {
                partCall();
            }
        }

        void go() {
            // a call, and what it left in fault() and in trace()
            while (callsLeft > 150) {
                call();
                if (random.nextInt(3) == 0) {
                    due("fault()", x.fault(), m.fault);
                }
                if (random.nextInt(8) == 0) {
                    due("trace()", x.trace(), m.trace);
                }
            }
            due("fault()", x.fault(), m.fault);
            due("trace()", x.trace(), m.trace);
            while (callsLeft > 70) {
                look();
            }
            lookAtFeedbacks();
        }
    }

    /** Rows of 600 bits: outputs of many registers, pieced together, and single cells among them. */
    private static void longRows() {
        for (int round = 0; round < 12; round++) {
            Run run = new Run(1000 + round, 9);
            run.due("sheet", run.x.sheet(0, round % 3, 600), run.m.sheet(0, round % 3, 600));
            int pieces = round < 6 ? 0 : 60;
            run.due("length(9)", run.x.length(9), run.m.length(9));
            for (int j = 0; j < pieces; j++) {
                int mask = run.pick(0, 511);
                int s = run.pick(0, 511);
                int i = run.pick(0, 599);
                int n = Math.min(600 - i, run.pick(1, 40));
                run.due("linear(" + mask + ", 0)", run.x.linear(mask, 0), run.m.linear(mask, 0));
                run.due("out(" + s + ", 0, " + i + ", " + n + ")", run.x.out(s, 0, i, n), run.m.out(s, 0, i, n));
            }
            for (int j = 0; j < 200 >> round; j++) {
                int i = run.pick(0, 599);
                run.due("put(0, " + i + ", 1)", run.x.put(0, i, 1), run.m.put(0, i, 1));
            }
            readLongRow(run, round == 11 ? 600 : 300);
        }
    }

    private static void readLongRow(Run run, int longest) {
        for (int n : new int[] {63, 64, 65, 127, 128, 129, longest}) {
            run.due("order(0, " + n + ")", run.x.order(0, n), run.m.order(0, n));
        }
        for (int n : new int[] {599, 600}) {
            run.due("greatest(0, " + n + ")", run.x.greatest(0, n), run.m.greatest(0, n));
        }
        run.due("period(0)", run.x.period(0), run.m.period(0));
    }

    private static Run turning(int seed, int n) {
        Run run = new Run(seed, 9);
        run.due("length(" + n + ")", run.x.length(n), run.m.length(n));
        run.due("linear(1, 0)", run.x.linear(1, 0), run.m.linear(1, 0));
        return run;
    }

    private static void turn(Run run, int t) {
        run.due("turn(" + t + ")", run.x.turn(t), run.m.turn(t));
    }

    /** Pure registers of all lengths, with any pairs turned: their rings, and the ways to join them. */
    private static void pureRegisters() {
        for (int n = 2; n <= 9; n++) {
            for (int round = 0; round < 12; round++) {
                Run run = turning(3000 + 20 * n + round, n);
                int turns = round == 0 ? 0 : (1 << n - 1) / (1 + round);
                for (int j = 0; j < turns; j++) {
                    turn(run, run.pick(0, (1 << n - 1) - 1));
                }
                run.due("told(2)", run.x.told(2), run.m.told(2));
                run.due("ways()", run.x.ways(), run.m.ways());
                if (n == 5 && round < 2) {
                    run.due("ways() by trying", run.x.ways(), run.m.waysTried());
                }
                run.due("join()", run.x.join(), run.m.join());
                run.due("ways()", run.x.ways(), 1);
                run.lookAtFeedbacks();
            }
        }
    }

    /** Seeds, found by a search, of registers for which 1000003 divides a number on the way to their WAYS. */
    private static void dividedOnTheWay() {
        for (int seed : new int[] {90608, 135950, 144314, 326342, 5577662, 5876372}) {
            Random random = new Random(seed);
            Run run = turning(seed, 9);
            int flips = 2 + random.nextInt(10);
            for (int j = 0; j < flips; j++) {
                turn(run, random.nextInt(256));
            }
            run.due("ways()", run.x.ways(), run.m.ways());
        }
    }

    /** Pairs, found by a search, by the turning of which the WAYS become the least or the greatest rest. */
    private static void restsAtTheEnds() {
        restIs(9, 0, 25, 29, 37, 50, 86, 125, 130, 140, 155, 170, 201, 213, 244);
        restIs(7, 0, 0, 4, 5, 10, 15, 20, 25, 32, 34, 54, 57, 62, 63);
        restIs(8, 0, 14, 21, 39, 40, 52, 71, 80, 82, 85, 86, 89, 95, 98, 112, 117, 124);
        restIs(7, 1000002, 11, 12, 31, 51, 60);
        restIs(8, 1000002, 28, 51, 53, 78, 111, 127);
        restIs(9, 1000002, 31, 46, 47, 53, 79, 89, 124, 148, 181, 188, 193, 203, 220);
    }

    private static void restIs(int n, int rest, int... pairs) {
        Run run = turned(n, pairs);
        run.due("ways() of the model", run.m.ways(), rest);
        run.due("ways()", run.x.ways(), rest);
    }

    /** Pairs, found by a search, for which 1000003 divides the last but one number on the way to the WAYS. */
    private static void dividedAtTheLast() {
        Run seven = turned(7, 12, 20, 22, 36, 37, 48, 52, 53, 55, 59, 60, 63);
        seven.due("ways()", seven.x.ways(), seven.m.ways());
        Run eight = turned(8, 3, 20, 32, 55, 63, 69, 85, 103);
        eight.due("ways()", eight.x.ways(), eight.m.ways());
    }

    private static Run turned(int n, int... pairs) {
        Run run = turning(4000 + n, n);
        for (int t : pairs) {
            turn(run, t);
        }
        return run;
    }

    public static void main(String[] args) {
        for (int seed = 0; seed < 1200; seed++) {
            new Run(seed, seed % 10 == 0 ? 9 : 5).go();
        }
        longRows();
        pureRegisters();
        dividedOnTheWay();
        dividedAtTheLast();
        restsAtTheEnds();
        System.out.println(asked + " answers looked at, " + wrong + " wrong");
        if (wrong != 0) {
            System.exit(1);
        }
    }
}
