/** Promises 16 to 27 and the terms of sheets, at the edges that their sentences name. */
public final class SheetEdgeTests extends Checks {
    private static final Scene MIXED = Checks::mixedScene;
    private static final Scene PURE = Checks::pureScene;
    private static final int FULLEST = 600;

    // ---- promise 16

    private static void sheetsAllowed() {
        for (int k = 0; k < 4; k++) {
            for (int lane = 0; lane < 3; lane++) {
                BitRings x = new BitRings();
                due(16, "a row of one", x.sheet(k, lane, 1), 1);
                dueText(16, "it is 0", row(x, k), lane + ": 0");
                due(16, "an empty row", x.sheet(k, lane, 0), 1);
                dueText(16, "it has none", row(x, k), lane + ":");
                for (int other = 0; other < 4; other++) {
                    due(16, "other sheets have nothing", x.lose(other), other == k ? 1 : 0);
                }
            }
        }
    }

    private static void theFullestRow() {
        for (int lane = 0; lane < 3; lane++) {
            BitRings x = new BitRings();
            due(16, "599 cells", x.sheet(1, lane, FULLEST - 1), 1);
            due(16, "its last", x.put(1, FULLEST - 2, 1), 1);
            due(16, "one beyond", x.put(1, FULLEST - 1, 1), INDEX);
            due(16, "600 cells", x.sheet(1, lane, FULLEST), 1);
            due(16, "the old cell is gone", x.at(1, FULLEST - 2, lane), 0);
            due(16, "its last", x.put(1, FULLEST - 1, 1), 1);
            due(16, "it is there", x.at(1, FULLEST - 1, lane), 1);
            due(16, "one beyond", x.put(1, FULLEST, 1), INDEX);
            due(16, "601 cells", x.sheet(1, lane, FULLEST + 1), OUTSIDE);
            due(16, "the row is kept", x.at(1, FULLEST - 1, lane), 1);
            due(16, "all are 0 but one", x.period(1), FULLEST);
        }
    }

    private static void newRowsAreZero() {
        for (int lane = 0; lane < 3; lane++) {
            BitRings x = mixedScene();
            due(16, "in place of a row", x.sheet(2, lane, 7), 1);
            dueText(16, "all 0", row(x, 2), lane + ": 0 0 0 0 0 0 0");
            x.put(2, 6, 9);
            x.lose(2);
            x.sheet(2, lane, 7);
            dueText(16, "all 0 behind lose", row(x, 2), lane + ": 0 0 0 0 0 0 0");
            x.put(2, 6, 9);
            x.sheet(2, lane, 2);
            x.sheet(2, lane, 7);
            dueText(16, "all 0 behind a shorter row", row(x, 2), lane + ": 0 0 0 0 0 0 0");
            dueText(16, "another sheet", row(x, 1), row(mixedScene(), 1));
            dueText(16, "the register", register(x), register(mixedScene()));
        }
    }

    private static void sheetRefused() {
        for (int k : beyond(0, 3)) {
            refused(16, "sheet " + k, MIXED, x -> x.sheet(k, 0, 1), UNKNOWN);
            refused(16, "UNKNOWN ahead of OUTSIDE " + k, MIXED, x -> x.sheet(k, 3, 601), UNKNOWN);
            refused(16, "UNKNOWN ahead of SIZE " + k, MIXED, x -> x.sheet(k, 0, -1), UNKNOWN);
        }
        for (int lane : beyond(0, 2)) {
            refused(16, "lane " + lane, MIXED, x -> x.sheet(0, lane, 1), OUTSIDE);
            refused(16, "lane of nothing " + lane, MIXED, x -> x.sheet(3, lane, 1), OUTSIDE);
            refused(16, "lane ahead of SIZE " + lane, MIXED, x -> x.sheet(0, lane, -1), OUTSIDE);
        }
        for (int n : new int[] {601, 602, MOST}) {
            refused(16, "n " + n, MIXED, x -> x.sheet(0, 0, n), OUTSIDE);
            refused(16, "n of nothing " + n, MIXED, x -> x.sheet(3, 2, n), OUTSIDE);
        }
        for (int n : new int[] {-1, -2, LEAST}) {
            faults(16, "n " + n, MIXED, x -> x.sheet(0, 0, n), SIZE);
            faults(16, "n of nothing " + n, MIXED, x -> x.sheet(3, 2, n), SIZE);
        }
    }

    // ---- promise 17

    private static void loseEach() {
        for (int k = 0; k < 3; k++) {
            BitRings x = mixedScene();
            x.sheet(0, 0, -1);
            due(17, "a row", x.lose(k), 1);
            due(17, "fault() behind lose", x.fault(), 4);
            due(17, "nothing", x.lose(k), 0);
            dueText(17, "nothing", row(x, k), "nothing");
            int other = (k + 1) % 3;
            dueText(17, "another row", row(x, other), row(mixedScene(), other));
        }
        due(17, "an empty row", pureScene().lose(3), 1);
        still(17, "nothing", MIXED, x -> x.lose(3), 0);
        for (int k : beyond(0, 3)) {
            still(17, "lose(" + k + ")", MIXED, x -> x.lose(k), UNKNOWN);
        }
    }

    // ---- promise 18

    private static void putIsCut() {
        long[] values = {
            0, 1, -1, 127, 128, 255, 256, 257, -128, -129, -256, 0x7fffffffL, 0x80000000L, 0xffffffffL, 0x100000000L,
            0x100000001L, -0x80000000L, -0x80000001L, Long.MAX_VALUE, Long.MIN_VALUE, Long.MIN_VALUE + 1
        };
        for (long v : values) {
            BitRings x = new BitRings();
            for (int lane = 0; lane < 3; lane++) {
                x.sheet(lane, lane, 3);
                due(18, "put of " + v, x.put(lane, 1, v), 1);
            }
            dueText(18, v + " as a byte", row(x, 0), "0: 0 " + (byte) v + " 0");
            dueText(18, v + " as an int", row(x, 1), "1: 0 " + (int) v + " 0");
            dueText(18, v + " as a long", row(x, 2), "2: 0 " + v + " 0");
        }
    }

    private static void putAtTheEnds() {
        BitRings x = mixedScene();
        due(18, "the first cell", x.put(1, 0, 9), 1);
        due(18, "the last cell", x.put(1, 3, 7), 1);
        dueText(18, "no other", row(x, 1), "1: 9 -2 2147483647 7");
        for (int k : beyond(0, 3)) {
            refused(18, "sheet " + k, MIXED, y -> y.put(k, 0, 1), UNKNOWN);
            refused(18, "UNKNOWN ahead of INDEX " + k, MIXED, y -> y.put(k, -1, 1), UNKNOWN);
        }
        for (int i : new int[] {LEAST, -1, 0, 1, 600, MOST}) {
            faults(18, "nothing, cell " + i, MIXED, y -> y.put(3, i, 1), NULL);
            faults(18, "an empty row, cell " + i, PURE, y -> y.put(3, i, 1), INDEX);
        }
        for (int k = 0; k < 3; k++) {
            int of = k;
            int size = new int[] {5, 4, 6}[k];
            for (int i : beyond(0, size - 1)) {
                faults(18, "sheet " + k + ", cell " + i, MIXED, y -> y.put(of, i, 1), INDEX);
            }
        }
    }

    // ---- promise 19

    private static void atEachLane() {
        int[] sizes = {5, 4, 6};
        long[][] want = {{1, 127}, {3, 8}, {Long.MIN_VALUE, 0}};
        for (int k = 0; k < 3; k++) {
            int of = k;
            int last = sizes[k] - 1;
            faulty(19, "the first of " + k, MIXED, x -> x.at(of, 0, of), want[k][0], 0);
            faulty(19, "the last of " + k, MIXED, x -> x.at(of, last, of), want[k][1], 0);
            for (int i : beyond(0, last)) {
                faulty(19, "cell " + i + " of " + k, MIXED, x -> x.at(of, i, of), LOST, 3);
            }
            for (int lane = 0; lane < 3; lane++) {
                int asked = lane;
                if (lane != k) {
                    faulty(19, "lane " + lane + " of " + k, MIXED, x -> x.at(of, 0, asked), LOST, 2);
                    faulty(19, "CAST ahead of INDEX", MIXED, x -> x.at(of, -1, asked), LOST, 2);
                }
                faulty(19, "nothing is no CAST", MIXED, x -> x.at(3, 0, asked), LOST, 1);
                faulty(19, "NULL ahead of INDEX", MIXED, x -> x.at(3, -1, asked), LOST, 1);
            }
        }
        faulty(19, "a cell of an empty row", PURE, x -> x.at(3, 0, 2), LOST, 3);
        faulty(19, "CAST of an empty row", PURE, x -> x.at(3, 0, 1), LOST, 2);
    }

    private static void atRefused() {
        for (int k : beyond(0, 3)) {
            faulty(19, "sheet " + k, MIXED, x -> x.at(k, 0, 0), LOST, 0);
            faulty(19, "sheet and all else " + k, MIXED, x -> x.at(k, -1, 3), LOST, 0);
        }
        for (int lane : beyond(0, 2)) {
            faulty(19, "lane " + lane, MIXED, x -> x.at(0, 0, lane), LOST, 0);
            faulty(19, "OUTSIDE ahead of NULL " + lane, MIXED, x -> x.at(3, 0, lane), LOST, 0);
            faulty(19, "OUTSIDE ahead of INDEX " + lane, MIXED, x -> x.at(0, -1, lane), LOST, 0);
        }
    }

    // ---- promise 20

    private static void outAtTheEnds() {
        for (int lane = 0; lane < 3; lane++) {
            BitRings x = mixedScene();
            putCells(x, 3, lane, 9, 9, 9, 9);
            // 7 -> 3 -> 5 -> 2 -> 5
            due(20, "all cells", x.out(7, 3, 0, 4), 5);
            dueText(20, "all cells", row(x, 3), lane + ": 1 1 1 0");
            putCells(x, 3, lane, 9, 9, 9, 9);
            due(20, "the first cell", x.out(2, 3, 0, 1), 5);
            due(20, "the last cell", x.out(5, 3, 3, 1), 2);
            dueText(20, "both ends", row(x, 3), lane + ": 0 9 9 1");
            due(20, "the last two", x.out(0, 3, 2, 2), 0);
            dueText(20, "the last two", row(x, 3), lane + ": 0 9 0 0");
            dueText(20, "the register", register(x), register(mixedScene()));
        }
    }

    private static void outNone() {
        for (int s = 0; s < 8; s++) {
            int from = s;
            faulty(20, "none at the front", MIXED, x -> x.out(from, 0, 0, 0), s, 0);
            faulty(20, "none at the end", MIXED, x -> x.out(from, 0, 5, 0), s, 0);
            faulty(20, "none in an empty row", PURE, x -> x.out(from, 3, 0, 0), s, 0);
        }
    }

    private static void outTheFullest() {
        BitRings x = preferringOf(9, 1);
        x.sheet(2, 0, FULLEST);
        due(20, "600 cells", x.out(0, 2, 0, FULLEST), x.step(0, FULLEST));
        due(20, "the period", x.period(2), 512);
        due(20, "601 cells", x.out(0, 2, 0, FULLEST + 1), INDEX);
        due(20, "600 cells from 1", x.out(0, 2, 1, FULLEST), INDEX);
        due(20, "none at the end", x.out(3, 2, FULLEST, 0), 3);
        for (int s : beyond(0, 511)) {
            due(20, "s " + s, x.out(s, 2, 0, 1), UNKNOWN);
        }
        due(20, "the last state", x.out(511, 2, 599, 1), 255);
    }

    private static void outRefused() {
        for (int k : beyond(0, 3)) {
            refused(20, "sheet " + k, MIXED, x -> x.out(0, k, 0, 1), UNKNOWN);
            refused(20, "sheet and all else " + k, MIXED, x -> x.out(8, k, -1, -1), UNKNOWN);
        }
        for (int s : beyond(0, 7)) {
            refused(20, "s " + s, MIXED, x -> x.out(s, 0, 0, 1), UNKNOWN);
            refused(20, "s, none " + s, MIXED, x -> x.out(s, 0, 0, 0), UNKNOWN);
            refused(20, "s ahead of NULL " + s, MIXED, x -> x.out(s, 3, 0, 1), UNKNOWN);
            refused(20, "s ahead of SIZE " + s, MIXED, x -> x.out(s, 0, -1, -1), UNKNOWN);
        }
    }

    private static void outFaults() {
        faults(20, "NULL", MIXED, x -> x.out(0, 3, 0, 1), NULL);
        faults(20, "NULL, none", MIXED, x -> x.out(0, 3, 0, 0), NULL);
        faults(20, "NULL ahead of SIZE", MIXED, x -> x.out(0, 3, 0, -1), NULL);
        faults(20, "NULL ahead of INDEX", MIXED, x -> x.out(0, 3, -1, 1), NULL);
        for (int n : new int[] {-1, LEAST}) {
            faults(20, "n " + n, MIXED, x -> x.out(0, 0, 0, n), SIZE);
            faults(20, "SIZE ahead of INDEX " + n, MIXED, x -> x.out(0, 0, -1, n), SIZE);
            faults(20, "SIZE ahead of a far INDEX " + n, MIXED, x -> x.out(0, 0, MOST, n), SIZE);
        }
        for (int i : new int[] {LEAST, -1, 5, 6, MOST}) {
            faults(20, "one cell at " + i, MIXED, x -> x.out(7, 0, i, 1), INDEX);
        }
        faults(20, "from ahead of the row", MIXED, x -> x.out(7, 0, -1, 3), INDEX);
        faults(20, "one too many", MIXED, x -> x.out(7, 0, 0, 6), INDEX);
        faults(20, "one too many, from 4", MIXED, x -> x.out(7, 0, 4, 2), INDEX);
        faults(20, "as many as can be", MIXED, x -> x.out(7, 0, 0, MOST), INDEX);
        faults(20, "a sum beyond all ints", MIXED, x -> x.out(7, 0, MOST, MOST), INDEX);
        faults(20, "a sum beyond all ints, from 1", MIXED, x -> x.out(7, 0, 1, MOST), INDEX);
        faults(20, "a cell of an empty row", PURE, x -> x.out(7, 3, 0, 1), INDEX);
    }

    // ---- promise 21

    /** Sheet 0 has the bytes 10, 11, and so on; sheet 1 a longer row of another lane. */
    private static BitRings countingScene(int size) {
        BitRings x = new BitRings();
        x.sheet(0, 0, size);
        for (int i = 0; i < size; i++) {
            x.put(0, i, 10 + i);
        }
        x.sheet(1, 2, 30);
        x.put(1, 29, 3);
        return x;
    }

    private static void thinEach() {
        for (int size = 0; size <= 9; size++) {
            for (int d = 1; d <= 10; d++) {
                StringBuilder want = new StringBuilder("0:");
                int kept = 0;
                for (int i = 0; i < size; i += d) {
                    want.append(' ').append(10 + i);
                    kept++;
                }
                for (int to = 0; to < 4; to++) {
                    BitRings x = countingScene(size);
                    String before = row(x, 0);
                    due(21, "thin(0, " + d + ", " + to + ") of " + size, x.thin(0, d, to), kept);
                    dueText(21, "what came", row(x, to), want.toString());
                    dueText(21, "what it came from", row(x, 0), to == 0 ? want.toString() : before);
                }
            }
        }
    }

    private static void thinTheFullest() {
        int[][] want = {{1, 600}, {2, 300}, {7, 86}, {299, 3}, {300, 2}, {301, 2}, {599, 2}, {600, 1}};
        for (int[] one : want) {
            for (int to : new int[] {0, 3}) {
                BitRings x = new BitRings();
                x.sheet(0, 2, FULLEST);
                int last = (one[1] - 1) * one[0];
                x.put(0, last, Long.MIN_VALUE);
                due(21, "600 thinned by " + one[0], x.thin(0, one[0], to), one[1]);
                due(21, "the last cell", x.at(to, one[1] - 1, 2), Long.MIN_VALUE);
                due(21, "is no fault", x.fault(), 0);
                due(21, "one beyond", x.put(to, one[1], 1), INDEX);
            }
        }
    }

    private static void thinMakesRowsOfTheirOwn() {
        BitRings x = countingScene(4);
        x.thin(0, 1, 2);
        x.put(2, 1, 99);
        x.put(0, 3, 77);
        dueText(21, "the first", row(x, 0), "0: 10 11 12 77");
        dueText(21, "the other", row(x, 2), "0: 10 99 12 13");
        x.thin(0, 1, 0);
        dueText(21, "onto itself by 1", row(x, 0), "0: 10 11 12 77");
        x.lose(0);
        dueText(21, "the other is left", row(x, 2), "0: 10 99 12 13");
        x.thin(2, 4, 1);
        x.sheet(1, 2, 6);
        dueText(21, "a new row behind thin", row(x, 1), "2: 0 0 0 0 0 0");
    }

    private static void thinRefused() {
        for (int k : beyond(0, 3)) {
            refused(21, "from " + k, MIXED, x -> x.thin(k, 1, 1), UNKNOWN);
            refused(21, "to " + k, MIXED, x -> x.thin(0, 1, k), UNKNOWN);
            refused(21, "from ahead of d " + k, MIXED, x -> x.thin(k, 0, 1), UNKNOWN);
            refused(21, "to ahead of d " + k, MIXED, x -> x.thin(0, 601, k), UNKNOWN);
            refused(21, "to ahead of NULL " + k, MIXED, x -> x.thin(3, 1, k), UNKNOWN);
        }
        for (int d : new int[] {LEAST, -1, 0, 601, MOST}) {
            refused(21, "d " + d, MIXED, x -> x.thin(0, d, 1), OUTSIDE);
            refused(21, "d onto itself " + d, MIXED, x -> x.thin(0, d, 0), OUTSIDE);
            refused(21, "d ahead of NULL " + d, MIXED, x -> x.thin(3, d, 1), OUTSIDE);
        }
        for (int to = 0; to < 4; to++) {
            int onto = to;
            faults(21, "nothing to " + to, MIXED, x -> x.thin(3, 1, onto), NULL);
            faults(21, "nothing to " + to + " by 600", MIXED, x -> x.thin(3, FULLEST, onto), NULL);
        }
    }

    // ---- promise 22

    private static void mixEach() {
        for (int lane = 0; lane < 3; lane++) {
            for (int how = 0; how < 2; how++) {
                BitRings x = new BitRings();
                putCells(x, 0, lane, 6, -1, -2, 7, 100);
                putCells(x, 3, lane, 2, 8, 3, -3);
                due(22, "the first is longer", x.mix(0, 3, how), 4);
                dueText(22, "the first", row(x, 0), lane + (how == 0 ? ": 0 1 1 0 100" : ": 0 0 0 1 100"));
                dueText(22, "the other", row(x, 3), lane + ": 2 8 3 -3");
                putCells(x, 0, lane, 6, -1, -2, 7, 100);
                due(22, "the other is longer", x.mix(3, 0, how), 4);
                dueText(22, "the first", row(x, 3), lane + (how == 0 ? ": 0 1 1 0" : ": 0 0 0 1"));
                dueText(22, "the other", row(x, 0), lane + ": 6 -1 -2 7 100");
                due(22, "with itself", x.mix(0, 0, how), 5);
                dueText(22, "with itself", row(x, 0), lane + (how == 0 ? ": 0 0 0 0 0" : ": 0 1 0 1 0"));
                due(22, "fault()", x.mix(0, 0, how) - 5 + x.fault(), 0);
            }
        }
    }

    private static void mixOfEmptyAndFull() {
        for (int how = 0; how < 2; how++) {
            int by = how;
            BitRings x = new BitRings();
            x.sheet(0, 1, FULLEST);
            x.sheet(1, 1, FULLEST);
            x.put(0, 599, 2);
            x.put(1, 599, 3);
            due(22, "600 cells", x.mix(0, 1, how), FULLEST);
            due(22, "the last", x.at(0, 599, 1), how == 0 ? 1 : 0);
            x.sheet(2, 1, 0);
            due(22, "an empty one second", x.mix(1, 2, how), 0);
            due(22, "the last", x.at(1, 599, 1), 3);
            due(22, "an empty one first", x.mix(2, 1, how), 0);
            due(22, "is empty yet", x.put(2, 0, 1), INDEX);
            faulty(22, "an empty one with itself", PURE, y -> y.mix(3, 3, by), 0, 0);
        }
    }

    private static void mixRefused() {
        for (int k : beyond(0, 3)) {
            refused(22, "a " + k, MIXED, x -> x.mix(k, 0, 0), UNKNOWN);
            refused(22, "b " + k, MIXED, x -> x.mix(0, k, 0), UNKNOWN);
            refused(22, "a ahead of how " + k, MIXED, x -> x.mix(k, 0, 2), UNKNOWN);
            refused(22, "b ahead of how " + k, MIXED, x -> x.mix(0, k, -1), UNKNOWN);
            refused(22, "a ahead of NULL " + k, MIXED, x -> x.mix(k, 3, 0), UNKNOWN);
            refused(22, "b ahead of NULL " + k, MIXED, x -> x.mix(3, k, 0), UNKNOWN);
        }
        for (int how : beyond(0, 1)) {
            refused(22, "how " + how, MIXED, x -> x.mix(0, 0, how), OUTSIDE);
            refused(22, "how ahead of NULL " + how, MIXED, x -> x.mix(3, 0, how), OUTSIDE);
            refused(22, "how ahead of NULL, the other " + how, MIXED, x -> x.mix(0, 3, how), OUTSIDE);
            refused(22, "how ahead of CAST " + how, MIXED, x -> x.mix(0, 1, how), OUTSIDE);
        }
        for (int k = 0; k < 3; k++) {
            int one = k;
            faults(22, "the first is nothing", MIXED, x -> x.mix(3, one, 0), NULL);
            faults(22, "the other is nothing", MIXED, x -> x.mix(one, 3, 1), NULL);
            int other = (k + 1) % 3;
            faults(22, "lanes " + k + ", " + other, MIXED, x -> x.mix(one, other, 0), CAST);
            faults(22, "lanes " + other + ", " + k, MIXED, x -> x.mix(other, one, 1), CAST);
        }
        faults(22, "both are nothing", MIXED, x -> x.mix(3, 3, 0), NULL);
        faults(22, "lanes, one is empty", PURE, x -> x.mix(3, 1, 0), CAST);
        faults(22, "lanes, the other is empty", PURE, x -> x.mix(1, 3, 0), CAST);
    }

    // ---- promises 23 to 25, by the words of the terms

    private static int bit(String bits, int i) {
        return bits.charAt(i) - '0';
    }

    /** The bits of c stand for c(1) .. c(l). */
    private static boolean ruleHolds(String bits, int l, int c) {
        for (int i = l; i < bits.length(); i++) {
            int sum = 0;
            for (int j = 1; j <= l; j++) {
                sum += (c >> (j - 1)) % 2 * bit(bits, i - j);
            }
            if (sum % 2 != bit(bits, i)) {
                return false;
            }
        }
        return true;
    }

    private static int linearOrder(String bits) {
        for (int l = 0; l < bits.length(); l++) {
            for (int c = 0; c < 1 << l; c++) {
                if (ruleHolds(bits, l, c)) {
                    return l;
                }
            }
        }
        return bits.length();
    }

    private static boolean likesBehindLikes(String bits, int m) {
        for (int i = 0; i + m < bits.length(); i++) {
            for (int j = 0; j < i; j++) {
                boolean alike = bits.substring(i, i + m).equals(bits.substring(j, j + m));
                if (alike && bit(bits, i + m) != bit(bits, j + m)) {
                    return false;
                }
            }
        }
        return true;
    }

    private static int greatestOrder(String bits) {
        int m = 0;
        while (m < bits.length() && !likesBehindLikes(bits, m)) {
            m++;
        }
        return m;
    }

    private static int leastPeriod(String bits) {
        int p = 1;
        while (!bits.substring(p).equals(bits.substring(0, bits.length() - p))) {
            p++;
        }
        return p;
    }

    private static String learnt(String bits) {
        int n = Math.max(2, greatestOrder(bits));
        char[] feedback = "0".repeat(1 << n).toCharArray();
        for (int i = 0; i + n < bits.length(); i++) {
            int s = 0;
            for (int j = 0; j < n; j++) {
                s += bit(bits, i + j) << j;
            }
            feedback[s] = bits.charAt(i + n);
        }
        return new String(feedback);
    }

    private static String bitsOf(int number, int size) {
        StringBuilder text = new StringBuilder();
        for (int i = 0; i < size; i++) {
            text.append(number >> i & 1);
        }
        return text.toString();
    }

    /** All rows of up to nine bits; the cells bear higher bits too, which are no bits of the row. */
    private static void allShortRows() {
        for (int size = 0; size <= 9; size++) {
            for (int number = 0; number < 1 << size; number++) {
                String bits = bitsOf(number, size);
                BitRings x = new BitRings();
                x.sheet(0, size % 3, size);
                for (int i = 0; i < size; i++) {
                    x.put(0, i, bit(bits, i) + (i % 2 == 0 ? -6 : 82));
                }
                due(23, "order of " + bits, x.order(0, size), linearOrder(bits));
                due(24, "greatest of " + bits, x.greatest(0, size), greatestOrder(bits));
                due(25, "period of " + bits, x.period(0), size == 0 ? STATE : leastPeriod(bits));
                due(26, "learn of " + bits, x.learn(0), Math.max(2, greatestOrder(bits)));
                dueText(26, "learnt of " + bits, feedbacks(x), learnt(bits));
            }
        }
    }

    private static void theEmptyAndTheShortest() {
        String[] rows = {"0", "1", "00", "01", "10", "11", "000", "001", "011", "111"};
        int[][] want = {
            {0, 0, 1}, {1, 0, 1}, {0, 0, 1}, {2, 1, 2}, {1, 1, 2}, {1, 0, 1}, {0, 0, 1}, {3, 2, 3}, {2, 1, 3}, {1, 0, 1}
        };
        for (int j = 0; j < rows.length; j++) {
            String bits = rows[j];
            int size = bits.length();
            faulty(23, "order of " + bits, () -> rowOf(bits), x -> x.order(0, size), want[j][0], 0);
            faulty(24, "greatest of " + bits, () -> rowOf(bits), x -> x.greatest(0, size), want[j][1], 0);
            faulty(25, "period of " + bits, () -> rowOf(bits), x -> x.period(0), want[j][2], 0);
        }
        faulty(23, "order of none", PURE, x -> x.order(3, 0), 0, 0);
        faulty(24, "greatest of none", PURE, x -> x.greatest(3, 0), 0, 0);
        refused(25, "period of none", PURE, x -> x.period(3), STATE);
    }

    private static void onlyTheFirstCount() {
        String bits = "0001011101";
        for (int n = 0; n <= bits.length(); n++) {
            int first = n;
            String part = bits.substring(0, n);
            faulty(23, "order of " + part, () -> rowOf(bits), x -> x.order(0, first), linearOrder(part), 0);
            faulty(24, "greatest of " + part, () -> rowOf(bits), x -> x.greatest(0, first), greatestOrder(part), 0);
        }
    }

    /** Zeros but for one cell; its row is of the fullest. */
    private static BitRings oneAt(int place) {
        BitRings x = new BitRings();
        x.sheet(0, 0, FULLEST);
        x.put(0, place, 1);
        return x;
    }

    private static void theFullestRows() {
        for (int place : new int[] {0, 1, 299, 300, 301, 598, 599}) {
            due(23, "order of a one at " + place, oneAt(place).order(0, FULLEST), place + 1);
        }
        due(23, "order of 600 zeros", zerosAndOnes(FULLEST, 0).order(0, FULLEST), 0);
        due(23, "order of 600 ones", zerosAndOnes(0, FULLEST).order(0, FULLEST), 1);
        due(24, "greatest of 600 zeros", zerosAndOnes(FULLEST, 0).greatest(0, FULLEST), 0);
        due(24, "greatest of 600 ones", zerosAndOnes(0, FULLEST).greatest(0, FULLEST), 0);
        due(24, "greatest of a last one", oneAt(599).greatest(0, FULLEST), 599);
        due(24, "greatest of a last one, left out", oneAt(599).greatest(0, 599), 0);
        due(24, "greatest of a first one", oneAt(0).greatest(0, FULLEST), 1);
        due(24, "greatest of half and half", zerosAndOnes(300, 300).greatest(0, FULLEST), 300);
        due(25, "period of 600 zeros", zerosAndOnes(FULLEST, 0).period(0), 1);
        due(25, "period of 600 ones", zerosAndOnes(0, FULLEST).period(0), 1);
        due(25, "period of a last one", oneAt(599).period(0), 600);
        due(25, "period of a first one", oneAt(0).period(0), 600);
        due(25, "period of a one at 1", oneAt(1).period(0), 599);
        due(25, "period of a one at 300", oneAt(300).period(0), 301);
    }

    /** Zeros but for each p-th cell: nothing shorter than p tells when the next one comes. */
    private static BitRings oneEach(int p) {
        BitRings x = new BitRings();
        x.sheet(0, 0, FULLEST);
        for (int i = p - 1; i < FULLEST; i += p) {
            x.put(0, i, 1);
        }
        return x;
    }

    private static void longPeriods() {
        // with those about a multiple of 64, as bits may be packed
        int[] periods = {2, 3, 9, 10, 11, 32, 33, 63, 64, 65, 127, 128, 129, 191, 192, 193, 255, 256, 257, 299, 300};
        for (int p : periods) {
            BitRings x = oneEach(p);
            due(23, "order of a one at each " + p, x.order(0, FULLEST), p);
            due(24, "greatest of a one at each " + p, x.greatest(0, FULLEST), p - 1);
            due(25, "period of a one at each " + p, x.period(0), p);
            due(26, "learn of a one at each " + p, x.learn(0), p > 10 ? STATE : Math.max(2, p - 1));
        }
    }

    /** One object reads long rows, then short ones: nothing of an earlier call is left. */
    private static void readAgain() {
        String bits = "0001011101";
        BitRings x = oneEach(129);
        putBits(x, 1, 1, bits);
        x.sheet(2, 2, FULLEST);
        for (int n = bits.length(); n >= 1; n--) {
            String part = bits.substring(0, n);
            putBits(x, 3, 0, part);
            due(23, "the long row", x.order(0, FULLEST), 129);
            due(23, "order of " + part, x.order(1, n), linearOrder(part));
            due(24, "the long row", x.greatest(0, FULLEST), 128);
            due(24, "greatest of " + part, x.greatest(1, n), greatestOrder(part));
            due(25, "the long row", x.period(0), 129);
            due(25, "period of " + part, x.period(3), leastPeriod(part));
            due(26, "learn of " + part, x.learn(3), Math.max(2, greatestOrder(part)));
            due(23, "zeros behind others", x.order(2, FULLEST), 0);
            due(24, "zeros behind others", x.greatest(2, FULLEST), 0);
            due(25, "zeros behind others", x.period(2), 1);
        }
    }

    /** By the output of a register of one feedback, so that it takes few calls. */
    private static BitRings zerosAndOnes(int zeros, int ones) {
        BitRings x = new BitRings();
        x.sheet(0, 0, zeros + ones);
        x.out(0, 0, 0, zeros);
        x.linear(0, 1);
        x.out(7, 0, zeros, ones);
        return x;
    }

    private static void rowsOfLongRegisters() {
        for (int n = 2; n <= 9; n++) {
            BitRings x = preferringOf(n, 1);
            x.sheet(0, 1, FULLEST);
            x.out(0, 0, 0, FULLEST);
            due(24, "greatest of a ring of all", x.greatest(0, FULLEST), n);
            due(25, "period of a ring of all", x.period(0), 1 << n);
        }
        // x^9 + x^4 + 1 has the longest ring that a linear register of nine can have
        BitRings longest = linearOf(9, 1 + (1 << 4), 0);
        longest.sheet(0, 0, FULLEST);
        longest.out(1, 0, 0, FULLEST);
        due(23, "order of a linear row", longest.order(0, FULLEST), 9);
        due(24, "greatest of a linear row", longest.greatest(0, FULLEST), 9);
        due(25, "period of a linear row", longest.period(0), 511);
    }

    private static void readingRefused() {
        for (int k : beyond(0, 3)) {
            refused(23, "sheet " + k, MIXED, x -> x.order(k, 0), UNKNOWN);
            refused(24, "sheet " + k, MIXED, x -> x.greatest(k, 0), UNKNOWN);
            refused(23, "UNKNOWN ahead of INDEX " + k, MIXED, x -> x.order(k, -1), UNKNOWN);
            refused(24, "UNKNOWN ahead of INDEX " + k, MIXED, x -> x.greatest(k, -1), UNKNOWN);
            refused(25, "sheet " + k, MIXED, x -> x.period(k), UNKNOWN);
            refused(26, "sheet " + k, MIXED, x -> x.learn(k), UNKNOWN);
        }
        for (int n : new int[] {LEAST, -1, 0, 1, 600, 601, MOST}) {
            faults(23, "nothing, n " + n, MIXED, x -> x.order(3, n), NULL);
            faults(24, "nothing, n " + n, MIXED, x -> x.greatest(3, n), NULL);
        }
        faults(25, "nothing", MIXED, x -> x.period(3), NULL);
        faults(26, "nothing", MIXED, x -> x.learn(3), NULL);
        for (int n : beyond(0, 5)) {
            faults(23, "n " + n, MIXED, x -> x.order(0, n), INDEX);
            faults(24, "n " + n, MIXED, x -> x.greatest(0, n), INDEX);
        }
        for (int n : beyond(0, 0)) {
            faults(23, "an empty row, n " + n, PURE, x -> x.order(3, n), INDEX);
            faults(24, "an empty row, n " + n, PURE, x -> x.greatest(3, n), INDEX);
        }
    }

    // ---- promise 26

    private static void learnAtTheEnds() {
        BitRings nine = rowOf("0000000001");
        due(26, "order 9", nine.learn(0), 9);
        due(26, "told(0)", nine.told(0), 9);
        due(26, "told(5)", nine.told(5), 1);
        due(26, "feedback(0)", nine.feedback(0), 1);
        refused(26, "order 10", PURE, x -> x.learn(2), STATE);
        BitRings x = oneAt(599);
        x.prefer(1);
        due(26, "order 599", x.learn(0), STATE);
        dueText(26, "the register is kept", register(x), register(preferringOf(3, 1)));
        BitRings empty = pureScene();
        due(26, "no bits", empty.learn(3), 2);
        dueText(26, "all 0", register(empty), register(registerOf(2)));
        dueText(26, "sheets behind learn", sheets(empty), sheets(pureScene()));
        due(26, "trace() behind learn", empty.trace(), pureScene().trace());
        due(26, "the first row", empty.learn(1), 3);
        // 001>0 010>1 101>1 011>1: states 4, 2, 5, 6
        dueText(26, "others are 0", feedbacks(empty), "00100110");
    }

    private static void learnAnew() {
        for (int n = 2; n <= 9; n++) {
            for (int b = 0; b < 2; b++) {
                BitRings x = preferringOf(n, b);
                x.sheet(3, b, FULLEST);
                x.out(0, 3, 0, FULLEST);
                x.length(n == 9 ? 2 : 9);
                x.linear(0, 1);
                due(26, "learn of a ring of all", x.learn(3), n);
                due(26, "one ring", x.ring(0, 0), 1 << n);
                due(26, "told(5)", x.told(5), 1 << (n - 1));
                BitRings first = preferringOf(n, b);
                for (int s = 0; s < 1 << n && s < 256; s++) {
                    due(26, "feedback(" + s + ")", x.feedback(s), first.feedback(s));
                }
            }
        }
    }

    // ---- promise 27

    private static void alongAtTheEnds() {
        for (int n = 2; n <= 9; n++) {
            BitRings x = preferringOf(n, 0);
            int states = 1 << n;
            due(27, "by 0", x.along(0, 0), states);
            due(27, "once around", x.along(0, states), states);
            // each row of two bits is there as often as any other
            due(27, "by 1", x.along(0, 1), 0);
            due(27, "once around and 1", x.along(0, states + 1), 0);
            due(27, "once around less 1", x.along(0, states - 1), 0);
            due(27, "as far as can be", x.along(0, MOST), 0);
            due(27, "one beyond", x.along(1, 0), UNKNOWN);
        }
        BitRings six = linearOf(3, 1, 1);
        int[] want = {6, 2, -2, -6, -2, 2};
        for (int d = 0; d <= 14; d++) {
            due(27, "000111 by " + d, six.along(0, d), want[d % 6]);
        }
        due(27, "000111 as far as can be", six.along(0, MOST), want[MOST % 6]);
        due(27, "01 by 0", six.along(1, 0), 2);
        due(27, "01 by 1", six.along(1, 1), -2);
        due(27, "01 by 2", six.along(1, 2), 2);
    }

    private static void alongRefused() {
        for (int d : new int[] {0, 1, 2, MOST}) {
            still(27, "a ring of one by " + d, MIXED, x -> x.along(0, d), 1);
            still(27, "a ring of two by " + d, MIXED, x -> x.along(1, d), d % 2 == 0 ? 2 : -2);
        }
        for (int r : beyond(0, 1)) {
            still(27, "ring " + r, MIXED, x -> x.along(r, 0), UNKNOWN);
            still(27, "UNKNOWN comes first, ring " + r, MIXED, x -> x.along(r, -1), UNKNOWN);
        }
        for (int d : new int[] {-1, LEAST}) {
            still(27, "d " + d, MIXED, x -> x.along(0, d), OUTSIDE);
            still(27, "d " + d, MIXED, x -> x.along(1, d), OUTSIDE);
        }
    }

    public static void main(String[] args) {
        sheetsAllowed();
        theFullestRow();
        newRowsAreZero();
        sheetRefused();
        loseEach();
        putIsCut();
        putAtTheEnds();
        atEachLane();
        atRefused();
        outAtTheEnds();
        outNone();
        outTheFullest();
        outRefused();
        outFaults();
        thinEach();
        thinTheFullest();
        thinMakesRowsOfTheirOwn();
        thinRefused();
        mixEach();
        mixOfEmptyAndFull();
        mixRefused();
        allShortRows();
        theEmptyAndTheShortest();
        onlyTheFirstCount();
        theFullestRows();
        longPeriods();
        readAgain();
        rowsOfLongRegisters();
        readingRefused();
        learnAtTheEnds();
        learnAnew();
        alongAtTheEnds();
        alongRefused();
        end();
    }
}
