/** Promises 1 to 15 and the terms of the register, at the edges that their sentences name. */
public final class RegisterEdgeTests extends Checks {
    private static final Scene MIXED = Checks::mixedScene;
    private static final Scene PURE = Checks::pureScene;
    /** Of linear(1, 0), which turns the bits of a state around, for the lengths 2 .. 9. */
    private static final int[] RINGS_OF_TURNING = {3, 4, 6, 8, 14, 20, 36, 60};
    private static final int[] WAYS_OF_TURNING = {1, 2, 12, 576, 211834, 886172, 168259, 933761};

    private static int[] wrongStates(int n) {
        return beyond(0, (1 << n) - 1);
    }

    // ---- promise 1

    private static void newObject() {
        BitRings x = new BitRings();
        dueText(1, "a new object", view(x),
            "register 00000000 3 8 1 1 0 0 3 4; trace 0; sheets nothing; nothing; nothing; nothing");
        due(1, "fault() of a new object", new BitRings().fault(), 0);
    }

    private static void objectsShareNothing() {
        BitRings x = mixedScene();
        BitRings y = new BitRings();
        x.period(3);
        dueText(1, "a new object beside another", view(y), view(new BitRings()));
        y.length(9);
        y.sheet(0, 1, 3);
        y.lose(1);
        y.weigh(0);
        dueText(1, "an object beside a changed one", view(x), view(mixedScene()));
    }

    // ---- promise 2

    private static void lengthsAllowed() {
        for (int n = 2; n <= 9; n++) {
            BitRings x = linearOf(9, 0, 1);
            due(2, "length(" + n + ")", x.length(n), 9);
            due(2, "told(0)", x.told(0), n);
            due(2, "told(1)", x.told(1), 1 << n);
            due(2, "told(5) behind length", x.told(5), 0);
            due(2, "length(3)", x.length(3), n);
        }
    }

    private static void lengthsOutside() {
        for (int n : new int[] {LEAST, -1, 0, 1, 10, 11, 32, MOST}) {
            still(2, "length(" + n + ")", MIXED, x -> x.length(n), OUTSIDE);
        }
    }

    private static void lengthClearsFeedback() {
        for (int n = 2; n <= 9; n++) {
            BitRings x = linearOf(n, 0, 1);
            due(2, "all are 1", x.told(5), 1 << n);
            due(2, "the same length", x.length(n), n);
            due(2, "none is 1", x.told(5), 0);
            due(2, "last feedback", x.feedback((1 << n) - 1), 0);
        }
        BitRings x = linearOf(9, 0, 1);
        x.length(2);
        x.length(9);
        due(2, "none comes back", x.told(5), 0);
    }

    private static void lengthLeavesTheRest() {
        BitRings x = mixedScene();
        x.sheet(0, 0, -1);
        x.length(4);
        due(2, "fault() behind length", x.fault(), 4);
        due(2, "trace() behind length", x.trace(), mixedScene().trace());
        dueText(2, "sheets behind length", sheets(x), sheets(mixedScene()));
    }

    // ---- promise 3

    private static void setAtTheEnds() {
        for (int n = 2; n <= 9; n++) {
            int last = (1 << n) - 1;
            BitRings x = registerOf(n);
            for (int s : new int[] {0, last}) {
                due(3, "set(" + s + ", 0)", x.set(s, 0), 0);
                due(3, "set(" + s + ", 1)", x.set(s, 1), 0);
                due(3, "set(" + s + ", 1) again", x.set(s, 1), 1);
                due(3, "feedback(" + s + ")", x.feedback(s), 1);
            }
            due(3, "no other became 1", x.told(5), 2);
            due(3, "set(0, 0)", x.set(0, 0), 1);
            due(3, "the last kept", x.feedback(last), 1);
            for (int s : wrongStates(n)) {
                due(3, "set(" + s + ", 1) of length " + n, x.set(s, 1), UNKNOWN);
            }
            due(3, "told(5)", x.told(5), 1);
        }
    }

    private static void setRefused() {
        for (int s : wrongStates(3)) {
            still(3, "set(" + s + ", 1)", MIXED, x -> x.set(s, 1), UNKNOWN);
            still(3, "set(" + s + ", 2): UNKNOWN comes first", MIXED, x -> x.set(s, 2), UNKNOWN);
        }
        for (int bit : beyond(0, 1)) {
            still(3, "set(0, " + bit + ")", MIXED, x -> x.set(0, bit), OUTSIDE);
            still(3, "set(7, " + bit + ")", MIXED, x -> x.set(7, bit), OUTSIDE);
        }
    }

    // ---- promise 4

    private static void linearAtTheEnds() {
        for (int n = 2; n <= 9; n++) {
            int last = (1 << n) - 1;
            BitRings x = registerOf(n, 1);
            due(4, "linear(0, 0)", x.linear(0, 0), 0);
            due(4, "told(5)", x.told(5), 0);
            due(4, "linear(0, 1)", x.linear(0, 1), 1 << n);
            due(4, "told(5)", x.told(5), 1 << n);
            due(4, "linear(last, 0)", x.linear(last, 0), 1 << (n - 1));
            due(4, "feedback(0)", x.feedback(0), 0);
            due(4, "feedback(last)", x.feedback(last), n % 2);
            due(4, "linear(last, 1)", x.linear(last, 1), 1 << (n - 1));
            due(4, "feedback(0)", x.feedback(0), 1);
            due(4, "feedback(last)", x.feedback(last), 1 - n % 2);
            for (int mask : wrongStates(n)) {
                due(4, "linear(" + mask + ", 0) of length " + n, x.linear(mask, 0), OUTSIDE);
            }
            due(4, "kept", x.feedback(0), 1);
        }
    }

    private static void linearOfEachBit() {
        for (int j = 0; j < 4; j++) {
            for (int one = 0; one < 2; one++) {
                BitRings x = linearOf(4, 1 << j, one);
                for (int s = 0; s < 16; s++) {
                    due(4, "bit " + j + " of " + s + " and " + one, x.feedback(s), (s >> j) % 2 ^ one);
                }
            }
        }
    }

    private static void linearRefused() {
        for (int mask : wrongStates(3)) {
            still(4, "linear(" + mask + ", 0)", MIXED, x -> x.linear(mask, 0), OUTSIDE);
            still(4, "linear(" + mask + ", 2)", MIXED, x -> x.linear(mask, 2), OUTSIDE);
        }
        for (int one : beyond(0, 1)) {
            still(4, "linear(1, " + one + ")", MIXED, x -> x.linear(1, one), OUTSIDE);
        }
    }

    // ---- promise 5

    /** A row of 12 cells, as bits 110100101101, and feedback of length 3 that is all 0. */
    private static BitRings rowOf12(int lane) {
        BitRings x = new BitRings();
        putCells(x, 0, lane, 1, -1, -2, 3, 4, -128, 127, 0, 5, -3, 2, 1);
        return x;
    }

    private static void takeAtTheEnds() {
        for (int lane = 0; lane < 3; lane++) {
            BitRings x = rowOf12(lane);
            due(5, "all states, the first cells", x.take(0, lane, 0, 8, 0), 8);
            dueText(5, "feedback", feedbacks(x), "11010010");
            due(5, "all states, the last cells", x.take(0, lane, 4, 8, 0), 8);
            dueText(5, "feedback", feedbacks(x), "00101101");
            due(5, "the last cell, the first state", x.take(0, lane, 11, 1, 0), 1);
            dueText(5, "feedback", feedbacks(x), "10101101");
            due(5, "the first cell, the last state", x.take(0, lane, 0, 1, 7), 1);
            due(5, "a cell of 0, the last state", x.take(0, lane, 2, 1, 7), 1);
            dueText(5, "feedback", feedbacks(x), "10101100");
            due(5, "the last two of both", x.take(0, lane, 10, 2, 6), 2);
            dueText(5, "feedback", feedbacks(x), "10101101");
            dueText(5, "the row is left", row(x, 0), row(rowOf12(lane), 0));
        }
    }

    private static void takeNone() {
        faulty(5, "none at the front", MIXED, x -> x.take(0, 0, 0, 0, 0), 0, 0);
        faulty(5, "none at the end", MIXED, x -> x.take(0, 0, 5, 0, 7), 0, 0);
        faulty(5, "none of an empty row", PURE, x -> x.take(3, 2, 0, 0, 0), 0, 0);
    }

    private static void takeTheFullest() {
        BitRings x = registerOf(9);
        x.sheet(3, 2, 600);
        x.put(3, 88, 1);
        x.put(3, 599, -1);
        due(5, "the last 512 of 600 cells", x.take(3, 2, 88, 512, 0), 512);
        due(5, "feedback(0)", x.feedback(0), 1);
        due(5, "feedback(511)", x.feedback(511), 1);
        due(5, "told(5)", x.told(5), 2);
        due(5, "one cell too many", x.take(3, 2, 89, 512, 0), INDEX);
        due(5, "one state too many", x.take(3, 2, 0, 513, 0), INDEX);
        due(5, "one state too many, from 1", x.take(3, 2, 0, 512, 1), INDEX);
        due(5, "told(5)", x.told(5), 2);
    }

    private static void takeIsSeenInRings() {
        BitRings x = rowOf12(0);
        due(5, "told(2)", x.told(2), 1);
        x.take(0, 0, 0, 1, 7);
        due(5, "told(2) behind take", x.told(2), 2);
    }

    private static void takeRefused() {
        for (int sheet : beyond(0, 3)) {
            refused(5, "sheet " + sheet, MIXED, x -> x.take(sheet, 0, 0, 1, 0), UNKNOWN);
            refused(5, "sheet first " + sheet, MIXED, x -> x.take(sheet, 3, -1, -1, 8), UNKNOWN);
        }
        for (int s : wrongStates(3)) {
            refused(5, "s " + s, MIXED, x -> x.take(0, 0, 0, 1, s), UNKNOWN);
            refused(5, "s ahead of lane " + s, MIXED, x -> x.take(0, 3, 0, 1, s), UNKNOWN);
            refused(5, "s ahead of CAST " + s, MIXED, x -> x.take(0, 1, -1, -1, s), UNKNOWN);
            refused(5, "s ahead of NULL " + s, MIXED, x -> x.take(3, 0, -1, -1, s), UNKNOWN);
            refused(5, "s, none taken " + s, MIXED, x -> x.take(0, 0, 0, 0, s), UNKNOWN);
        }
        for (int lane : beyond(0, 2)) {
            refused(5, "lane " + lane, MIXED, x -> x.take(0, lane, 0, 1, 0), OUTSIDE);
            refused(5, "lane ahead of NULL " + lane, MIXED, x -> x.take(3, lane, 0, 1, 0), OUTSIDE);
            refused(5, "lane ahead of SIZE " + lane, MIXED, x -> x.take(0, lane, -1, -1, 0), OUTSIDE);
        }
    }

    private static void takeCast() {
        for (int k = 0; k < 3; k++) {
            int own = k;
            for (int lane = 0; lane < 3; lane++) {
                int asked = lane;
                if (lane != own) {
                    faults(5, "lane " + lane + " of " + own, MIXED, x -> x.take(own, asked, 0, 1, 0), CAST);
                    faults(5, "CAST ahead of SIZE", MIXED, x -> x.take(own, asked, -1, -1, 0), CAST);
                    faults(5, "CAST ahead of INDEX", MIXED, x -> x.take(own, asked, 9, 9, 7), CAST);
                }
                faults(5, "nothing is no CAST", MIXED, x -> x.take(3, asked, 0, 1, 0), NULL);
            }
        }
        faults(5, "CAST of an empty row", PURE, x -> x.take(3, 0, 0, 0, 0), CAST);
    }

    private static void takeFaults() {
        faults(5, "NULL ahead of SIZE", MIXED, x -> x.take(3, 0, -1, -1, 0), NULL);
        faults(5, "NULL ahead of INDEX", MIXED, x -> x.take(3, 0, -1, 9, 7), NULL);
        faults(5, "NULL, none taken", MIXED, x -> x.take(3, 0, 0, 0, 0), NULL);
        for (int k : new int[] {-1, LEAST}) {
            faults(5, "SIZE " + k, MIXED, x -> x.take(0, 0, 0, k, 0), SIZE);
            faults(5, "SIZE ahead of INDEX " + k, MIXED, x -> x.take(0, 0, -1, k, 7), SIZE);
            faults(5, "SIZE ahead of a far INDEX " + k, MIXED, x -> x.take(0, 0, MOST, k, 7), SIZE);
        }
        for (int i : new int[] {LEAST, -1, 5, 6, MOST}) {
            faults(5, "one cell at " + i, MIXED, x -> x.take(0, 0, i, 1, 0), INDEX);
        }
        faults(5, "from ahead of the row", MIXED, x -> x.take(0, 0, -1, 3, 0), INDEX);
        faults(5, "one cell too many", MIXED, x -> x.take(0, 0, 0, 6, 0), INDEX);
        faults(5, "one cell too many, from 3", MIXED, x -> x.take(0, 0, 3, 3, 0), INDEX);
        faults(5, "one state too many", MIXED, x -> x.take(2, 2, 0, 5, 4), INDEX);
        faults(5, "one state too many, from 7", MIXED, x -> x.take(0, 0, 0, 2, 7), INDEX);
        faults(5, "a sum beyond all ints", MIXED, x -> x.take(0, 0, MOST, MOST, 0), INDEX);
        faults(5, "as many as can be", MIXED, x -> x.take(0, 0, 0, MOST, 0), INDEX);
        faults(5, "as many as can be, from 1", MIXED, x -> x.take(0, 0, 1, MOST, 7), INDEX);
        faults(5, "a cell of an empty row", PURE, x -> x.take(3, 2, 0, 1, 0), INDEX);
    }

    // ---- promise 6

    private static void feedbackAtTheEnds() {
        for (int n = 2; n <= 9; n++) {
            int last = (1 << n) - 1;
            BitRings x = registerOf(n, last);
            due(6, "feedback(0)", x.feedback(0), 0);
            due(6, "feedback(last)", x.feedback(last), 1);
            for (int s : wrongStates(n)) {
                due(6, "feedback(" + s + ") of length " + n, x.feedback(s), UNKNOWN);
            }
        }
        for (int s : wrongStates(3)) {
            still(6, "feedback(" + s + ")", MIXED, x -> x.feedback(s), UNKNOWN);
        }
        still(6, "feedback(2)", MIXED, x -> x.feedback(2), 1);
    }

    // ---- promise 7

    private static void stepsByHalves() {
        for (int n = 2; n <= 9; n++) {
            int last = (1 << n) - 1;
            int half = 1 << (n - 1);
            BitRings zeros = linearOf(n, 0, 0);
            BitRings ones = linearOf(n, 0, 1);
            due(7, "a half, cut", zeros.step(last, 1), last / 2);
            due(7, "a half, and the highest bit", ones.step(last - 1, 1), (last - 1) / 2 + half);
            due(7, "from 0", zeros.step(0, 1), 0);
            due(7, "from 0 with 1", ones.step(0, 1), half);
            due(7, "from the last with 1", ones.step(last, 1), last);
        }
    }

    private static void stepsAroundTheRing() {
        for (int n = 2; n <= 9; n++) {
            BitRings x = preferringOf(n, 1);
            int states = 1 << n;
            due(7, "no step", x.step(1, 0), 1);
            due(7, "all but one", x.step(0, states - 1), 1);
            due(7, "once around", x.step(0, states), 0);
            due(7, "once around and one", x.step(0, states + 1L), 1 << (n - 1));
            due(7, "as many as can be", x.step(0, Long.MAX_VALUE), 1);
        }
        BitRings seven = linearOf(3, 3, 0);
        int[] way = {1, 4, 2, 5, 6, 7, 3};
        due(7, "a ring of seven", seven.ring(1, 0), 7);
        for (long k : new long[] {6, 7, 8, 1L << 31, (1L << 31) - 1, 1L << 32, (1L << 32) + 3, 1L << 62}) {
            due(7, "step(1, " + k + ")", seven.step(1, k), way[(int) (k % 7)]);
        }
        due(7, "step(1, most)", seven.step(1, Long.MAX_VALUE), way[(int) (Long.MAX_VALUE % 7)]);
    }

    private static void stepsFromBehind() {
        BitRings x = registerOf(9);
        for (int k = 0; k <= 12; k++) {
            due(7, "step(511, " + k + ")", x.step(511, k), 511 >> k);
        }
        // 7 -> 3 -> 5 -> 2 -> 5: two steps behind a ring of two
        int[] way = {7, 3, 5, 2, 5, 2, 5};
        BitRings y = mixedScene();
        for (int k = 0; k < way.length; k++) {
            due(7, "step(7, " + k + ")", y.step(7, k), way[k]);
        }
        due(7, "step(7, most)", y.step(7, Long.MAX_VALUE), 2);
        due(7, "step(7, most but one)", y.step(7, Long.MAX_VALUE - 1), 5);
    }

    private static void stepRefused() {
        for (int s : wrongStates(3)) {
            still(7, "step(" + s + ", 0)", MIXED, x -> x.step(s, 0), UNKNOWN);
            still(7, "step(" + s + ", -1): UNKNOWN comes first", MIXED, x -> x.step(s, -1), UNKNOWN);
        }
        for (long k : new long[] {-1, Long.MIN_VALUE, LEAST}) {
            still(7, "step(0, " + k + ")", MIXED, x -> x.step(0, k), OUTSIDE);
            still(7, "step(7, " + k + ")", MIXED, x -> x.step(7, k), OUTSIDE);
        }
        still(7, "step(7, 0)", MIXED, x -> x.step(7, 0), 7);
        still(7, "step(7, 9)", MIXED, x -> x.step(7, 9), 2);
    }

    // ---- promise 8

    /** 3 and 5 have one, 2 has two, 4 has none that leads to it. */
    private static BitRings leadingScene() {
        return registerOf(3, 2, 6);
    }

    private static void backByTwoOneNone() {
        // 0, 1 -> 0; 2 -> 5; 3 -> 1; 4, 5 -> 2; 6 -> 7; 7 -> 3
        int[][] before = {{0, 1}, {3}, {4, 5}, {7}, {}, {2}, {}, {6}};
        for (int s = 0; s < 8; s++) {
            int[] of = before[s];
            int to = s;
            still(8, "back(" + s + ", -1)", RegisterEdgeTests::leadingScene, x -> x.back(to, -1), of.length);
            for (int which = 0; which < 2; which++) {
                int asked = which;
                int want = which < of.length ? of[which] : UNKNOWN;
                still(8, "back(" + s + ", " + which + ")", RegisterEdgeTests::leadingScene,
                    x -> x.back(to, asked), want);
            }
        }
    }

    private static void backAtTheEnds() {
        for (int n = 2; n <= 9; n++) {
            int last = (1 << n) - 1;
            BitRings ones = linearOf(n, 0, 1);
            due(8, "to the last", ones.back(last, -1), 2);
            due(8, "the least to the last", ones.back(last, 0), last - 1);
            due(8, "the other to the last", ones.back(last, 1), last);
            due(8, "to 0", ones.back(0, -1), 0);
            BitRings turning = linearOf(n, 1, 0);
            due(8, "to the last", turning.back(last, -1), 1);
            due(8, "the least to the last", turning.back(last, 0), last);
            due(8, "no other to the last", turning.back(last, 1), UNKNOWN);
            for (int s : wrongStates(n)) {
                due(8, "back(" + s + ", -1) of length " + n, turning.back(s, -1), UNKNOWN);
            }
        }
    }

    private static void backRefused() {
        for (int s : wrongStates(3)) {
            for (int which : new int[] {LEAST, -2, -1, 0, 1, 2, MOST}) {
                still(8, "back(" + s + ", " + which + ")", MIXED, x -> x.back(s, which), UNKNOWN);
            }
        }
        for (int which : beyond(-1, 1)) {
            still(8, "back(0, " + which + ")", MIXED, x -> x.back(0, which), OUTSIDE);
            still(8, "back(7, " + which + ")", PURE, x -> x.back(7, which), OUTSIDE);
        }
    }

    // ---- promise 9

    private static void aboutEachState() {
        // 0 alone; 2 -> 5 -> 2; 1 -> 0; 4 -> 2; 3 -> 5; 6, 7 -> 3
        int[][] want = {
            {0, 0, 0, 1}, {0, 1, 0, 0}, {1, 0, 0, 3}, {1, 1, 1, 2},
            {1, 1, 0, 5}, {1, 0, 1, 4}, {1, 2, 1, 7}, {1, 2, 1, 6}
        };
        for (int s = 0; s < want.length; s++) {
            for (int what = 0; what < 4; what++) {
                int of = s;
                int asked = what;
                still(9, "about(" + s + ", " + what + ")", MIXED, x -> x.about(of, asked), want[s][what]);
            }
        }
    }

    private static void aboutTheFarthest() {
        for (int n = 2; n <= 9; n++) {
            int last = (1 << n) - 1;
            BitRings x = registerOf(n);
            due(9, "behind by all bits", x.about(last, 1), n);
            due(9, "behind by one", x.about(1, 1), 1);
            due(9, "on it", x.about(0, 1), 0);
            due(9, "partner of the last", x.about(last, 3), last - 1);
            BitRings full = preferringOf(n, 0);
            due(9, "the first", full.about(0, 2), 0);
            due(9, "the one ahead of the first", full.about(full.back(0, 0), 2), last);
            due(9, "partner of 0", full.about(0, 3), 1);
        }
    }

    private static void aboutRefused() {
        for (int s : wrongStates(3)) {
            for (int what : new int[] {-1, 0, 3, 4}) {
                still(9, "about(" + s + ", " + what + ")", MIXED, x -> x.about(s, what), UNKNOWN);
            }
        }
        for (int what : beyond(0, 3)) {
            still(9, "about(0, " + what + ")", MIXED, x -> x.about(0, what), OUTSIDE);
            still(9, "about(7, " + what + ")", MIXED, x -> x.about(7, what), OUTSIDE);
        }
    }

    // ---- promise 10

    private static void ringsInOrder() {
        int[][] mixed = {{1, 0, 0, 1}, {2, 2, 1, 4}};
        int[][] pure = {{1, 0, 0, 0}, {3, 1, 1, 0}, {3, 3, 2, 0}, {1, 7, 1, 0}};
        ringsAre("mixed", MIXED, mixed);
        ringsAre("pure", PURE, pure);
    }

    private static void ringsAre(String name, Scene scene, int[][] want) {
        for (int r = 0; r < want.length; r++) {
            for (int what = 0; what < 4; what++) {
                int of = r;
                int asked = what;
                still(10, name + " ring(" + r + ", " + what + ")", scene, x -> x.ring(of, asked), want[r][what]);
            }
        }
        for (int r : beyond(0, want.length - 1)) {
            for (int what : new int[] {-1, 0, 3, 4}) {
                still(10, name + " ring(" + r + ", " + what + ")", scene, x -> x.ring(r, what), UNKNOWN);
            }
        }
        for (int what : beyond(0, 3)) {
            still(10, name + " ring(0, " + what + ")", scene, x -> x.ring(0, what), OUTSIDE);
        }
    }

    private static void ringsAtTheEnds() {
        for (int n = 2; n <= 9; n++) {
            int states = 1 << n;
            BitRings full = preferringOf(n, 1);
            due(10, "the longest ring", full.ring(0, 0), states);
            due(10, "its 1s", full.ring(0, 2), states / 2);
            due(10, "none behind", full.ring(0, 3), 0);
            due(10, "no second ring", full.ring(1, 0), UNKNOWN);
            BitRings ones = linearOf(n, 0, 1);
            due(10, "the shortest ring", ones.ring(0, 0), 1);
            due(10, "its state", ones.ring(0, 1), states - 1);
            due(10, "its 1s", ones.ring(0, 2), 1);
            due(10, "all others behind", ones.ring(0, 3), states - 1);
            BitRings turning = linearOf(n, 1, 0);
            int rings = RINGS_OF_TURNING[n - 2];
            due(10, "the last ring", turning.ring(rings - 1, 1), states - 1);
            due(10, "one beyond", turning.ring(rings, 1), UNKNOWN);
        }
    }

    // ---- promise 11

    private static void toldEach() {
        toldIs("mixed", MIXED, 3, 8, 2, 3, 0, 2, 2, 4);
        toldIs("pure", PURE, 3, 8, 4, 8, 1, 4, 0, 0);
        toldIs("nearly pure", () -> registerOf(3, 1, 3, 5, 6, 7), 3, 8, 3, 5, 0, 5, 3, 1);
        for (int n = 2; n <= 9; n++) {
            int states = 1 << n;
            toldAt("zeros", registerOf(n), n, states, 1, 1, 0, 0, n, states / 2);
            toldAt("ones", linearOf(n, 0, 1), n, states, 1, 1, 0, states, n, states / 2);
            toldAt("one ring", preferringOf(n, 1), n, states, 1, states, 1, states / 2, 0, 0);
            toldAt("turning", linearOf(n, 1, 0), n, states, RINGS_OF_TURNING[n - 2], states, 1, states / 2, 0, 0);
        }
    }

    private static void toldIs(String name, Scene scene, int... want) {
        for (int what = 0; what < want.length; what++) {
            int asked = what;
            still(11, name + " told(" + what + ")", scene, x -> x.told(asked), want[what]);
        }
        for (int what : beyond(0, 7)) {
            still(11, name + " told(" + what + ")", scene, x -> x.told(what), OUTSIDE);
        }
    }

    private static void toldAt(String name, BitRings x, int... want) {
        for (int what = 0; what < want.length; what++) {
            due(11, name + " of length " + want[0] + ": told(" + what + ")", x.told(what), want[what]);
        }
    }

    private static void pureToTheLastPair() {
        for (int n = 2; n <= 9; n++) {
            int last = (1 << n) - 1;
            for (int s : new int[] {0, 1, last - 1, last}) {
                BitRings x = linearOf(n, 1, 0);
                x.set(s, 1 - s % 2);
                due(11, "one pair is alike", x.told(4), 0);
                x.set(s ^ 1, s % 2);
                due(11, "it is turned", x.told(4), 1);
            }
        }
    }

    // ---- promise 12

    private static void turnAtTheEnds() {
        for (int n = 2; n <= 9; n++) {
            int rings = RINGS_OF_TURNING[n - 2];
            int pairs = 1 << (n - 1);
            BitRings x = linearOf(n, 1, 0);
            due(12, "the first pair joins two", x.turn(0), rings - 1);
            due(12, "feedback(0)", x.feedback(0), 1);
            due(12, "feedback(1)", x.feedback(1), 0);
            due(12, "it parts them again", x.turn(0), rings);
            due(12, "the last pair joins two", x.turn(pairs - 1), rings - 1);
            due(12, "feedback of the last", x.feedback(2 * pairs - 1), 0);
            due(12, "feedback of its partner", x.feedback(2 * pairs - 2), 1);
            due(12, "the others are left", x.feedback(0) * 2 + x.feedback(1), 1);
            due(12, "still pure", x.told(4), 1);
            for (int t : beyond(0, pairs - 1)) {
                due(12, "turn(" + t + ") of length " + n, x.turn(t), UNKNOWN);
            }
            due(12, "told(2)", x.told(2), rings - 1);
        }
    }

    private static void turnRefused() {
        for (int t : beyond(0, 3)) {
            still(12, "turn(" + t + ")", PURE, x -> x.turn(t), UNKNOWN);
            still(12, "turn(" + t + "): UNKNOWN comes first", MIXED, x -> x.turn(t), UNKNOWN);
        }
        for (int t = 0; t < 4; t++) {
            int pair = t;
            still(12, "turn(" + t + ") of one that is not pure", MIXED, x -> x.turn(pair), STATE);
        }
        for (int s = 0; s < 8; s++) {
            int alike = s;
            still(12, "turn(0) where pair " + s / 2 + " is alike", () -> turningBut(alike), x -> x.turn(0), STATE);
        }
    }

    /** Pure but for the pair of s. */
    private static BitRings turningBut(int s) {
        BitRings x = linearOf(3, 1, 0);
        x.set(s, 1 - s % 2);
        return x;
    }

    // ---- promise 13

    private static void joinOneByOne() {
        BitRings x = pureScene();
        due(13, "join()", x.join(), 3);
        // pair 2 is left: its partners are on two rings at first, but on one by then
        dueText(13, "feedback", feedbacks(x), "10100110");
        dueText(13, "sheets behind join", sheets(x), sheets(pureScene()));
        due(13, "trace() behind join", x.trace(), pureScene().trace());
    }

    private static void joinAtTheEnds() {
        for (int n = 2; n <= 9; n++) {
            BitRings x = linearOf(n, 1, 0);
            due(13, "join() of length " + n, x.join(), RINGS_OF_TURNING[n - 2] - 1);
            due(13, "one ring", x.told(2), 1);
            due(13, "of all states", x.ring(0, 0), 1 << n);
            due(13, "still pure", x.told(4), 1);
            due(13, "none is left to join", x.join(), 0);
            due(13, "one ring", x.told(2), 1);
        }
        still(13, "join() of one ring", () -> preferringOf(3, 1), x -> x.join(), 0);
        still(13, "join() of one that is not pure", MIXED, x -> x.join(), STATE);
        for (int s = 0; s < 8; s++) {
            int alike = s;
            still(13, "join() where pair " + s / 2 + " is alike", () -> turningBut(alike), x -> x.join(), STATE);
        }
    }

    private static void joinKeepsFault() {
        BitRings x = pureScene();
        x.sheet(0, 0, -1);
        x.join();
        x.turn(0);
        x.ways();
        x.prefer(0);
        x.linear(1, 0);
        due(13, "fault() behind calls that name none", x.fault(), 4);
    }

    // ---- promise 14

    private static void waysCounted() {
        for (int n = 2; n <= 9; n++) {
            due(14, "ways() of length " + n, linearOf(n, 1, 0).ways(), WAYS_OF_TURNING[n - 2]);
            due(14, "ways() of one ring", preferringOf(n, 1).ways(), 1);
        }
        still(14, "ways()", PURE, x -> x.ways(), 2);
        still(14, "ways() again", PURE, x -> x.ways() * 10 + x.ways(), 22);
        still(14, "ways() of one that is not pure", MIXED, x -> x.ways(), STATE);
        for (int s = 0; s < 8; s++) {
            int alike = s;
            still(14, "ways() where pair " + s / 2 + " is alike", () -> turningBut(alike), x -> x.ways(), STATE);
        }
    }

    private static void waysFollowChanges() {
        BitRings x = linearOf(4, 1, 0);
        due(14, "ways()", x.ways(), 12);
        x.turn(0);
        due(14, "ways() behind turn", x.ways(), 12);
        x.join();
        due(14, "ways() behind join", x.ways(), 1);
        x.linear(1, 0);
        due(14, "ways() behind linear", x.ways(), 12);
        x.length(3);
        x.linear(1, 0);
        due(14, "ways() of a smaller one", x.ways(), 2);
    }

    private static void waysOnOneObject() {
        int[] lengths = {2, 3, 4, 5, 6, 7, 8, 9, 8, 7, 6, 5, 4, 3, 2};
        BitRings x = new BitRings();
        for (int n : lengths) {
            x.length(n);
            x.linear(1, 0);
            due(14, "ways() of length " + n + " behind others", x.ways(), WAYS_OF_TURNING[n - 2]);
        }
    }

    // ---- promises 12 to 14 for all small pure registers

    /** The bit t of turned tells whether the even one of pair t has feedback 1. */
    private static BitRings pureOf(int n, int turned) {
        BitRings x = linearOf(n, 1, 0);
        for (int t = 0; t < 1 << (n - 1); t++) {
            if ((turned >> t & 1) == 1) {
                x.turn(t);
            }
        }
        return x;
    }

    private static void allSmallPure() {
        for (int n = 2; n <= 4; n++) {
            for (int turned = 0; turned < 1 << (1 << (n - 1)); turned++) {
                String name = " of length " + n + ", turned " + turned;
                due(14, "ways()" + name, pureOf(n, turned).ways(), waysByTurning(n, turned));
                joinsAsTold(name, pureOf(n, turned), pureOf(n, turned));
                turnsJoinOrPart(name, n, turned);
            }
        }
    }

    /** Goes through all sets of pairs, one turn each: what turn() answers is how many rings a set leaves. */
    private static int waysByTurning(int n, int turned) {
        BitRings x = pureOf(n, turned);
        int wanted = x.told(2) - 1;
        int found = wanted == 0 ? 1 : 0;
        int set = 0;
        for (int j = 1; j < 1 << (1 << (n - 1)); j++) {
            int t = Integer.numberOfTrailingZeros(j);
            set ^= 1 << t;
            int rings = x.turn(t);
            found += rings == 1 && Integer.bitCount(set) == wanted ? 1 : 0;
        }
        return found;
    }

    private static void joinsAsTold(String name, BitRings x, BitRings byHand) {
        int turns = 0;
        int rings = x.told(2);
        for (int t = 0; t < byHand.told(1) / 2; t++) {
            if (byHand.about(2 * t, 0) != byHand.about(2 * t + 1, 0)) {
                byHand.turn(t);
                turns++;
            }
        }
        due(13, "join()" + name, x.join(), turns);
        due(13, "joins to one" + name, turns, rings - 1);
        dueText(13, "joined" + name, register(x), register(byHand));
    }

    private static void turnsJoinOrPart(String name, int n, int turned) {
        BitRings x = pureOf(n, turned);
        for (int t = 0; t < 1 << (n - 1); t++) {
            boolean apart = x.about(2 * t, 0) != x.about(2 * t + 1, 0);
            int rings = x.told(2);
            due(12, "turn(" + t + ")" + name, x.turn(t), apart ? rings - 1 : rings + 1);
            due(12, "turn(" + t + ") back" + name, x.turn(t), rings);
        }
    }

    /** Of greater length, for each pure register whose feedback is a sum. */
    private static void joinEachLinear() {
        for (int n = 5; n <= 7; n++) {
            for (int mask = 1; mask < 1 << n; mask += 2) {
                int one = mask / 2 % 2;
                joinsAsTold(" of linear(" + mask + ", " + one + ")", linearOf(n, mask, one), linearOf(n, mask, one));
            }
        }
    }

    // ---- promise 15

    private static void preferAtTheEnds() {
        for (int n = 2; n <= 9; n++) {
            int last = (1 << n) - 1;
            BitRings x = linearOf(n, 1, 0);
            due(15, "prefer(1)", x.prefer(1), 1 << (n - 1));
            due(15, "the first step", x.step(0, 1), 1 << (n - 1));
            due(15, "ones as long as can be", x.step(0, n), last);
            due(15, "then the other", x.step(0, n + 1), last / 2);
            due(15, "the last state leads to the first", x.step(1, 1), 0);
            due(15, "all states", x.ring(0, 0), 1 << n);
            due(15, "prefer(0)", x.prefer(0), 1 << (n - 1));
            due(15, "the first step", x.step(last, 1), last / 2);
            due(15, "zeros as long as can be", x.step(last, n), 0);
            due(15, "then the other", x.step(last, n + 1), 1 << (n - 1));
            due(15, "the last state leads to the first", x.step(last - 1, 1), last);
            due(15, "all states", x.ring(0, 0), 1 << n);
        }
    }

    /** All feedbacks are written, whatever they were. */
    private static void preferOverAnything() {
        for (int n = 2; n <= 7; n++) {
            for (int b = 0; b < 2; b++) {
                String want = feedbacks(preferringOf(n, b));
                for (int one = 0; one < 2; one++) {
                    BitRings x = linearOf(n, 0, one);
                    due(15, "prefer(" + b + ")", x.prefer(b), 1 << (n - 1));
                    dueText(15, "over all " + one, feedbacks(x), want);
                }
            }
        }
    }

    private static void preferWrittenOut() {
        dueText(15, "2, 1", feedbacks(preferringOf(2, 1)), "1010");
        dueText(15, "2, 0", feedbacks(preferringOf(2, 0)), "1010");
        dueText(15, "3, 1", feedbacks(preferringOf(3, 1)), "10011010");
        dueText(15, "3, 0", feedbacks(preferringOf(3, 0)), "10100110");
        dueText(15, "4, 1", feedbacks(preferringOf(4, 1)), "1001100110011010");
    }

    private static void preferForgetsWhatWas() {
        for (int b = 0; b < 2; b++) {
            BitRings x = mixedScene();
            x.prefer(b);
            dueText(15, "behind other feedback", register(x), register(preferringOf(3, b)));
            dueText(15, "sheets behind prefer", sheets(x), sheets(mixedScene()));
            due(15, "trace() behind prefer", x.trace(), mixedScene().trace());
        }
        for (int b : beyond(0, 1)) {
            still(15, "prefer(" + b + ")", MIXED, x -> x.prefer(b), OUTSIDE);
            still(15, "prefer(" + b + ")", PURE, x -> x.prefer(b), OUTSIDE);
        }
    }

    public static void main(String[] args) {
        newObject();
        objectsShareNothing();
        lengthsAllowed();
        lengthsOutside();
        lengthClearsFeedback();
        lengthLeavesTheRest();
        setAtTheEnds();
        setRefused();
        linearAtTheEnds();
        linearOfEachBit();
        linearRefused();
        takeAtTheEnds();
        takeNone();
        takeTheFullest();
        takeIsSeenInRings();
        takeRefused();
        takeCast();
        takeFaults();
        feedbackAtTheEnds();
        stepsByHalves();
        stepsAroundTheRing();
        stepsFromBehind();
        stepRefused();
        backByTwoOneNone();
        backAtTheEnds();
        backRefused();
        aboutEachState();
        aboutTheFarthest();
        aboutRefused();
        ringsInOrder();
        ringsAtTheEnds();
        toldEach();
        pureToTheLastPair();
        turnAtTheEnds();
        turnRefused();
        joinOneByOne();
        joinAtTheEnds();
        joinKeepsFault();
        waysCounted();
        waysFollowChanges();
        waysOnOneObject();
        allSmallPure();
        joinEachLinear();
        preferAtTheEnds();
        preferOverAnything();
        preferWrittenOut();
        preferForgetsWhatWas();
        end();
    }
}
