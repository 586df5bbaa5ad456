import java.util.Arrays;

/** Each promise by hand: ordinary inputs, the edges that the document names, wrong inputs and their order. */
public final class PromiseTests extends Checks {
    private static void newObject() {
        BitRings x = new BitRings();
        due(1, "told(0)", x.told(0), 3);
        due(1, "told(1)", x.told(1), 8);
        dueText(1, "feedback", feedbacks(x), "00000000");
        due(1, "trace()", x.trace(), 0);
        due(1, "fault()", x.fault(), 0);
        for (int k = 0; k < 4; k++) {
            due(1, "lose", x.lose(k), 0);
        }
        BitRings y = new BitRings();
        x.set(0, 1);
        due(1, "another object's feedback", y.feedback(0), 0);
    }

    private static void length() {
        BitRings x = new BitRings();
        x.set(5, 1);
        for (int n : new int[] {1, 0, -1, 10, Integer.MIN_VALUE, Integer.MAX_VALUE}) {
            due(2, "length", x.length(n), OUTSIDE);
        }
        due(2, "feedback(5) kept", x.feedback(5), 1);
        due(2, "length(3)", x.length(3), 3);
        dueText(2, "feedback", feedbacks(x), "00000000");
        due(2, "length(9)", x.length(9), 3);
        due(2, "told(1)", x.told(1), 512);
        due(2, "set(511, 1)", x.set(511, 1), 0);
        due(2, "length(2)", x.length(2), 9);
        due(2, "told(1)", x.told(1), 4);
        due(2, "length(9)", x.length(9), 2);
        due(2, "feedback(511)", x.feedback(511), 0);
        x.linear(1, 0);
        due(2, "told(2)", x.told(2), 60);
        x.length(9);
        due(2, "told(2) behind length", x.told(2), 1);
    }

    private static void set() {
        BitRings x = new BitRings();
        due(3, "set(7, 1)", x.set(7, 1), 0);
        due(3, "set(7, 1)", x.set(7, 1), 1);
        due(3, "set(7, 0)", x.set(7, 0), 1);
        due(3, "set(7, 0)", x.set(7, 0), 0);
        due(3, "set(8, 1)", x.set(8, 1), UNKNOWN);
        due(3, "set(-1, 1)", x.set(-1, 1), UNKNOWN);
        due(3, "set(-1, 2)", x.set(-1, 2), UNKNOWN);
        due(3, "set(0, 2)", x.set(0, 2), OUTSIDE);
        due(3, "set(0, -1)", x.set(0, -1), OUTSIDE);
        dueText(3, "feedback", feedbacks(x), "00000000");
        due(3, "told(2)", x.told(2), 1);
        x.set(7, 1);
        due(3, "told(2) behind set", x.told(2), 2);
    }

    private static void linear() {
        BitRings x = new BitRings();
        due(4, "linear(5, 0)", x.linear(5, 0), 4);
        dueText(4, "feedback", feedbacks(x), "01011010");
        due(4, "linear(5, 1)", x.linear(5, 1), 4);
        dueText(4, "feedback", feedbacks(x), "10100101");
        due(4, "linear(8, 0)", x.linear(8, 0), OUTSIDE);
        due(4, "linear(-1, 0)", x.linear(-1, 0), OUTSIDE);
        due(4, "linear(1, 2)", x.linear(1, 2), OUTSIDE);
        due(4, "linear(1, -1)", x.linear(1, -1), OUTSIDE);
        dueText(4, "feedback kept", feedbacks(x), "10100101");
        due(4, "linear(0, 0)", x.linear(0, 0), 0);
        due(4, "linear(0, 1)", x.linear(0, 1), 8);
        due(4, "linear(7, 0)", x.linear(7, 0), 4);
        dueText(4, "feedback", feedbacks(x), "01101001");
    }

    private static void take() {
        BitRings x = new BitRings();
        putBits(x, 0, 1, "1101101101");
        due(5, "take all", x.take(0, 1, 2, 8, 0), 8);
        dueText(5, "feedback", feedbacks(x), "01101101");
        due(5, "take some", x.take(0, 1, 0, 2, 6), 2);
        dueText(5, "feedback", feedbacks(x), "01101111");
        due(5, "take none", x.take(0, 1, 0, 0, 0), 0);
        due(5, "take none at the end", x.take(0, 1, 10, 0, 7), 0);
        dueText(5, "feedback", feedbacks(x), "01101111");
        due(5, "sheet -1", x.take(-1, 9, -1, -1, 0), UNKNOWN);
        due(5, "sheet 4", x.take(4, 1, 0, 1, 0), UNKNOWN);
        due(5, "s 8", x.take(0, 9, 0, 1, 8), UNKNOWN);
        due(5, "s -1", x.take(0, 1, 0, 1, -1), UNKNOWN);
        due(5, "lane 3", x.take(1, 3, -1, -1, 0), OUTSIDE);
        due(5, "lane -1", x.take(0, -1, 0, 1, 0), OUTSIDE);
        due(5, "fault()", x.fault(), 0);
        due(5, "other lane", x.take(0, 2, -1, -1, 0), CAST);
        due(5, "nothing", x.take(1, 2, -1, -1, 0), NULL);
        due(5, "fault()", x.fault(), 1);
        due(5, "k -1", x.take(0, 1, -1, -1, 0), SIZE);
        due(5, "i -1", x.take(0, 1, -1, 1, 0), INDEX);
        due(5, "cells", x.take(0, 1, 3, 8, 0), INDEX);
        due(5, "states", x.take(0, 1, 0, 2, 7), INDEX);
        due(5, "far", x.take(0, 1, Integer.MAX_VALUE, Integer.MAX_VALUE, 0), INDEX);
        due(5, "fault()", x.fault(), 3);
        dueText(5, "feedback kept", feedbacks(x), "01101111");
        due(5, "fault() cleared", x.take(0, 1, 0, 1, 0) + x.fault(), 1);
        x.put(0, 0, -2);
        x.put(0, 1, -1);
        x.take(0, 1, 0, 2, 0);
        due(5, "lowest bit of -2", x.feedback(0), 0);
        due(5, "lowest bit of -1", x.feedback(1), 1);
    }

    private static void feedback() {
        BitRings x = registerOf(9, 511, 256);
        due(6, "feedback(511)", x.feedback(511), 1);
        due(6, "feedback(255)", x.feedback(255), 0);
        due(6, "feedback(512)", x.feedback(512), UNKNOWN);
        due(6, "feedback(-1)", x.feedback(-1), UNKNOWN);
        due(6, "feedback", x.feedback(Integer.MIN_VALUE), UNKNOWN);
    }

    private static void step() {
        BitRings x = linearOf(3, 1, 1);
        due(7, "step(0, 0)", x.step(0, 0), 0);
        due(7, "step(0, 1)", x.step(0, 1), 4);
        due(7, "step(0, 2)", x.step(0, 2), 6);
        due(7, "step(0, 3)", x.step(0, 3), 7);
        due(7, "step(0, 6)", x.step(0, 6), 0);
        due(7, "step(0, Long.MAX)", x.step(0, Long.MAX_VALUE), 4);
        due(7, "step(8, -1)", x.step(8, -1), UNKNOWN);
        due(7, "step(-1, 0)", x.step(-1, 0), UNKNOWN);
        due(7, "step(0, -1)", x.step(0, -1), OUTSIDE);
        due(7, "step(0, Long.MIN)", x.step(0, Long.MIN_VALUE), OUTSIDE);
        BitRings shifts = registerOf(9);
        due(7, "behind", shifts.step(511, 8), 1);
        due(7, "at the ring", shifts.step(511, 9), 0);
        due(7, "on the ring", shifts.step(511, Long.MAX_VALUE), 0);
    }

    private static void back() {
        BitRings x = new BitRings();
        due(8, "back(0, -1)", x.back(0, -1), 2);
        due(8, "back(0, 0)", x.back(0, 0), 0);
        due(8, "back(0, 1)", x.back(0, 1), 1);
        due(8, "back(3, 0)", x.back(3, 0), 6);
        due(8, "back(3, 1)", x.back(3, 1), 7);
        due(8, "back(4, -1)", x.back(4, -1), 0);
        due(8, "back(4, 0)", x.back(4, 0), UNKNOWN);
        due(8, "back(4, 1)", x.back(4, 1), UNKNOWN);
        x.set(6, 1);
        due(8, "back(3, -1)", x.back(3, -1), 1);
        due(8, "back(3, 0)", x.back(3, 0), 7);
        due(8, "back(3, 1)", x.back(3, 1), UNKNOWN);
        due(8, "back(7, 0)", x.back(7, 0), 6);
        due(8, "back(7, 1)", x.back(7, 1), UNKNOWN);
        due(8, "back(8, 5)", x.back(8, 5), UNKNOWN);
        due(8, "back(-1, 0)", x.back(-1, 0), UNKNOWN);
        due(8, "back(0, 2)", x.back(0, 2), OUTSIDE);
        due(8, "back(4, -2)", x.back(4, -2), OUTSIDE);
    }

    private static void about() {
        // 0 -> 0; 7 -> 3 -> 5 -> 2 -> 5, and 4, 1, 6 lead on: 4 -> 2, 1 -> 0, 6 -> 3
        BitRings x = registerOf(3, 3, 2);
        due(9, "ring of 0", x.about(0, 0), 0);
        due(9, "ring of 2", x.about(2, 0), 1);
        due(9, "ring of 7", x.about(7, 0), 1);
        due(9, "ring of 1", x.about(1, 0), 0);
        due(9, "behind of 7", x.about(7, 1), 2);
        due(9, "behind of 5", x.about(5, 1), 0);
        due(9, "behind of 1", x.about(1, 1), 1);
        due(9, "place of 2", x.about(2, 2), 0);
        due(9, "place of 5", x.about(5, 2), 1);
        due(9, "place of 7", x.about(7, 2), 1);
        due(9, "place of 4", x.about(4, 2), 0);
        due(9, "partner of 7", x.about(7, 3), 6);
        due(9, "partner of 0", x.about(0, 3), 1);
        due(9, "state 8", x.about(8, 9), UNKNOWN);
        due(9, "state -1", x.about(-1, 0), UNKNOWN);
        due(9, "what 4", x.about(0, 4), OUTSIDE);
        due(9, "what -1", x.about(0, -1), OUTSIDE);
    }

    private static void ring() {
        BitRings x = registerOf(3, 3, 2);
        due(10, "long 0", x.ring(0, 0), 1);
        due(10, "long 1", x.ring(1, 0), 2);
        due(10, "least 0", x.ring(0, 1), 0);
        due(10, "least 1", x.ring(1, 1), 2);
        due(10, "ones 0", x.ring(0, 2), 0);
        due(10, "ones 1", x.ring(1, 2), 1);
        due(10, "behind 0", x.ring(0, 3), 1);
        due(10, "behind 1", x.ring(1, 3), 4);
        due(10, "ring 2", x.ring(2, 9), UNKNOWN);
        due(10, "ring -1", x.ring(-1, 0), UNKNOWN);
        due(10, "ring far", x.ring(Integer.MAX_VALUE, 0), UNKNOWN);
        due(10, "what 4", x.ring(0, 4), OUTSIDE);
        due(10, "what -1", x.ring(1, -1), OUTSIDE);
    }

    private static void told() {
        BitRings x = registerOf(3, 3, 2);
        int[] want = {3, 8, 2, 3, 0, 2, 2, 4};
        for (int what = 0; what < want.length; what++) {
            due(11, "told(" + what + ")", x.told(what), want[what]);
        }
        due(11, "told(-1)", x.told(-1), OUTSIDE);
        due(11, "told(8)", x.told(8), OUTSIDE);
        BitRings pure = linearOf(9, 1, 0);
        int[] wantPure = {9, 512, 60, 512, 1, 256, 0, 0};
        for (int what = 0; what < wantPure.length; what++) {
            due(11, "pure told(" + what + ")", pure.told(what), wantPure[what]);
        }
    }

    private static void turn() {
        BitRings x = linearOf(3, 1, 0);
        due(12, "turn(0)", x.turn(0), 3);
        dueText(12, "feedback", feedbacks(x), "10010101");
        due(12, "turn(0)", x.turn(0), 4);
        dueText(12, "feedback", feedbacks(x), "01010101");
        due(12, "turn(3)", x.turn(3), 3);
        due(12, "turn(4)", x.turn(4), UNKNOWN);
        due(12, "turn(-1)", x.turn(-1), UNKNOWN);
        dueText(12, "feedback", feedbacks(x), "01010110");
        x.set(0, 1);
        due(12, "not pure", x.turn(0), STATE);
        due(12, "not pure, unknown", x.turn(4), UNKNOWN);
        dueText(12, "feedback kept", feedbacks(x), "11010110");
    }

    private static void join() {
        BitRings x = linearOf(3, 1, 0);
        due(13, "join()", x.join(), 3);
        // rings 0; 1 4 2; 3 5 6; 7: the pairs 0, 1 and 3 join them, while those of 2 are on one ring by then
        dueText(13, "feedback", feedbacks(x), "10100110");
        due(13, "told(2)", x.told(2), 1);
        due(13, "ring(0, 0)", x.ring(0, 0), 8);
        due(13, "join() again", x.join(), 0);
        BitRings big = linearOf(9, 1, 0);
        due(13, "join() of 60 rings", big.join(), 59);
        due(13, "told(2)", big.told(2), 1);
        x.set(0, 0);
        due(13, "not pure", x.join(), STATE);
        dueText(13, "feedback kept", feedbacks(x), "00100110");
    }

    private static void ways() {
        due(14, "one ring", linearOf(2, 1, 1).ways(), 1);
        due(14, "n 3", linearOf(3, 1, 0).ways(), 2);
        due(14, "n 5", linearOf(5, 1, 0).ways(), 576);
        due(14, "n 9", linearOf(9, 1, 0).ways(), 933761);
        BitRings x = linearOf(4, 1, 0);
        String before = feedbacks(x);
        due(14, "n 4", x.ways(), 12);
        due(14, "n 4 again", x.ways(), 12);
        dueText(14, "feedback kept", feedbacks(x), before);
        x.set(0, 1);
        due(14, "not pure", x.ways(), STATE);
    }

    private static void prefer() {
        BitRings x = new BitRings();
        due(15, "prefer(1)", x.prefer(1), 4);
        // 0 4 6 7 3 5 2 1
        int[] ones = {0, 4, 6, 7, 3, 5, 2, 1};
        for (int k = 0; k < ones.length; k++) {
            due(15, "step(0, " + k + ")", x.step(0, k), ones[k]);
        }
        due(15, "prefer(0)", x.prefer(0), 4);
        for (int k = 0; k < ones.length; k++) {
            due(15, "step(7, " + k + ")", x.step(7, k), 7 - ones[k]);
        }
        String before = feedbacks(x);
        due(15, "prefer(2)", x.prefer(2), OUTSIDE);
        due(15, "prefer(-1)", x.prefer(-1), OUTSIDE);
        dueText(15, "feedback kept", feedbacks(x), before);
        for (int n = 2; n <= 9; n++) {
            x.length(n);
            for (int b = 0; b < 2; b++) {
                due(15, "prefer", x.prefer(b), 1 << (n - 1));
                due(15, "one ring", x.ring(0, 0), 1 << n);
            }
        }
    }

    private static void sheet() {
        BitRings x = new BitRings();
        due(16, "sheet", x.sheet(0, 0, 600), 1);
        due(16, "last cell", x.put(0, 599, 5), 1);
        due(16, "beyond", x.put(0, 600, 5), INDEX);
        due(16, "new row", x.sheet(0, 2, 600), 1);
        due(16, "at 0 again", x.at(0, 599, 2), 0);
        due(16, "none", x.sheet(3, 1, 0), 1);
        due(16, "no cell", x.put(3, 0, 5), INDEX);
        x.put(0, 0, 7);
        due(16, "sheet -1", x.sheet(-1, 3, -1), UNKNOWN);
        due(16, "sheet 4", x.sheet(4, 0, 1), UNKNOWN);
        due(16, "lane 3", x.sheet(0, 3, -1), OUTSIDE);
        due(16, "lane -1", x.sheet(0, -1, 1), OUTSIDE);
        due(16, "n 601", x.sheet(0, 0, 601), OUTSIDE);
        due(16, "fault()", x.fault(), 0);
        due(16, "n -1", x.sheet(0, 0, -1), SIZE);
        due(16, "n least", x.sheet(0, 0, Integer.MIN_VALUE), SIZE);
        due(16, "fault()", x.fault(), 4);
        due(16, "row kept", x.at(0, 0, 2), 7);
    }

    private static void lose() {
        BitRings x = new BitRings();
        due(17, "nothing", x.lose(2), 0);
        x.sheet(2, 0, 0);
        due(17, "empty row", x.lose(2), 1);
        due(17, "again", x.lose(2), 0);
        due(17, "put", x.put(2, 0, 1), NULL);
        due(17, "lose(-1)", x.lose(-1), UNKNOWN);
        due(17, "lose(4)", x.lose(4), UNKNOWN);
        due(17, "fault() kept", x.fault(), 1);
    }

    private static void put() {
        BitRings x = new BitRings();
        for (int lane = 0; lane < 3; lane++) {
            x.sheet(lane, lane, 3);
            due(18, "put", x.put(lane, 1, 0x1234567890abcdefL), 1);
        }
        due(18, "byte", x.at(0, 1, 0), (byte) 0xef);
        due(18, "int", x.at(1, 1, 1), 0x90abcdef);
        due(18, "long", x.at(2, 1, 2), 0x1234567890abcdefL);
        due(18, "others kept", x.at(2, 0, 2) + x.at(2, 2, 2), 0);
        due(18, "put(-1)", x.put(-1, 0, 1), UNKNOWN);
        due(18, "put(4)", x.put(4, -1, 1), UNKNOWN);
        due(18, "nothing", x.put(3, -1, 1), NULL);
        due(18, "i -1", x.put(0, -1, 1), INDEX);
        due(18, "i 3", x.put(0, 3, 1), INDEX);
        due(18, "fault()", x.fault(), 3);
        due(18, "put", x.put(0, 2, 128), 1);
        due(18, "fault()", x.fault(), 0);
        due(18, "128 as a byte", x.at(0, 2, 0), -128);
    }

    private static void at() {
        BitRings x = new BitRings();
        x.sheet(1, 2, 2);
        x.put(1, 1, Long.MAX_VALUE);
        due(19, "at", x.at(1, 1, 2), Long.MAX_VALUE);
        due(19, "sheet 4", x.at(4, 0, 2), LOST);
        due(19, "sheet -1", x.at(-1, 0, 2), LOST);
        due(19, "lane 3", x.at(1, 0, 3), LOST);
        due(19, "lane -1", x.at(1, 0, -1), LOST);
        due(19, "fault()", x.fault(), 0);
        due(19, "other lane", x.at(1, 9, 0), LOST);
        due(19, "fault()", x.fault(), 2);
        due(19, "refused", x.at(1, 0, 3), LOST);
        due(19, "fault() of one refused", x.fault(), 0);
        due(19, "nothing", x.at(0, 9, 0), LOST);
        due(19, "fault()", x.fault(), 1);
        due(19, "i 2", x.at(1, 2, 2), LOST);
        due(19, "fault()", x.fault(), 3);
        due(19, "i -1", x.at(1, -1, 2), LOST);
        due(19, "fault()", x.fault(), 3);
        due(19, "at", x.at(1, 0, 2), 0);
        due(19, "fault()", x.fault(), 0);
    }

    private static void out() {
        BitRings x = linearOf(3, 1, 1);
        x.sheet(0, 1, 8);
        x.put(0, 0, 9);
        x.put(0, 7, 9);
        due(20, "out", x.out(0, 0, 1, 6), 0);
        dueText(20, "cells", cells(x, 0, 1, 8), "9 0 0 0 1 1 1 9");
        due(20, "none", x.out(5, 0, 8, 0), 5);
        due(20, "sheet 4", x.out(0, 4, 0, 1), UNKNOWN);
        due(20, "sheet -1", x.out(0, -1, 0, 1), UNKNOWN);
        due(20, "s 8", x.out(8, 1, -1, -1), UNKNOWN);
        due(20, "s -1", x.out(-1, 0, 0, 1), UNKNOWN);
        due(20, "fault()", x.fault(), 0);
        due(20, "nothing", x.out(0, 1, -1, -1), NULL);
        due(20, "n -1", x.out(0, 0, -1, -1), SIZE);
        due(20, "fault()", x.fault(), 4);
        due(20, "i -1", x.out(0, 0, -1, 2), INDEX);
        due(20, "too many", x.out(7, 0, 0, 9), INDEX);
        due(20, "far", x.out(7, 0, Integer.MAX_VALUE, Integer.MAX_VALUE), INDEX);
        dueText(20, "cells kept", cells(x, 0, 1, 8), "9 0 0 0 1 1 1 9");
    }

    private static void thin() {
        BitRings x = new BitRings();
        x.sheet(0, 0, 7);
        for (int i = 0; i < 7; i++) {
            x.put(0, i, 10 + i);
        }
        x.sheet(1, 2, 100);
        due(21, "thin by 3", x.thin(0, 3, 1), 3);
        dueText(21, "cells", cells(x, 1, 0, 3), "10 13 16");
        due(21, "only 3", x.at(1, 3, 0), LOST);
        due(21, "thin by 1", x.thin(0, 1, 2), 7);
        due(21, "thin by 600", x.thin(2, 600, 3), 1);
        due(21, "the same", x.thin(0, 2, 0), 4);
        dueText(21, "cells", cells(x, 0, 0, 4), "10 12 14 16");
        due(21, "from 4", x.thin(4, 0, 1), UNKNOWN);
        due(21, "to -1", x.thin(0, 0, -1), UNKNOWN);
        due(21, "d 0", x.thin(0, 0, 1), OUTSIDE);
        due(21, "d -1", x.thin(0, -1, 1), OUTSIDE);
        due(21, "d 601", x.thin(0, 601, 1), OUTSIDE);
        due(21, "fault()", x.fault(), 0);
        x.lose(3);
        due(21, "d 0 of nothing", x.thin(3, 0, 1), OUTSIDE);
        due(21, "nothing", x.thin(3, 1, 1), NULL);
        due(21, "fault()", x.fault(), 1);
        dueText(21, "cells kept", cells(x, 1, 0, 3), "10 13 16");
        x.sheet(2, 1, 0);
        due(21, "an empty row", x.thin(2, 5, 1), 0);
        due(21, "is a row", x.lose(1), 1);
    }

    private static void mix() {
        BitRings x = new BitRings();
        x.sheet(0, 2, 5);
        x.sheet(1, 2, 4);
        long[] a = {6, 7, 6, 7, 9};
        long[] b = {2, 2, 3, 3};
        for (int how = 0; how < 2; how++) {
            for (int i = 0; i < 5; i++) {
                x.put(0, i, a[i]);
            }
            for (int i = 0; i < 4; i++) {
                x.put(1, i, b[i]);
            }
            due(22, "mix", x.mix(0, 1, how), 4);
            dueText(22, "cells", cells(x, 0, 2, 5), how == 0 ? "0 1 1 0 9" : "0 0 0 1 9");
            dueText(22, "the other", cells(x, 1, 2, 4), "2 2 3 3");
        }
        due(22, "the longer one second", x.mix(1, 0, 0), 4);
        due(22, "with itself", x.mix(0, 0, 0), 5);
        dueText(22, "cells", cells(x, 0, 2, 5), "0 0 0 0 0");
        due(22, "a 4", x.mix(4, 0, 9), UNKNOWN);
        due(22, "b -1", x.mix(0, -1, 9), UNKNOWN);
        due(22, "how 2", x.mix(2, 3, 2), OUTSIDE);
        due(22, "how -1", x.mix(0, 1, -1), OUTSIDE);
        due(22, "first nothing", x.mix(2, 0, 0), NULL);
        due(22, "other nothing", x.mix(0, 2, 0), NULL);
        x.sheet(2, 0, 5);
        due(22, "lanes", x.mix(0, 2, 0), CAST);
        due(22, "fault()", x.fault(), 2);
        due(22, "mix", x.mix(0, 1, 0), 4);
        due(22, "fault()", x.fault(), 0);
    }

    private static void order() {
        BitRings x = new BitRings();
        putBits(x, 0, 0, "0001");
        due(23, "0001", x.order(0, 4), 4);
        due(23, "000", x.order(0, 3), 0);
        due(23, "none", x.order(0, 0), 0);
        putBits(x, 0, 0, "1111");
        due(23, "1111", x.order(0, 4), 1);
        putBits(x, 0, 1, "1000");
        due(23, "1000", x.order(0, 4), 1);
        putBits(x, 0, 2, "0110");
        due(23, "0110", x.order(0, 4), 2);
        putBits(x, 0, 0, "000100110101111");
        due(23, "a row of a linear register of 4", x.order(0, 15), 4);
        putBits(x, 0, 0, "001101110");
        due(23, "001101110", x.order(0, 9), 5);
        x.sheet(0, 0, 600);
        due(23, "600 zeros", x.order(0, 600), 0);
        x.put(0, 599, 1);
        due(23, "599 zeros and a one", x.order(0, 600), 600);
        x.put(0, 599, 0);
        x.put(0, 300, 1);
        due(23, "a one amid zeros", x.order(0, 600), 301);
        due(23, "sheet 4", x.order(4, -1), UNKNOWN);
        due(23, "sheet -1", x.order(-1, 0), UNKNOWN);
        due(23, "nothing", x.order(1, -1), NULL);
        due(23, "n -1", x.order(0, -1), INDEX);
        due(23, "n 601", x.order(0, 601), INDEX);
        due(23, "fault()", x.fault(), 3);
        due(23, "order", x.order(0, 1), 0);
        due(23, "fault()", x.fault(), 0);
    }

    private static void greatest() {
        BitRings x = new BitRings();
        putBits(x, 0, 0, "0001");
        due(24, "0001", x.greatest(0, 4), 3);
        due(24, "000", x.greatest(0, 3), 0);
        due(24, "0", x.greatest(0, 1), 0);
        due(24, "none", x.greatest(0, 0), 0);
        putBits(x, 0, 0, "01");
        due(24, "01", x.greatest(0, 2), 1);
        putBits(x, 0, 0, "010101");
        due(24, "010101", x.greatest(0, 6), 1);
        putBits(x, 0, 0, "00110011");
        due(24, "00110011", x.greatest(0, 8), 2);
        x.sheet(0, 0, 600);
        x.put(0, 599, 1);
        due(24, "599 zeros and a one", x.greatest(0, 600), 599);
        due(24, "sheet 4", x.greatest(4, -1), UNKNOWN);
        due(24, "sheet -1", x.greatest(-1, 0), UNKNOWN);
        due(24, "nothing", x.greatest(1, -1), NULL);
        due(24, "n -1", x.greatest(0, -1), INDEX);
        due(24, "n 601", x.greatest(0, 601), INDEX);
        due(24, "fault()", x.fault(), 3);
        due(24, "greatest", x.greatest(0, 1), 0);
        due(24, "fault()", x.fault(), 0);
    }

    private static void period() {
        BitRings x = new BitRings();
        String[] rows = {"0", "00", "01", "010", "0110", "01101", "011011", "0110110", "01101100", "1110"};
        int[] want = {1, 1, 2, 2, 3, 3, 3, 3, 7, 4};
        for (int j = 0; j < rows.length; j++) {
            putBits(x, 0, j % 3, rows[j]);
            due(25, rows[j], x.period(0), want[j]);
        }
        x.sheet(0, 0, 600);
        due(25, "600 zeros", x.period(0), 1);
        x.put(0, 599, 1);
        due(25, "599 zeros and a one", x.period(0), 600);
        due(25, "sheet 4", x.period(4), UNKNOWN);
        due(25, "sheet -1", x.period(-1), UNKNOWN);
        due(25, "nothing", x.period(1), NULL);
        due(25, "fault()", x.fault(), 1);
        x.sheet(1, 0, 0);
        due(25, "nothing in it", x.period(1), STATE);
        due(25, "fault()", x.fault(), 0);
    }

    private static void learn() {
        BitRings x = new BitRings();
        putBits(x, 0, 0, "0011101");
        due(26, "learn", x.learn(0), 3);
        // 001>1 011>1 111>0 110>1, the lowest bit first: states 4, 6, 7, 3
        dueText(26, "feedback", feedbacks(x), "00011010");
        putBits(x, 0, 1, "11111");
        due(26, "order 0", x.learn(0), 2);
        dueText(26, "feedback", feedbacks(x), "0001");
        putBits(x, 0, 2, "0101");
        due(26, "order 1", x.learn(0), 2);
        dueText(26, "feedback", feedbacks(x), "0100");
        putBits(x, 1, 0, "0000000001");
        due(26, "order 9", x.learn(1), 9);
        due(26, "feedback(0)", x.feedback(0), 1);
        due(26, "told(5)", x.told(5), 1);
        putBits(x, 1, 0, "00000000001");
        x.length(4);
        x.set(3, 1);
        due(26, "order 10", x.learn(1), STATE);
        due(26, "fault()", x.fault(), 0);
        due(26, "length kept", x.told(0), 4);
        due(26, "feedback kept", x.feedback(3), 1);
        due(26, "nothing", x.learn(3), NULL);
        due(26, "fault()", x.fault(), 1);
        due(26, "sheet 4", x.learn(4), UNKNOWN);
        due(26, "sheet -1", x.learn(-1), UNKNOWN);
        due(26, "fault()", x.fault(), 0);
        x.sheet(3, 0, 0);
        due(26, "no bits", x.learn(3), 2);
        dueText(26, "feedback", feedbacks(x), "0000");
    }

    private static void along() {
        BitRings x = linearOf(4, 9, 0);
        due(27, "by 0", x.along(1, 0), 15);
        for (int d = 1; d < 15; d++) {
            due(27, "by " + d, x.along(1, d), -1);
        }
        due(27, "by 15", x.along(1, 15), 15);
        due(27, "far", x.along(1, Integer.MAX_VALUE), -1);
        due(27, "ring of one", x.along(0, 7), 1);
        due(27, "ring 2", x.along(2, -1), UNKNOWN);
        due(27, "ring -1", x.along(-1, 0), UNKNOWN);
        due(27, "d -1", x.along(1, -1), OUTSIDE);
        BitRings six = linearOf(3, 1, 1);
        int[] want = {6, 2, -2, -6, -2, 2, 6};
        for (int d = 0; d < want.length; d++) {
            due(27, "000111 by " + d, six.along(0, d), want[d]);
        }
    }

    private static void tell() {
        BitRings x = registerOf(3, 3, 2);
        due(28, "alone", x.tell(0), 1);
        due(28, "trace()", x.trace(), 1);
        due(28, "longer", x.tell(5), 4);
        due(28, "trace()", x.trace(), (31 + 2) * 31 + 1);
        due(28, "behind by 2", x.tell(7), -1);
        due(28, "trace()", x.trace(), (1024 * 31 + 3) * 31 + 1);
        due(28, "behind by 1", x.tell(1), 0);
        int before = x.trace();
        due(28, "state 8", x.tell(8), UNKNOWN);
        due(28, "state -1", x.tell(-1), UNKNOWN);
        due(28, "trace() kept", x.trace(), before);
    }

    private static void weigh() {
        BitRings x = registerOf(3, 3, 2);
        due(29, "alone", x.weigh(0), 0);
        due(29, "trace()", x.trace(), 4);
        due(29, "longer", x.weigh(5), 5);
        due(29, "trace()", x.trace(), 4 * 31 + 4);
        due(29, "behind", x.weigh(7), 600);
        due(29, "trace()", x.trace(), 128 * 31 + 5);
        due(29, "state 8", x.weigh(8), UNKNOWN);
        due(29, "state -1", x.weigh(-1), UNKNOWN);
        due(29, "trace() kept", x.trace(), 128 * 31 + 5);
    }

    private static void as() {
        BitRings x = registerOf(3, 3, 2);
        int[] states = {0, 5, 7};
        int[][] want = {{1, CAST, CAST, 1}, {CAST, 1, CAST, 1}, {CAST, CAST, 1, CAST}};
        for (int j = 0; j < states.length; j++) {
            for (int kind = 0; kind < 4; kind++) {
                due(30, "as(" + states[j] + ", " + kind + ")", x.as(states[j], kind), want[j][kind]);
                due(30, "fault()", x.fault(), want[j][kind] == 1 ? 0 : 2);
            }
        }
        due(30, "as(7, 0)", x.as(7, 0), CAST);
        due(30, "as(8, 4)", x.as(8, 4), UNKNOWN);
        due(30, "fault()", x.fault(), 0);
        due(30, "as(-1, 0)", x.as(-1, 0), UNKNOWN);
        due(30, "as(0, 4)", x.as(0, 4), OUTSIDE);
        due(30, "as(0, -1)", x.as(0, -1), OUTSIDE);
        due(30, "trace()", x.trace(), 0);
    }

    private static void trace() {
        BitRings x = new BitRings();
        int want = 0;
        for (int j = 0; j < 20; j++) {
            x.tell(7);
            want = (want * 31 + 3) * 31 + 1;
            due(31, "trace()", x.trace(), want);
        }
        x.length(5);
        due(31, "trace() behind length", x.trace(), want);
        due(31, "trace() of another object", new BitRings().trace(), 0);
    }

    private static void fault() {
        BitRings x = new BitRings();
        due(32, "ahead of any", x.fault(), 0);
        x.put(0, 0, 1);
        due(32, "NULL", x.fault(), 1);
        // calls that name no faults leave it as it is, even when they are refused
        x.length(4);
        x.length(99);
        x.set(99, 1);
        x.linear(99, 1);
        x.feedback(99);
        x.step(0, -1);
        x.back(99, 0);
        x.about(0, 99);
        x.ring(0, 0);
        x.told(0);
        x.turn(0);
        x.join();
        x.ways();
        x.prefer(1);
        x.lose(0);
        x.lose(9);
        x.along(0, 0);
        x.tell(0);
        x.weigh(0);
        x.trace();
        due(32, "kept", x.fault(), 1);
        due(32, "kept by fault()", x.fault(), 1);
        clearedBy(x, x.take(9, 0, 0, 0, 0));
        clearedBy(x, x.sheet(9, 0, 0));
        clearedBy(x, x.put(9, 0, 0));
        clearedBy(x, x.at(9, 0, 0));
        clearedBy(x, x.out(0, 9, 0, 0));
        clearedBy(x, x.thin(9, 1, 0));
        clearedBy(x, x.mix(9, 0, 0));
        clearedBy(x, x.order(9, 0));
        clearedBy(x, x.greatest(9, 0));
        clearedBy(x, x.period(9));
        clearedBy(x, x.learn(9));
        clearedBy(x, x.as(99, 0));
        x.sheet(1, 0, -5);
        due(32, "SIZE", x.fault(), 4);
    }

    private static void clearedBy(BitRings x, long answer) {
        due(32, "cleared by one refused", x.fault(), 0);
        x.put(0, 0, 1);
        due(32, "NULL", x.fault(), 1);
    }

    private static void constants() {
        int[] got = {BitRings.UNKNOWN, BitRings.OUTSIDE, BitRings.STATE, BitRings.FULL, BitRings.NONE};
        dueText(0, "constants", Arrays.toString(got), "[-1, -2, -3, -4, -9]");
        due(0, "LOST", BitRings.LOST, Long.MIN_VALUE);
    }

    public static void main(String[] args) {
        constants();
        newObject();
        length();
        set();
        linear();
        take();
        feedback();
        step();
        back();
        about();
        ring();
        told();
        turn();
        join();
        ways();
        prefer();
        sheet();
        lose();
        put();
        at();
        out();
        thin();
        mix();
        order();
        greatest();
        period();
        learn();
        along();
        tell();
        weigh();
        as();
        trace();
        fault();
        end();
    }
}
