/**
 * What the tests share: the document's codes, a count of what was asked, scenes to begin from, and a look
 * at all that an object shows. An object is promised for 512 calls only, so looks are made on small scenes.
 */
class Checks {
    static final int UNKNOWN = -1, OUTSIDE = -2, STATE = -3;
    static final int NULL = -11, CAST = -12, INDEX = -13, SIZE = -14;
    static final long LOST = Long.MIN_VALUE;
    static final int LEAST = Integer.MIN_VALUE, MOST = Integer.MAX_VALUE;

    private static long asked = 0;
    private static long wrong = 0;

    interface Scene {
        BitRings made();
    }

    interface Call {
        long on(BitRings x);
    }

    static void due(int promise, String what, long got, long want) {
        asked++;
        if (got != want) {
            tellWrong(promise, what, String.valueOf(got), String.valueOf(want));
        }
    }

    static void dueText(int promise, String what, String got, String want) {
        asked++;
        if (!got.equals(want)) {
            tellWrong(promise, what, got, want);
        }
    }

    private static void tellWrong(int promise, String what, String got, String want) {
        wrong++;
        System.out.println("promise " + promise + ": " + what + " answered " + got + ", due is " + want);
    }

    static void end() {
        System.out.println(asked + " answers looked at, " + wrong + " wrong");
        if (wrong != 0) {
            System.exit(1);
        }
    }

    /** The numbers just beyond a span on both sides, and the farthest ones. */
    static int[] beyond(int low, int high) {
        return new int[] {LEAST, low - 1, high + 1, MOST};
    }

    // ---- scenes

    /** Rings {0} and {2, 5}; 1, 3, 4, 6, 7 are behind. Sheets of all lanes, sheet 3 has nothing. */
    static BitRings mixedScene() {
        BitRings x = registerOf(3, 2, 3);
        putCells(x, 0, 0, 1, -1, 44, 0, 127);
        putCells(x, 1, 1, 3, -2, MOST, 8);
        putCells(x, 2, 2, Long.MIN_VALUE, Long.MAX_VALUE, 6, 5, -1, 0);
        x.tell(7);
        return x;
    }

    /** Rings {0}, {1, 4, 2}, {3, 5, 6}, {7}. Sheet 0 has nothing, sheet 3 an empty row. */
    static BitRings pureScene() {
        BitRings x = linearOf(3, 1, 0);
        putBits(x, 1, 0, "0010111");
        putBits(x, 2, 1, "00000000001");
        x.sheet(3, 2, 0);
        x.weigh(5);
        return x;
    }

    static BitRings registerOf(int n, int... ones) {
        BitRings x = new BitRings();
        x.length(n);
        for (int s : ones) {
            x.set(s, 1);
        }
        return x;
    }

    static BitRings linearOf(int n, int mask, int one) {
        BitRings x = new BitRings();
        x.length(n);
        x.linear(mask, one);
        return x;
    }

    static BitRings preferringOf(int n, int b) {
        BitRings x = new BitRings();
        x.length(n);
        x.prefer(b);
        return x;
    }

    static void putCells(BitRings x, int k, int lane, long... values) {
        x.sheet(k, lane, values.length);
        for (int i = 0; i < values.length; i++) {
            x.put(k, i, values[i]);
        }
    }

    static void putBits(BitRings x, int k, int lane, String bits) {
        x.sheet(k, lane, bits.length());
        for (int i = 0; i < bits.length(); i++) {
            x.put(k, i, bits.charAt(i) - '0');
        }
    }

    static BitRings rowOf(String bits) {
        BitRings x = new BitRings();
        putBits(x, 0, 0, bits);
        return x;
    }

    // ---- looks

    static String cells(BitRings x, int k, int lane, int n) {
        StringBuilder text = new StringBuilder();
        for (int i = 0; i < n; i++) {
            text.append(x.at(k, i, lane)).append(' ');
        }
        return text.toString().trim();
    }

    static String feedbacks(BitRings x) {
        StringBuilder text = new StringBuilder();
        int states = x.told(1);
        for (int s = 0; s < states; s++) {
            text.append(x.feedback(s));
        }
        return text.toString();
    }

    /** The lane and all cells of a sheet, or that it has nothing. It leaves its own mark in fault(). */
    static String row(BitRings x, int k) {
        for (int lane = 0; lane < 3; lane++) {
            x.at(k, 0, lane);
            int fault = x.fault();
            if (fault == 1) {
                return "nothing";
            }
            if (fault != 2) {
                return lane + ":" + cellsToEnd(x, k, lane);
            }
        }
        return "of no lane";
    }

    private static String cellsToEnd(BitRings x, int k, int lane) {
        StringBuilder text = new StringBuilder();
        for (int i = 0; i <= 600; i++) {
            long cell = x.at(k, i, lane);
            // the least long is a fine cell too
            if (cell == LOST && x.fault() != 0) {
                return text.toString();
            }
            text.append(' ').append(cell);
        }
        return text + " and beyond";
    }

    static String register(BitRings x) {
        StringBuilder text = new StringBuilder(feedbacks(x));
        for (int what = 0; what < 8; what++) {
            text.append(' ').append(x.told(what));
        }
        return text.toString();
    }

    static String sheets(BitRings x) {
        return row(x, 0) + "; " + row(x, 1) + "; " + row(x, 2) + "; " + row(x, 3);
    }

    /** All that an object shows, but for fault(). */
    static String view(BitRings x) {
        return "register " + register(x) + "; trace " + x.trace() + "; sheets " + sheets(x);
    }

    // ---- calls that change nothing

    /** A call that names no faults and changes nothing: fault() too stays what it was. */
    static void still(int promise, String what, Scene scene, Call call, long want) {
        unchanged(promise, what, scene, call, want, 0);
        BitRings x = scene.made();
        x.sheet(0, 0, -1);
        due(promise, what + " behind a fault", call.on(x), want);
        due(promise, "fault() kept by " + what, x.fault(), 4);
        dueText(promise, "all that is shown behind " + what, view(x), view(scene.made()));
    }

    /** A call that names faults and changes nothing else: fault() becomes fault, whatever it was. */
    static void faulty(int promise, String what, Scene scene, Call call, long want, int fault) {
        unchanged(promise, what, scene, call, want, fault);
        for (int before : new int[] {1, 4}) {
            BitRings x = scene.made();
            leaveFault(x, before);
            due(promise, what + " behind a fault", call.on(x), want);
            due(promise, "fault() of " + what + " behind a fault", x.fault(), fault);
        }
    }

    /** A fault where an int is answered: its answer tells its number. */
    static void faults(int promise, String what, Scene scene, Call call, int answer) {
        faulty(promise, what, scene, call, answer, -10 - answer);
    }

    /** A refusal of a call that names faults. */
    static void refused(int promise, String what, Scene scene, Call call, int answer) {
        faulty(promise, what, scene, call, answer, 0);
    }

    private static void unchanged(int promise, String what, Scene scene, Call call, long want, int fault) {
        BitRings x = scene.made();
        due(promise, what, call.on(x), want);
        due(promise, "fault() of " + what, x.fault(), fault);
        dueText(promise, "all that is shown behind " + what, view(x), view(scene.made()));
    }

    /** By calls that change nothing but fault(): of 1, all sheets of the scene may have rows. */
    static void leaveFault(BitRings x, int fault) {
        if (fault == 4) {
            x.sheet(0, 0, -1);
            return;
        }
        for (int k = 0; k < 4 && x.fault() != fault; k++) {
            x.period(k);
        }
    }
}
