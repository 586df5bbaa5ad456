/** Promises 28 to 32, the terms of telling, refusals and faults, at the edges that their sentences name. */
public final class PartEdgeTests extends Checks {
    private static final Scene MIXED = Checks::mixedScene;
    private static final int CALLS = 512;

    private static int left(int trace, int... numbers) {
        int left = trace;
        for (int number : numbers) {
            left = 31 * left + number;
        }
        return left;
    }

    // ---- promise 28

    private static void tellEachKind() {
        int[] want = {1, 0, 4, 0, 0, 4, -1, -1};
        int[][] bodies = {{1}, {3, 1}, {2, 1}, {3, 1}, {3, 1}, {2, 1}, {3, 1}, {3, 1}};
        for (int s = 0; s < 8; s++) {
            BitRings x = mixedScene();
            int before = x.trace();
            x.sheet(0, 0, -1);
            due(28, "tell(" + s + ")", x.tell(s), want[s]);
            due(28, "trace() behind tell(" + s + ")", x.trace(), left(before, bodies[s]));
            due(28, "fault() behind tell", x.fault(), 4);
            dueText(28, "the register behind tell", register(x), register(mixedScene()));
            dueText(28, "sheets behind tell", sheets(x), sheets(mixedScene()));
        }
    }

    private static void tellAtTheEnds() {
        for (int n = 2; n <= 9; n++) {
            int last = (1 << n) - 1;
            BitRings zeros = registerOf(n);
            due(28, "alone, 0", zeros.tell(0), 1);
            due(28, "the farthest behind", zeros.tell(last), 1 - n);
            due(28, "the nearest behind", zeros.tell(1), 0);
            due(28, "alone, the last", linearOf(n, 0, 1).tell(last), 1);
            due(28, "on the longest", preferringOf(n, 1).tell(last), 2 + last + 1);
            // 0 1 0 1: the shortest of the longer ones
            int half = 0x155 >> (9 - n);
            due(28, "on one of two", linearOf(n, 1 << (n - 1), 1).tell(half), 4);
            for (int s : beyond(0, last)) {
                due(28, "tell(" + s + ") of length " + n, zeros.tell(s), UNKNOWN);
            }
            due(28, "trace()", zeros.trace(), left(0, 1, 3, 1, 3, 1));
        }
        for (int s : beyond(0, 7)) {
            still(28, "tell(" + s + ")", MIXED, x -> x.tell(s), UNKNOWN);
        }
    }

    // ---- promise 29

    private static void weighEachKind() {
        int[] want = {0, 600, 2, 600, 600, 5, 600, 600};
        for (int s = 0; s < 8; s++) {
            BitRings x = mixedScene();
            int before = x.trace();
            x.sheet(0, 0, -1);
            due(29, "weigh(" + s + ")", x.weigh(s), want[s]);
            due(29, "trace() behind weigh(" + s + ")", x.trace(), left(before, want[s] == 600 ? 5 : 4));
            due(29, "fault() behind weigh", x.fault(), 4);
            dueText(29, "the register behind weigh", register(x), register(mixedScene()));
            dueText(29, "sheets behind weigh", sheets(x), sheets(mixedScene()));
        }
        for (int s : beyond(0, 7)) {
            still(29, "weigh(" + s + ")", MIXED, x -> x.weigh(s), UNKNOWN);
        }
    }

    private static void weighAtTheEnds() {
        for (int n = 2; n <= 9; n++) {
            int last = (1 << n) - 1;
            due(29, "0 on a ring", registerOf(n).weigh(0), 0);
            due(29, "the last, behind", registerOf(n).weigh(last), 600);
            due(29, "the last, alone", linearOf(n, 0, 1).weigh(last), last);
            due(29, "0, behind", linearOf(n, 0, 1).weigh(0), 600);
            BitRings full = preferringOf(n, 0);
            due(29, "the last on a ring", full.weigh(last), last);
            for (int s : beyond(0, last)) {
                due(29, "weigh(" + s + ") of length " + n, full.weigh(s), UNKNOWN);
            }
            due(29, "trace()", full.trace(), 4);
        }
    }

    // ---- promise 30

    private static void asEachKind() {
        int[] own = {0, 2, 1, 2, 2, 1, 2, 2};
        for (int s = 0; s < 8; s++) {
            int state = s;
            for (int kind = 0; kind < 3; kind++) {
                int asked = kind;
                asIs(own[s] == kind, "as(" + s + ", " + kind + ")", x -> x.as(state, asked));
            }
            asIs(own[s] != 2, "as(" + s + ", 3)", x -> x.as(state, 3));
            for (int kind : beyond(0, 3)) {
                refused(30, "as(" + s + ", " + kind + ")", MIXED, x -> x.as(state, kind), OUTSIDE);
            }
        }
        for (int s : beyond(0, 7)) {
            for (int kind = -1; kind <= 4; kind++) {
                int asked = kind;
                refused(30, "as(" + s + ", " + kind + ")", MIXED, x -> x.as(s, asked), UNKNOWN);
            }
        }
    }

    private static void asIs(boolean fits, String what, Call call) {
        faulty(30, what, MIXED, call, fits ? 1 : CAST, fits ? 0 : 2);
    }

    private static void asFollowsChanges() {
        BitRings x = registerOf(2);
        due(30, "behind", x.as(3, 2), 1);
        x.set(3, 1);
        due(30, "alone", x.as(3, 0), 1);
        x.linear(1, 1);
        due(30, "on a longer one", x.as(3, 1), 1);
        due(30, "not alone", x.as(3, 0), CAST);
    }

    // ---- promise 31

    private static void traceWraps() {
        BitRings x = new BitRings();
        long want = 0;
        int wraps = 0;
        for (int j = 0; j < 60; j++) {
            boolean tells = j % 3 == 0;
            due(31, "a call", tells ? x.tell(0) : x.weigh(j % 3 == 1 ? 0 : 7), tells ? 1 : j % 3 == 1 ? 0 : 600);
            long grown = 31 * want + (tells ? 1 : j % 3 == 1 ? 4 : 5);
            want = (grown + (1L << 31) & 0xffffffffL) - (1L << 31);
            wraps += want == grown ? 0 : 1;
            due(31, "trace()", x.trace(), want);
            due(31, "trace() again", x.trace(), want);
        }
        due(31, "it wrapped often", wraps > 40 ? 1 : 0, 1);
    }

    // ---- promise 32

    private static void faultBehindEach() {
        namesFaults("take", x -> x.take(0, 0, 0, 1, 0), x -> x.take(4, 0, 0, 1, 0));
        namesFaults("sheet", x -> x.sheet(2, 0, 1), x -> x.sheet(4, 0, 1));
        namesFaults("put", x -> x.put(0, 0, 1), x -> x.put(4, 0, 1));
        namesFaults("at", x -> x.at(0, 0, 0), x -> x.at(4, 0, 0));
        namesFaults("out", x -> x.out(0, 0, 0, 1), x -> x.out(8, 0, 0, 1));
        namesFaults("thin", x -> x.thin(0, 1, 1), x -> x.thin(0, 0, 1));
        namesFaults("mix", x -> x.mix(0, 0, 0), x -> x.mix(0, 0, 2));
        namesFaults("order", x -> x.order(0, 5), x -> x.order(4, 5));
        namesFaults("greatest", x -> x.greatest(0, 5), x -> x.greatest(4, 5));
        namesFaults("period", x -> x.period(0), x -> x.period(4));
        namesFaults("learn", x -> x.learn(0), x -> x.learn(4));
        namesFaults("as", x -> x.as(0, 0), x -> x.as(0, 4));
    }

    private static void namesFaults(String name, Call fine, Call refused) {
        for (int before : new int[] {0, 1, 2, 3, 4}) {
            BitRings x = mixedScene();
            meet(x, before);
            fine.on(x);
            due(32, "fault() behind " + name + " behind " + before, x.fault(), 0);
            meet(x, before);
            refused.on(x);
            due(32, "fault() behind " + name + " refused behind " + before, x.fault(), 0);
        }
    }

    private static void faultKeptByOthers() {
        keepsFault("length", x -> x.length(4), x -> x.length(1));
        keepsFault("set", x -> x.set(0, 1), x -> x.set(8, 1));
        keepsFault("linear", x -> x.linear(1, 0), x -> x.linear(8, 0));
        keepsFault("feedback", x -> x.feedback(0), x -> x.feedback(8));
        keepsFault("step", x -> x.step(0, 9), x -> x.step(0, -1));
        keepsFault("back", x -> x.back(0, -1), x -> x.back(0, 2));
        keepsFault("about", x -> x.about(0, 0), x -> x.about(0, 4));
        keepsFault("ring", x -> x.ring(0, 0), x -> x.ring(9, 0));
        keepsFault("told", x -> x.told(2), x -> x.told(8));
        keepsFault("turn", x -> x.turn(0), x -> x.turn(4));
        keepsFault("join", x -> x.join(), x -> x.set(0, 1) + x.set(1, 1) + x.join());
        keepsFault("ways", x -> x.ways(), x -> x.set(0, 1) + x.set(1, 1) + x.ways());
        keepsFault("prefer", x -> x.prefer(1), x -> x.prefer(2));
        keepsFault("lose", x -> x.lose(2), x -> x.lose(4));
        keepsFault("along", x -> x.along(0, 1), x -> x.along(0, -1));
        keepsFault("tell", x -> x.tell(0), x -> x.tell(8));
        keepsFault("weigh", x -> x.weigh(0), x -> x.weigh(8));
        keepsFault("trace", x -> x.trace(), x -> x.trace());
        keepsFault("fault", x -> x.fault(), x -> x.fault());
    }

    private static void keepsFault(String name, Call fine, Call refused) {
        for (int before : new int[] {0, 1, 2, 3, 4}) {
            BitRings x = pureScene();
            meet(x, before);
            fine.on(x);
            due(32, "fault() kept by " + name, x.fault(), before);
            BitRings y = pureScene();
            meet(y, before);
            refused.on(y);
            due(32, "fault() kept by " + name + " refused", y.fault(), before);
        }
    }

    /** Sheet 1 is a row of bytes or ints in both scenes; one of 0 and 3 has nothing. */
    private static void meet(BitRings x, int fault) {
        switch (fault) {
            case 0:
                x.order(1, 0);
                break;
            case 1:
                leaveFault(x, 1);
                break;
            case 2:
                x.at(1, 0, 2);
                break;
            case 3:
                x.order(1, -1);
                break;
            default:
                x.sheet(1, 0, -1);
        }
        due(32, "fault() met", x.fault(), fault);
    }

    private static void theLatestFault() {
        BitRings x = mixedScene();
        due(32, "NULL", x.put(3, 0, 1), NULL);
        due(32, "CAST", x.as(0, 1), CAST);
        due(32, "the latest of two", x.fault(), 2);
        due(32, "INDEX", x.order(0, 6), INDEX);
        due(32, "the latest of three", x.fault(), 3);
        due(32, "SIZE", x.out(0, 0, 0, -1), SIZE);
        due(32, "the latest of four", x.fault(), 4);
        due(32, "NULL again", x.put(3, 0, 1), NULL);
        due(32, "the latest of five", x.fault(), 1);
        due(32, "still so", x.fault(), 1);
    }

    // ---- the codes, and an object's last call

    private static void codes() {
        due(0, "UNKNOWN", BitRings.UNKNOWN, -1);
        due(0, "OUTSIDE", BitRings.OUTSIDE, -2);
        due(0, "STATE", BitRings.STATE, -3);
        due(0, "FULL", BitRings.FULL, -4);
        due(0, "NONE", BitRings.NONE, -9);
        due(0, "LOST", BitRings.LOST, Long.MIN_VALUE);
    }

    private static void theLastCall() {
        BitRings told = new BitRings();
        int want = 0;
        for (int c = 1; c < CALLS; c++) {
            told.tell(7);
            want = left(want, 3, 1);
        }
        due(31, "trace() as the last call", told.trace(), want);
        BitRings joined = new BitRings();
        joined.length(9);
        for (int c = 0; c < 170; c++) {
            due(4, "linear", joined.linear(1, 0), 256);
            due(14, "ways()", joined.ways(), 933761);
            due(13, "join()", joined.join(), 59);
        }
        due(11, "told(2) as the last call", joined.told(2), 1);
        BitRings read = new BitRings();
        for (int c = 0; c < 170; c++) {
            due(16, "sheet", read.sheet(c % 4, c % 3, 600), 1);
            due(18, "put", read.put(c % 4, 599, 1), 1);
            due(23, "order", read.order(c % 4, 600), 600);
        }
        due(24, "greatest", read.greatest(0, 600), 599);
        due(25, "period as the last call", read.period(0), 600);
    }

    public static void main(String[] args) {
        tellEachKind();
        tellAtTheEnds();
        weighEachKind();
        weighAtTheEnds();
        asEachKind();
        asFollowsChanges();
        traceWraps();
        faultBehindEach();
        faultKeptByOthers();
        theLatestFault();
        codes();
        theLastCall();
        end();
    }
}
