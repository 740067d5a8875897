/** Promises 18 to 21, the chain and what is told about calls and steps, sentence by sentence. */
public final class ChainTest {
    private static final int INT = Desks.INT;
    private static final int LONG = Desks.LONG;
    private static final int FLOAT = Desks.FLOAT;
    private static final int DOUBLE = Desks.DOUBLE;
    private static final int TURN = Desks.TURN;
    private static final int[] NO_STEPS = {-1, 12, Integer.MIN_VALUE, Integer.MAX_VALUE};
    private static final int[] NO_WHATS = {-1, 8, Integer.MIN_VALUE, Integer.MAX_VALUE};
    private static final int[] NO_COUNTS = {-1, 13, Integer.MIN_VALUE, Integer.MAX_VALUE};

    private static final Sentences DOC = new Sentences();

    public static void main(String[] args) {
        step();
        run();
        state();
        about();
        DOC.end();
    }

    private static void step() {
        DOC.section("Promise 18: step");
        DOC.says("Step k (0 .. 11) of the chain is (anew):", ChainTest::stepAnew);
        DOC.says("what 0 hull, 1 meet, 2 size, 3 round (b is how), 4 sign, 5 lend, 6 turn, 7 as (b is the SORT), "
            + "of a (and b) to slot to: 1.", ChainTest::stepDoesAsTheCall);
        DOC.says("-2: a, to,", ChainTest::stepNoSlot);
        DOC.says("of 0, 1, 5 also b;", ChainTest::stepNoSlotB);
        DOC.says("-5: no such k,", ChainTest::stepNoK);
        DOC.says("or what.", ChainTest::stepNoWhat);
        DOC.says("(b of 3 and 7 is looked at as it is done;", ChainTest::stepLooksAtBLater);
        DOC.says("of 2, 4, 6 it counts not.)", ChainTest::stepWithoutB);
    }

    private static void run() {
        DOC.section("Promise 19: run");
        DOC.says("Steps of the chain from k on are done,", ChainTest::runFrom);
        DOC.says("n at most,", ChainTest::runAtMost);
        DOC.says("up to its end (step 11),", ChainTest::runToTheEnd);
        DOC.says("or to the first one that isn't there", ChainTest::runToAGap);
        DOC.says("or is REFUSED:", ChainTest::runToARefusal);
        DOC.says("how many were done.", ChainTest::runCounts);
        DOC.says("-5: k is not 0 .. 11,", ChainTest::runNoK);
        DOC.says("or n not 0 .. 12.", ChainTest::runNoN);
        DOC.says("(state() tells then by what the one was REFUSED,", ChainTest::runTellsRefusal);
        DOC.says("0 if none.)", ChainTest::runTellsNone);
    }

    private static void state() {
        DOC.section("Promise 20: state");
        DOC.says("By what the latest call", ChainTest::stateOfLatest);
        DOC.says("but state(), about() was REFUSED;", ChainTest::stateIsLeftAlone);
        DOC.says("0 if it wasn't.", ChainTest::stateOfDone);
    }

    private static void about() {
        DOC.section("Promise 21: about");
        DOC.says("0 slots that are not EMPTY,", ChainTest::aboutSlots);
        DOC.says("1 steps of the chain that are there,", ChainTest::aboutSteps);
        DOC.says("2 calls and steps that were REFUSED,", ChainTest::aboutRefusals);
        DOC.says("3 ends that were told (low(), high()),", ChainTest::aboutEnds);
        DOC.says("4 steps that were done;", ChainTest::aboutDone);
        DOC.says("NONE for others.", ChainTest::aboutOthers);
    }

    /** Slot 0 has 3 .. 5, and step k turns slot k over to slot k + 1. */
    private static StretchDesk longChain() {
        StretchDesk desk = Desks.with(INT, 3, 5);
        for (int k = 0; k < 12; k++) {
            DOC.due("step " + k, desk.step(k, TURN, k, 0, k + 1), 1);
        }
        return desk;
    }

    private static void dueTurned(String call, StretchDesk desk, int slot) {
        boolean over = slot % 2 == 1;
        DOC.dueRange(call + ": slot " + slot, desk, slot, INT, over ? -5 : 3, over ? -3 : 5);
    }

    private static void stepAnew() {
        for (int k = 0; k < 12; k++) {
            StretchDesk desk = Desks.with(INT, -3, 5);
            DOC.dueDone("step " + k, desk, desk.step(k, TURN, 0, 0, 1), 1);
            DOC.due("steps", desk.about(1), 1);
            DOC.dueEmpty("it is not done yet", desk, 1);
            DOC.due("run", desk.run(k, 1), 1);
            DOC.dueRange("run", desk, 1, INT, -5, 3);
            DOC.dueDone("step anew", desk, desk.step(k, Desks.SIZE, 1, 0, 2), 1);
            DOC.due("steps", desk.about(1), 1);
            DOC.due("run", desk.run(k, 1), 1);
            DOC.dueRange("the new one", desk, 2, INT, 0, 5);
            DOC.dueRange("not the old one", desk, 1, INT, -5, 3);
        }
    }

    private static void stepDoesAsTheCall() {
        int[] bs = {1, 1, 0, 3, 0, 1, 0, LONG};
        for (int what = 0; what < 8; what++) {
            StretchDesk desk = Desks.withTwo(DOUBLE, Desks.d(-2.5), Desks.d(7.25), Desks.d(-8.5), Desks.d(-1.5));
            DOC.dueDone("step", desk, desk.step(what, what, 0, bs[what], 15), 1);
            DOC.dueDone("run", desk, desk.run(what, 1), 1);
            DOC.due("the call itself", Desks.perform(desk, what, 0, bs[what], 2), 1);
            DOC.due("operation " + what, desk.alike(15, 2), 1);
        }
        StretchDesk desk = Desks.withTwo(DOUBLE, Desks.d(-2.5), Desks.d(7.25), Desks.d(-8.5), Desks.d(-1.5));
        dueStep(desk, Desks.HULL, 1, DOUBLE, Desks.d(-8.5), Desks.d(7.25));
        dueStep(desk, Desks.MEET, 1, DOUBLE, Desks.d(-2.5), Desks.d(-1.5));
        dueStep(desk, Desks.SIZE, 1, DOUBLE, Desks.d(0), Desks.d(7.25));
        dueStep(desk, Desks.ROUND, 1, DOUBLE, Desks.d(-2), Desks.d(8));
        dueStep(desk, Desks.SIGN, 1, DOUBLE, Desks.d(-1), Desks.d(1));
        dueStep(desk, Desks.LEND, 1, DOUBLE, Desks.d(-7.25), Desks.d(-2.5));
        dueStep(desk, Desks.TURN, 1, DOUBLE, Desks.d(-7.25), Desks.d(2.5));
        dueStep(desk, Desks.AS, 1, LONG, -2, 7);
    }

    private static void dueStep(StretchDesk desk, int what, int b, int sort, long low, long high) {
        DOC.due("step", desk.step(0, what, 0, b, 2), 1);
        DOC.due("run", desk.run(0, 1), 1);
        DOC.dueRange("step of " + what, desk, 2, sort, low, high);
    }

    private static void stepNoSlot() {
        for (int slot : Desks.NO_SLOTS) {
            StretchDesk desk = new StretchDesk();
            for (int what = 0; what < 8; what++) {
                DOC.dueRefusal("a", desk, desk.step(0, what, slot, 0, 0), -2);
                DOC.dueRefusal("to", desk, desk.step(0, what, 0, 0, slot), -2);
                DOC.dueRefusal("a, no such k", desk, desk.step(12, what, slot, 0, 0), -2);
                DOC.dueRefusal("to, no such k", desk, desk.step(-1, what, 0, 0, slot), -2);
            }
            for (int what : NO_WHATS) {
                DOC.dueRefusal("a, no such what", desk, desk.step(0, what, slot, 0, 0), -2);
                DOC.dueRefusal("to, no such what", desk, desk.step(0, what, 0, 0, slot), -2);
            }
            DOC.due("steps", desk.about(1), 0);
        }
    }

    private static void stepNoSlotB() {
        for (int slot : Desks.NO_SLOTS) {
            for (int what = 0; what < 8; what++) {
                StretchDesk desk = new StretchDesk();
                boolean two = Desks.takesTwo(what);
                int answer = desk.step(0, what, 0, slot, 0);
                DOC.due("b of " + what, answer, two ? -2 : 1);
                DOC.due("b of " + what + ": state()", desk.state(), two ? -2 : 0);
                DOC.due("steps", desk.about(1), two ? 0 : 1);
                DOC.dueRefusal("b of " + what + ", no such k", desk, desk.step(12, what, 0, slot, 0), two ? -2 : -5);
            }
        }
    }

    private static void stepNoK() {
        StretchDesk desk = new StretchDesk();
        for (int k : NO_STEPS) {
            for (int what = 0; what < 8; what++) {
                DOC.dueRefusal("step " + k + " of " + what, desk, desk.step(k, what, 0, 0, 0), -5);
            }
        }
        DOC.due("steps", desk.about(1), 0);
        DOC.dueDone("the first", desk, desk.step(0, 0, 0, 0, 0), 1);
        DOC.dueDone("the last", desk, desk.step(11, 0, 0, 0, 0), 1);
        DOC.due("steps", desk.about(1), 2);
    }

    private static void stepNoWhat() {
        StretchDesk desk = Desks.with(INT, 3, 5);
        DOC.due("step", desk.step(4, TURN, 0, 0, 1), 1);
        for (int what : NO_WHATS) {
            DOC.dueRefusal("step of " + what, desk, desk.step(4, what, 0, 0, 2), -5);
            DOC.dueRefusal("step of " + what + ", b no slot", desk, desk.step(4, what, 0, 16, 2), -5);
            DOC.dueRefusal("step of " + what + ", never set", desk, desk.step(5, what, 0, 0, 2), -5);
        }
        DOC.due("steps", desk.about(1), 1);
        DOC.due("the old one stays", desk.run(4, 12), 1);
        DOC.dueRange("the old one stays", desk, 1, INT, -5, -3);
        DOC.dueEmpty("the old one stays", desk, 2);
        DOC.dueDone("the first", desk, desk.step(4, 0, 0, 0, 0), 1);
        DOC.dueDone("the last", desk, desk.step(4, 7, 0, 0, 0), 1);
    }

    private static void stepLooksAtBLater() {
        for (int b : new int[] {-1, 5, 16, Integer.MIN_VALUE, Integer.MAX_VALUE}) {
            StretchDesk desk = Desks.with(DOUBLE, Desks.d(1.5), Desks.d(2.5));
            DOC.dueDone("step of round, b " + b, desk, desk.step(0, Desks.ROUND, 0, b, 1), 1);
            DOC.dueDone("step of as, b " + b, desk, desk.step(1, Desks.AS, 0, b, 1), 1);
            DOC.due("run of round", desk.run(0, 1), 0);
            DOC.due("run of round: state()", desk.state(), -5);
            DOC.due("run of as", desk.run(1, 1), 0);
            DOC.due("run of as: state()", desk.state(), -4);
            DOC.dueEmpty("slot to stays", desk, 1);
        }
        StretchDesk desk = Desks.with(DOUBLE, Desks.d(1.5), Desks.d(2.5));
        DOC.due("step of round, how 4", desk.step(0, Desks.ROUND, 0, 4, 1), 1);
        DOC.due("step of as, SORT 3", desk.step(1, Desks.AS, 1, 3, 2), 1);
        DOC.dueDone("run", desk, desk.run(0, 2), 2);
        DOC.dueRange("b as a slot would be EMPTY", desk, 2, DOUBLE, Desks.d(2), Desks.d(2));
    }

    private static void stepWithoutB() {
        for (int what : new int[] {Desks.SIZE, Desks.SIGN, Desks.TURN}) {
            for (int b : new int[] {-1, 0, 9, 15, 16, Integer.MIN_VALUE, Integer.MAX_VALUE}) {
                StretchDesk desk = Desks.with(DOUBLE, Desks.d(1.5), Desks.d(2.5));
                DOC.dueDone("step of " + what, desk, desk.step(0, what, 0, b, 1), 1);
                DOC.dueDone("run", desk, desk.run(0, 1), 1);
                DOC.due("the call itself", Desks.perform(desk, what, 0, 0, 2), 1);
                DOC.due("step of " + what + ", b " + b, desk.alike(1, 2), 1);
            }
        }
    }

    private static void runFrom() {
        StretchDesk desk = longChain();
        DOC.dueDone("run all", desk, desk.run(0, 12), 12);
        for (int slot = 0; slot < 13; slot++) {
            dueTurned("run all", desk, slot);
        }
        desk = longChain();
        Desks.put(desk, 5, INT, -5, -3);
        DOC.due("run from 5", desk.run(5, 3), 3);
        for (int slot = 5; slot < 9; slot++) {
            dueTurned("run from 5", desk, slot);
        }
        DOC.dueEmpty("none before it", desk, 4);
        DOC.dueEmpty("none behind it", desk, 9);
        DOC.due("the steps stay there", desk.about(1), 12);
        DOC.due("and may be done again", desk.run(5, 3), 3);
    }

    private static void runAtMost() {
        for (int n = 0; n <= 12; n++) {
            StretchDesk desk = longChain();
            DOC.dueDone("run of " + n, desk, desk.run(0, n), n);
            dueTurned("the last one done", desk, n);
            DOC.dueEmpty("none behind it", desk, n + 1);
            DOC.due("slots that are not EMPTY", desk.about(0), n + 1);
        }
    }

    private static void runToTheEnd() {
        for (int k = 0; k < 12; k++) {
            StretchDesk desk = longChain();
            DOC.due("run all", desk.run(0, 12), 12);
            int left = 12 - k;
            DOC.dueDone("run from " + k, desk, desk.run(k, 12), left);
            DOC.dueDone("just as many from " + k, desk, desk.run(k, left), left);
            DOC.due("steps done", desk.about(4), 12 + 2 * left);
        }
    }

    private static void runToAGap() {
        for (int gap = 0; gap < 12; gap++) {
            StretchDesk desk = Desks.with(INT, 3, 5);
            for (int k = 0; k < 12; k++) {
                if (k != gap) {
                    DOC.due("step " + k, desk.step(k, TURN, 0, 0, k + 1), 1);
                }
            }
            DOC.due("a refusal before", desk.sort(15), -3);
            DOC.dueDone("run to the gap at " + gap, desk, desk.run(0, 12), gap);
            DOC.due("slots that are not EMPTY", desk.about(0), gap + 1);
            DOC.dueDone("run at the gap", desk, desk.run(gap, 12), 0);
            if (gap < 11) {
                DOC.dueDone("run behind the gap", desk, desk.run(gap + 1, 12), 11 - gap);
            }
            DOC.due("a gap is not REFUSED", desk.about(2), 1);
        }
    }

    /** A chain whose steps turn slot 0 over, but for one that takes what is EMPTY. */
    private static StretchDesk chainRefusedAt(int at) {
        StretchDesk desk = Desks.with(INT, 3, 5);
        for (int k = 0; k < 12; k++) {
            DOC.due("step " + k, desk.step(k, TURN, k == at ? 15 : 0, 0, k + 1), 1);
        }
        return desk;
    }

    private static void runToARefusal() {
        for (int at = 0; at < 12; at++) {
            StretchDesk desk = chainRefusedAt(at);
            DOC.due("run to what is REFUSED at " + at, desk.run(0, 12), at);
            DOC.due("state()", desk.state(), -3);
            DOC.due("slots that are not EMPTY", desk.about(0), at + 1);
            DOC.due("run at it", desk.run(at, 12), 0);
            DOC.due("run at it: state()", desk.state(), -3);
            DOC.dueDone("run up to before it", desk, desk.run(0, at), at);
            DOC.due("REFUSED", desk.about(2), 2);
            DOC.due("steps", desk.about(1), 12);
        }
    }

    private static void runCounts() {
        StretchDesk desk = Desks.withTwo(DOUBLE, Desks.d(0.25), Desks.d(0.5), Desks.d(1), Desks.d(2));
        DOC.due("step", desk.step(0, Desks.MEET, 0, 1, 2), 1);
        DOC.due("step", desk.step(1, Desks.ROUND, 0, 4, 2), 1);
        DOC.due("step", desk.step(2, TURN, 0, 0, 3), 1);
        DOC.due("step", desk.step(3, TURN, 2, 0, 3), 1);
        DOC.due("a step that leaves a slot EMPTY is done", desk.run(0, 12), 3);
        DOC.due("what it left EMPTY is REFUSED", desk.state(), -3);
        DOC.due("steps done", desk.about(4), 3);
        DOC.due("REFUSED", desk.about(2), 1);
        DOC.dueRange("the last one done", desk, 3, DOUBLE, Desks.d(-0.5), Desks.d(-0.25));
        DOC.dueDone("none is wanted", desk, desk.run(0, 0), 0);
        DOC.dueDone("a step that leaves a slot EMPTY is done", desk, desk.run(1, 1), 1);
    }

    private static void runNoK() {
        for (int k : NO_STEPS) {
            for (int n : new int[] {0, 1, 12}) {
                StretchDesk desk = longChain();
                DOC.dueRefusal("run from " + k, desk, desk.run(k, n), -5);
                DOC.due("steps done", desk.about(4), 0);
                DOC.due("REFUSED", desk.about(2), 1);
                DOC.due("slots that are not EMPTY", desk.about(0), 1);
            }
        }
    }

    private static void runNoN() {
        for (int n : NO_COUNTS) {
            for (int k : new int[] {0, 11}) {
                StretchDesk desk = longChain();
                DOC.dueRefusal("run of " + n, desk, desk.run(k, n), -5);
                DOC.due("steps done", desk.about(4), 0);
                DOC.due("REFUSED", desk.about(2), 1);
                DOC.due("slots that are not EMPTY", desk.about(0), 1);
            }
        }
    }

    private static void dueRunRefused(int sort, int what, int b, int refusal) {
        StretchDesk desk = Desks.with(sort, 0, 1);
        Desks.put(desk, 2, (sort + 1) % 4, 0, 1);
        DOC.due("step", desk.step(0, TURN, 0, 0, 3), 1);
        DOC.due("step", desk.step(1, what, 0, b, 4), 1);
        DOC.due("step", desk.step(2, TURN, 0, 0, 5), 1);
        DOC.due("run to " + what, desk.run(0, 12), 1);
        DOC.due("run to " + what + ": state()", desk.state(), refusal);
        DOC.due("REFUSED", desk.about(2), 1);
        DOC.due("steps done", desk.about(4), 1);
        DOC.due("state() still", desk.state(), refusal);
        DOC.due("slots that are not EMPTY", desk.about(0), 3);
        DOC.dueDone("run up to before it", desk, desk.run(0, 1), 1);
        DOC.dueDone("run behind it", desk, desk.run(2, 1), 1);
    }

    private static void runTellsRefusal() {
        dueRunRefused(INT, Desks.HULL, 9, -3);
        dueRunRefused(INT, Desks.HULL, 2, -4);
        dueRunRefused(INT, Desks.MEET, 9, -3);
        dueRunRefused(INT, Desks.MEET, 2, -4);
        dueRunRefused(INT, Desks.ROUND, 0, -4);
        dueRunRefused(INT, Desks.ROUND, 9, -4);
        dueRunRefused(DOUBLE, Desks.ROUND, 5, -5);
        dueRunRefused(FLOAT, Desks.ROUND, -1, -5);
        dueRunRefused(LONG, Desks.SIGN, 0, -4);
        dueRunRefused(LONG, Desks.LEND, 0, -4);
        dueRunRefused(LONG, Desks.LEND, 9, -3);
        dueRunRefused(FLOAT, Desks.LEND, 2, -4);
        dueRunRefused(FLOAT, Desks.AS, 4, -4);
        dueRunRefused(INT, Desks.AS, -1, -4);
    }

    private static void runTellsNone() {
        StretchDesk desk = longChain();
        DOC.due("a refusal before", desk.sort(15), -3);
        DOC.dueDone("all were done", desk, desk.run(0, 12), 12);
        DOC.due("a refusal before", desk.sort(15), -3);
        DOC.dueDone("none was wanted", desk, desk.run(0, 0), 0);
        DOC.due("a refusal before", desk.run(0, 13), -5);
        DOC.dueDone("some were done", desk, desk.run(3, 2), 2);
        desk = new StretchDesk();
        DOC.due("a refusal before", desk.sort(15), -3);
        DOC.dueDone("none was there", desk, desk.run(0, 12), 0);
        desk = chainRefusedAt(3);
        DOC.due("a refused step before", desk.run(0, 12), 3);
        DOC.dueDone("the one that is REFUSED is not reached", desk, desk.run(0, 3), 3);
    }

    private static void stateOfLatest() {
        for (Refusals.Refused refused : Refusals.all()) {
            StretchDesk desk = Refusals.busyDesk();
            refused.asked().applyAsLong(desk);
            DOC.due(refused.call() + ": state()", desk.state(), refused.code());
        }
        StretchDesk desk = new StretchDesk();
        int[] codes = {desk.set(16, 0, 0, 0), desk.state(), desk.sort(0), desk.state(), desk.set(0, 4, 0, 0),
            desk.state(), desk.set(0, 0, 1, 0), desk.state()};
        for (int i = 0; i < 4; i++) {
            DOC.due("one refusal after another", codes[2 * i], -2 - i);
            DOC.due("one refusal after another: state()", codes[2 * i + 1], -2 - i);
        }
    }

    private static void stateIsLeftAlone() {
        for (int what = -2; what < 8; what++) {
            StretchDesk desk = new StretchDesk();
            DOC.due("refused", desk.run(12, 0), -5);
            desk.about(what);
            DOC.due("state() after about(" + what + ")", desk.state(), -5);
            DOC.due("state() after state()", desk.state(), -5);
            DOC.due("done", desk.clear(0), 0);
            desk.about(what);
            DOC.due("state() after about(" + what + ")", desk.state(), 0);
        }
    }

    private interface Call {
        long on(StretchDesk desk);
    }

    private static void stateOfDone() {
        DOC.due("at first", new StretchDesk().state(), 0);
        Call[] calls = {desk -> desk.set(5, INT, 1, 2), desk -> desk.clear(5), desk -> desk.clear(15),
            desk -> desk.sort(3), desk -> desk.low(3), desk -> desk.high(3), desk -> desk.hull(3, 3, 5),
            desk -> desk.meet(3, 3, 5), desk -> desk.meet(12, 13, 5), desk -> desk.size(3, 5),
            desk -> desk.round(3, 0, 5), desk -> desk.sign(3, 5), desk -> desk.lend(3, 3, 5),
            desk -> desk.turn(3, 5), desk -> desk.as(3, 0, 5), desk -> desk.near(3, 0), desk -> desk.has(3, 0),
            desk -> desk.has(3, Desks.d(99)), desk -> desk.alike(3, 3), desk -> desk.alike(2, 3),
            desk -> desk.step(0, 0, 0, 0, 0), desk -> desk.run(0, 1), desk -> desk.run(0, 0)};
        for (int i = 0; i < calls.length; i++) {
            StretchDesk desk = Refusals.busyDesk();
            DOC.due("refused", desk.sort(15), -3);
            DOC.due("refused: state()", desk.state(), -3);
            int refusals = desk.about(2);
            calls[i].on(desk);
            DOC.due("state() after call " + i, desk.state(), 0);
            DOC.due("REFUSED after call " + i, desk.about(2), refusals);
        }
    }

    private static void aboutSlots() {
        StretchDesk desk = new StretchDesk();
        for (int slot = 0; slot < 16; slot++) {
            DOC.due("slots", desk.about(0), slot);
            Desks.put(desk, slot, slot % 4, 1, 2);
        }
        DOC.due("all slots", desk.about(0), 16);
        Desks.put(desk, 15, INT, 3, 4);
        DOC.due("one is set anew", desk.about(0), 16);
        for (int slot = 15; slot >= 0; slot--) {
            DOC.due("clear", desk.clear(slot), 1);
            DOC.due("slots", desk.about(0), slot);
        }
        DOC.due("clear what is EMPTY", desk.clear(0), 0);
        DOC.due("none", desk.about(0), 0);
        Desks.put(desk, 0, FLOAT, Desks.f(0.25f), Desks.f(0.5f));
        DOC.due("turn", desk.turn(0, 1), 1);
        DOC.due("two", desk.about(0), 2);
        DOC.due("meet of none", desk.meet(0, 1, 1), 0);
        DOC.due("one", desk.about(0), 1);
        DOC.due("round to nothing", desk.round(0, 4, 0), 0);
        DOC.due("none", desk.about(0), 0);
    }

    private static void aboutSteps() {
        StretchDesk desk = new StretchDesk();
        for (int k = 11; k >= 0; k--) {
            DOC.due("steps", desk.about(1), 11 - k);
            DOC.due("step " + k, desk.step(k, k % 8, 0, 0, 0), 1);
        }
        DOC.due("all steps", desk.about(1), 12);
        DOC.due("step anew", desk.step(0, 3, 0, 0, 0), 1);
        DOC.due("step refused", desk.step(0, 8, 0, 0, 0), -5);
        DOC.due("run", desk.run(0, 12), 0);
        DOC.due("all steps", desk.about(1), 12);
    }

    private static void aboutRefusals() {
        for (Refusals.Refused refused : Refusals.all()) {
            StretchDesk desk = Refusals.busyDesk();
            int before = desk.about(2);
            refused.asked().applyAsLong(desk);
            DOC.due(refused.call() + ": one more", desk.about(2), before + 1);
            refused.asked().applyAsLong(desk);
            DOC.due(refused.call() + ": and one more", desk.about(2), before + 2);
        }
        StretchDesk desk = chainRefusedAt(2);
        DOC.due("run", desk.run(0, 12), 2);
        DOC.due("a step that was REFUSED counts once", desk.about(2), 1);
        DOC.due("run", desk.run(2, 1), 0);
        DOC.due("and each time", desk.about(2), 2);
        DOC.due("run", desk.run(0, 2), 2);
        DOC.due("steps that were done count not", desk.about(2), 2);
        DOC.due("run", desk.run(12, 1), -5);
        DOC.due("a run that was REFUSED itself", desk.about(2), 3);
        desk.about(9);
        desk.state();
        DOC.due("about() and state() are never REFUSED", desk.about(2), 3);
    }

    private static void aboutEnds() {
        StretchDesk desk = Desks.with(INT, 1, 2);
        DOC.due("low", desk.low(0), 1);
        DOC.due("one end", desk.about(3), 1);
        DOC.due("high", desk.high(0), 2);
        DOC.due("two ends", desk.about(3), 2);
        DOC.due("high", desk.high(0), 2);
        DOC.due("one and the same end again", desk.about(3), 3);
        for (int slot : new int[] {-1, 7, 16}) {
            DOC.due("low refused", desk.low(slot), 0);
            DOC.due("high refused", desk.high(slot), 0);
        }
        DOC.due("what was REFUSED was not told", desk.about(3), 3);
        DOC.due("near", desk.near(0, 9), 2);
        DOC.due("sort", desk.sort(0), INT);
        DOC.due("has", desk.has(0, 1), 1);
        DOC.due("alike", desk.alike(0, 0), 1);
        DOC.due("near() and others tell no ends", desk.about(3), 3);
        DOC.due("set", desk.set(0, LONG, 0, 0), 1);
        DOC.due("low", desk.low(0), 0);
        DOC.due("an end of 0 was told, too", desk.about(3), 4);
    }

    private static void aboutDone() {
        StretchDesk desk = longChain();
        DOC.due("none yet", desk.about(4), 0);
        DOC.due("run", desk.run(0, 12), 12);
        DOC.due("all", desk.about(4), 12);
        DOC.due("run", desk.run(4, 3), 3);
        DOC.due("some again", desk.about(4), 15);
        DOC.due("turn", desk.turn(0, 1), 1);
        DOC.due("a call is no step", desk.about(4), 15);
        DOC.due("run", desk.run(4, 0), 0);
        DOC.due("run", desk.run(0, 13), -5);
        DOC.due("none", desk.about(4), 15);
        desk = chainRefusedAt(5);
        DOC.due("run", desk.run(0, 12), 5);
        DOC.due("but the one that was REFUSED", desk.about(4), 5);
        DOC.due("run", desk.run(5, 12), 0);
        DOC.due("but the one that was REFUSED", desk.about(4), 5);
    }

    private static void aboutOthers() {
        StretchDesk desk = Refusals.busyDesk();
        DOC.due("done", desk.sort(0), INT);
        int refusals = desk.about(2);
        for (int what : new int[] {-1, 5, 6, -2, Integer.MIN_VALUE, Integer.MAX_VALUE}) {
            DOC.due("about(" + what + ")", desk.about(what), StretchDesk.NONE);
            DOC.due("state()", desk.state(), 0);
        }
        DOC.due("NONE", StretchDesk.NONE, -1);
        DOC.due("that is not REFUSED", desk.about(2), refusals);
    }
}
