import java.util.ArrayList;
import java.util.List;
import java.util.function.ToLongFunction;

/** Calls that are REFUSED by a busy desk; most of them for more than one cause, so that the first one tells. */
final class Refusals {
    /** A call, and by what it is REFUSED. */
    record Refused(String call, int code, boolean wide, ToLongFunction<StretchDesk> asked) {
        long answer() {
            return wide ? 0 : code;
        }
    }

    /** In a busy desk: a slot of each sort (0 to 3, by its sort), and one that is EMPTY. */
    static final int EMPTY = 15;

    private static final int[] NO_HOWS = {-1, 5, Integer.MIN_VALUE, Integer.MAX_VALUE};
    private static final int[] NO_WHATS = {-1, 8, Integer.MIN_VALUE, Integer.MAX_VALUE};
    private static final int[] NO_STEPS = {-1, 12, Integer.MIN_VALUE, Integer.MAX_VALUE};
    private static final int[] NO_COUNTS = {-1, 13, Integer.MIN_VALUE, Integer.MAX_VALUE};

    private final List<Refused> all = new ArrayList<>();

    private Refusals() {
    }

    /** Slots 0 to 11 have ranges, but for 9; step k puts to slot k what it makes of 12, 13 and 14; 15 is EMPTY. */
    static StretchDesk busyDesk() {
        StretchDesk desk = new StretchDesk();
        Desks.put(desk, 0, Desks.INT, -5, 3);
        Desks.put(desk, 1, Desks.LONG, -5, 3);
        Desks.put(desk, 2, Desks.FLOAT, Desks.f(-1.5f), Desks.f(2.5f));
        Desks.put(desk, 3, Desks.DOUBLE, Desks.d(-2.5), Desks.d(7.25));
        for (int slot = 4; slot < 12; slot++) {
            Desks.put(desk, slot, Desks.LONG, 100 + slot, 200 + slot);
        }
        desk.clear(9);
        Desks.put(desk, 12, Desks.DOUBLE, Desks.d(-0.75), Desks.d(0.25));
        Desks.put(desk, 13, Desks.DOUBLE, Desks.d(0.5), Desks.d(9.5));
        Desks.put(desk, 14, Desks.INT, -7, 2);
        int[] bs = {13, 13, 0, 3, 0, 12, 0, Desks.INT};
        for (int what = 0; what < 8; what++) {
            desk.step(what, what, what == Desks.LEND ? 13 : 12, bs[what], what);
        }
        desk.step(8, Desks.HULL, 14, EMPTY, 8);
        desk.step(9, Desks.AS, 14, Desks.DOUBLE, 9);
        desk.step(10, Desks.TURN, 14, 0, 10);
        desk.step(11, Desks.MEET, 13, 13, 11);
        desk.low(0);
        desk.high(EMPTY);
        desk.run(6, 1);
        return desk;
    }

    static List<Refused> forNoSlot() {
        Refusals list = new Refusals();
        for (int slot : Desks.NO_SLOTS) {
            list.slotCalls(slot);
            for (int what = 0; what < 8; what++) {
                list.slotOperations(slot, what);
                list.slotSteps(slot, what);
            }
            for (int what : NO_WHATS) {
                list.add("step of no such what, a " + slot, -2, desk -> desk.step(0, what, slot, 0, 0));
                list.add("step of no such what, to " + slot, -2, desk -> desk.step(0, what, 0, 0, slot));
            }
        }
        return list.all;
    }

    static List<Refused> forEmpty() {
        Refusals list = new Refusals();
        list.add("sort", -3, desk -> desk.sort(EMPTY));
        list.addWide("low", -3, desk -> desk.low(EMPTY));
        list.addWide("high", -3, desk -> desk.high(EMPTY));
        list.addWide("near", -3, desk -> desk.near(EMPTY, -1));
        list.add("has", -3, desk -> desk.has(EMPTY, -1));
        list.add("alike, a", -3, desk -> desk.alike(EMPTY, 0));
        list.add("alike, b", -3, desk -> desk.alike(0, EMPTY));
        list.add("alike, both", -3, desk -> desk.alike(EMPTY, EMPTY));
        for (int what = 0; what < 8; what++) {
            int one = what;
            if (!Desks.takesTwo(what)) {
                list.add("operation " + what, -3, desk -> Desks.perform(desk, one, EMPTY, 99, 5));
                continue;
            }
            for (int sort = 0; sort < 4; sort++) {
                int other = sort;
                list.add("operation " + what + ", a", -3, desk -> Desks.perform(desk, one, EMPTY, other, 5));
                list.add("operation " + what + ", b", -3, desk -> Desks.perform(desk, one, other, EMPTY, 5));
            }
            list.add("operation " + what + ", both", -3, desk -> Desks.perform(desk, one, EMPTY, EMPTY, 5));
        }
        return list.all;
    }

    static List<Refused> forSort() {
        Refusals list = new Refusals();
        for (int sort : Desks.NO_SORTS) {
            list.add("set, sort " + sort, -4, desk -> desk.set(3, sort, 1, 2));
            list.add("set, sort " + sort + ", low above high", -4, desk -> desk.set(3, sort, 2, 1));
            list.add("as, sort " + sort, -4, desk -> desk.as(3, sort, 5));
        }
        for (int a = 0; a < 4; a++) {
            for (int b = 0; b < 4; b++) {
                list.twoSorts(a, b);
            }
        }
        for (int sort = Desks.INT; sort <= Desks.LONG; sort++) {
            int slot = sort;
            list.add("sign of sort " + sort, -4, desk -> desk.sign(slot, 5));
            list.add("round of sort " + sort, -4, desk -> desk.round(slot, 0, 5));
            for (int how : NO_HOWS) {
                list.add("round of sort " + sort + ", how " + how, -4, desk -> desk.round(slot, how, 5));
            }
        }
        list.notNumbers(Desks.FLOAT);
        list.notNumbers(Desks.DOUBLE);
        return list.all;
    }

    static List<Refused> forValue() {
        Refusals list = new Refusals();
        for (int sort = 0; sort < 4; sort++) {
            int one = sort;
            long[] line = Desks.line(sort);
            for (int i = 1; i < line.length; i++) {
                long low = line[i];
                long high = line[i - 1];
                list.add("set of sort " + sort + ", low above high", -5, desk -> desk.set(4, one, low, high));
            }
        }
        for (int how : NO_HOWS) {
            list.add("round, how " + how, -5, desk -> desk.round(2, how, 5));
            list.add("round, how " + how, -5, desk -> desk.round(3, how, 3));
        }
        for (int what : NO_WHATS) {
            list.add("step, what " + what, -5, desk -> desk.step(3, what, 0, 99, 0));
        }
        for (int k : NO_STEPS) {
            list.add("step " + k, -5, desk -> desk.step(k, 0, 0, 0, 0));
            list.add("run from " + k, -5, desk -> desk.run(k, 1));
        }
        for (int n : NO_COUNTS) {
            list.add("run, n " + n, -5, desk -> desk.run(0, n));
        }
        return list.all;
    }

    static List<Refused> all() {
        List<Refused> all = new ArrayList<>(forNoSlot());
        all.addAll(forEmpty());
        all.addAll(forSort());
        all.addAll(forValue());
        return all;
    }

    private void add(String call, int code, ToLongFunction<StretchDesk> asked) {
        all.add(new Refused(call, code, false, asked));
    }

    private void addWide(String call, int code, ToLongFunction<StretchDesk> asked) {
        all.add(new Refused(call, code, true, asked));
    }

    private void slotCalls(int slot) {
        add("set " + slot, -2, desk -> desk.set(slot, Desks.INT, 1, 2));
        add("set " + slot + ", no such sort", -2, desk -> desk.set(slot, 4, 1, 2));
        add("set " + slot + ", not a number", -2, desk -> desk.set(slot, Desks.DOUBLE, -1, -1));
        add("set " + slot + ", low above high", -2, desk -> desk.set(slot, Desks.INT, 2, 1));
        add("clear " + slot, -2, desk -> desk.clear(slot));
        add("sort " + slot, -2, desk -> desk.sort(slot));
        addWide("low " + slot, -2, desk -> desk.low(slot));
        addWide("high " + slot, -2, desk -> desk.high(slot));
        addWide("near " + slot, -2, desk -> desk.near(slot, -1));
        add("has " + slot, -2, desk -> desk.has(slot, -1));
        add("alike, a " + slot, -2, desk -> desk.alike(slot, 0));
        add("alike, b " + slot, -2, desk -> desk.alike(0, slot));
        add("alike, a " + slot + ", b EMPTY", -2, desk -> desk.alike(slot, EMPTY));
        add("alike, a EMPTY, b " + slot, -2, desk -> desk.alike(EMPTY, slot));
    }

    private void slotOperations(int slot, int what) {
        String name = "operation " + what;
        int b = Desks.takesTwo(what) ? EMPTY : 99;
        add(name + ", a " + slot, -2, desk -> Desks.perform(desk, what, slot, b, 5));
        add(name + ", to " + slot, -2, desk -> Desks.perform(desk, what, 3, what == Desks.AS ? 0 : 3, slot));
        add(name + ", to " + slot + ", a EMPTY", -2, desk -> Desks.perform(desk, what, EMPTY, b, slot));
        add(name + ", to " + slot + ", wrong b", -2, desk -> Desks.perform(desk, what, 0, b, slot));
        if (Desks.takesTwo(what)) {
            add(name + ", b " + slot, -2, desk -> Desks.perform(desk, what, 3, slot, 5));
            add(name + ", b " + slot + ", a EMPTY", -2, desk -> Desks.perform(desk, what, EMPTY, slot, 5));
            add(name + ", two sorts, to " + slot, -2, desk -> Desks.perform(desk, what, 2, 3, slot));
        }
    }

    private void slotSteps(int slot, int what) {
        for (int k : new int[] {what, -1, 12}) {
            String name = "step " + k + " of " + what;
            add(name + ", a " + slot, -2, desk -> desk.step(k, what, slot, 0, 0));
            add(name + ", to " + slot, -2, desk -> desk.step(k, what, 0, 0, slot));
            if (Desks.takesTwo(what)) {
                add(name + ", b " + slot, -2, desk -> desk.step(k, what, 0, slot, 0));
            }
        }
    }

    private void twoSorts(int a, int b) {
        if (a != b) {
            add("hull of sorts " + a + " and " + b, -4, desk -> desk.hull(a, b, 5));
            add("meet of sorts " + a + " and " + b, -4, desk -> desk.meet(a, b, a));
        }
        if (a != b || a < Desks.FLOAT) {
            add("lend of sorts " + a + " and " + b, -4, desk -> desk.lend(a, b, b));
        }
    }

    private void notNumbers(int sort) {
        for (long v : Desks.notNumbers(sort)) {
            String name = Long.toHexString(v);
            add("set, low " + name, -4, desk -> desk.set(5, sort, v, 0));
            add("set, high " + name, -4, desk -> desk.set(5, sort, 0, v));
            add("set, both " + name, -4, desk -> desk.set(5, sort, v, v));
            addWide("near " + name, -4, desk -> desk.near(sort, v));
            add("has " + name, -4, desk -> desk.has(sort, v));
        }
    }
}
