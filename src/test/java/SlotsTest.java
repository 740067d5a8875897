/** Promises 1 to 6 and 15 to 17, what comes to slots and what is asked of them, sentence by sentence. */
public final class SlotsTest {
    private static final Sentences DOC = new Sentences();

    public static void main(String[] args) {
        made();
        told();
        asked();
        DOC.end();
    }

    private static void made() {
        DOC.section("Promise 1: A new object");
        DOC.says("All slots EMPTY,", SlotsTest::newSlots);
        DOC.says("the chain without steps.", SlotsTest::newChain);
        DOC.section("Promise 2: set");
        DOC.says("A RANGE comes to a slot: 1.", SlotsTest::set);
        DOC.says("-4: there is no such SORT,", SlotsTest::setNoSort);
        DOC.says("or one of both is not a number;", SlotsTest::setNotANumber);
        DOC.says("-5: low is greater than high.", SlotsTest::setLowAboveHigh);
        DOC.section("Promise 3: clear");
        DOC.says("The slot is EMPTY: 1,", SlotsTest::clear);
        DOC.says("or 0 if it was.", SlotsTest::clearEmpty);
    }

    private static void told() {
        DOC.section("Promise 4: sort");
        DOC.says("Its SORT.", SlotsTest::sort);
        DOC.section("Promise 5: low");
        DOC.says("Its LOW end.", SlotsTest::low);
        DOC.section("Promise 6: high");
        DOC.says("Its HIGH end.", SlotsTest::high);
    }

    private static void asked() {
        DOC.section("Promise 15: near");
        DOC.says("The number of the range that is the nearest one to v:", SlotsTest::near);
        DOC.says("v itself,", SlotsTest::nearInside);
        DOC.says("or an end.", SlotsTest::nearOutside);
        DOC.says("-4: v is not a number.", SlotsTest::nearNotANumber);
        DOC.section("Promise 16: has");
        DOC.says("1 if v is in it,", SlotsTest::hasInside);
        DOC.says("else 0.", SlotsTest::hasOutside);
        DOC.says("-4: v is not a number.", SlotsTest::hasNotANumber);
        DOC.section("Promise 17: alike");
        DOC.says("1 if both are of one SORT", SlotsTest::alikeSorts);
        DOC.says("and have the same ends, bit by bit,", SlotsTest::alikeEnds);
        DOC.says("else 0.", SlotsTest::notAlike);
    }

    private static void newSlots() {
        StretchDesk desk = new StretchDesk();
        DOC.due("state()", desk.state(), 0);
        for (int what = 0; what < 5; what++) {
            DOC.due("about " + what, desk.about(what), 0);
        }
        for (int slot = 0; slot < 16; slot++) {
            DOC.dueEmpty("slot " + slot, desk, slot);
            DOC.due("clear", desk.clear(slot), 0);
        }
        StretchDesk used = Desks.with(Desks.INT, 1, 2);
        DOC.dueEmpty("an object has slots of its own", new StretchDesk(), 0);
        DOC.dueRange("an object has slots of its own", used, 0, Desks.INT, 1, 2);
    }

    private static void newChain() {
        StretchDesk desk = new StretchDesk();
        DOC.due("steps", desk.about(1), 0);
        for (int k = 0; k < 12; k++) {
            DOC.dueDone("run from " + k, desk, desk.run(k, 12), 0);
        }
        DOC.due("steps done", desk.about(4), 0);
        DOC.due("REFUSED", desk.about(2), 0);
        StretchDesk used = Desks.with(Desks.INT, 1, 2);
        used.step(0, Desks.TURN, 0, 0, 0);
        DOC.due("an object has a chain of its own", new StretchDesk().run(0, 1), 0);
        DOC.due("an object has a chain of its own", used.run(0, 1), 1);
    }

    private static void set() {
        StretchDesk desk = new StretchDesk();
        for (int slot = 0; slot < 16; slot++) {
            DOC.dueDone("set " + slot, desk, desk.set(slot, slot % 4, slot, 20), 1);
            DOC.dueRange("set " + slot, desk, slot, slot % 4, slot, 20);
        }
        for (int sort = 0; sort < 4; sort++) {
            long[] line = Desks.line(sort);
            long least = line[0];
            long greatest = line[line.length - 1];
            DOC.dueDone("from end to end", desk, desk.set(7, sort, least, greatest), 1);
            DOC.dueRange("from end to end", desk, 7, sort, least, greatest);
            DOC.due("one number alone", desk.set(7, sort, least, least), 1);
            DOC.dueRange("one number alone", desk, 7, sort, least, least);
            DOC.due("the next one, too", desk.set(7, sort, least, line[1]), 1);
            DOC.dueRange("the next one, too", desk, 7, sort, least, line[1]);
        }
    }

    private static void setNoSort() {
        StretchDesk desk = Desks.with(Desks.INT, 1, 2);
        for (int sort : Desks.NO_SORTS) {
            DOC.dueRefusal("set", desk, desk.set(0, sort, 1, 2), -4);
            DOC.dueRefusal("set, low above high, too", desk, desk.set(0, sort, 2, 1), -4);
            DOC.dueRefusal("set what was EMPTY", desk, desk.set(1, sort, 1, 2), -4);
        }
        DOC.dueRange("what was there", desk, 0, Desks.INT, 1, 2);
        DOC.dueEmpty("what was EMPTY", desk, 1);
    }

    private static void setNotANumber() {
        for (int sort = Desks.FLOAT; sort <= Desks.DOUBLE; sort++) {
            long infinity = Desks.broken(sort, Desks.INF);
            StretchDesk desk = Desks.with(Desks.INT, 1, 2);
            for (long v : Desks.notNumbers(sort)) {
                DOC.dueRefusal("low", desk, desk.set(0, sort, v, infinity), -4);
                DOC.dueRefusal("low, above high by its bits", desk, desk.set(0, sort, v, 0), -4);
                DOC.dueRefusal("high", desk, desk.set(0, sort, 0, v), -4);
                DOC.dueRefusal("high, below low by its bits", desk, desk.set(0, sort, infinity, v), -4);
                DOC.dueRefusal("both", desk, desk.set(0, sort, v, v), -4);
            }
            DOC.dueRange("what was there", desk, 0, Desks.INT, 1, 2);
            DOC.due("infinity is a number", desk.set(0, sort, infinity, infinity), 1);
            long below = Desks.broken(sort, -Desks.INF);
            DOC.due("the one below 0, too", desk.set(0, sort, below, below), 1);
        }
        StretchDesk desk = new StretchDesk();
        DOC.due("every INT is a number", desk.set(0, Desks.INT, 0xffc00000L, 0x7fc00000L), 1);
        DOC.due("every LONG is a number", desk.set(0, Desks.LONG, -1, 0x7ff8000000000000L), 1);
    }

    private static void setLowAboveHigh() {
        for (int sort = 0; sort < 4; sort++) {
            long[] line = Desks.line(sort);
            StretchDesk desk = Desks.with(Desks.LONG, 1, 2);
            for (int i = 1; i < line.length; i++) {
                DOC.dueRefusal("by one place", desk, desk.set(0, sort, line[i], line[i - 1]), -5);
                DOC.dueRefusal("by all places", desk, desk.set(0, sort, line[i], line[0]), -5);
            }
            DOC.dueRange("what was there", desk, 0, Desks.LONG, 1, 2);
        }
    }

    private static void clear() {
        for (int slot : new int[] {0, 7, 15}) {
            StretchDesk desk = new StretchDesk();
            Desks.put(desk, slot, Desks.DOUBLE, 1, 2);
            DOC.dueDone("clear", desk, desk.clear(slot), 1);
            DOC.dueEmpty("clear", desk, slot);
            DOC.due("slots that are not EMPTY", desk.about(0), 0);
            DOC.due("it may be set again", desk.set(slot, Desks.INT, 3, 4), 1);
            DOC.dueRange("it may be set again", desk, slot, Desks.INT, 3, 4);
        }
        StretchDesk desk = Desks.withTwo(Desks.INT, 1, 2, 3, 4);
        DOC.due("clear", desk.clear(0), 1);
        DOC.dueRange("another slot stays", desk, 1, Desks.INT, 3, 4);
        for (int slot : Desks.NO_SLOTS) {
            DOC.dueRefusal("clear " + slot, desk, desk.clear(slot), -2);
        }
    }

    private static void clearEmpty() {
        StretchDesk desk = Desks.with(Desks.INT, 1, 2);
        DOC.dueDone("never set", desk, desk.clear(15), 0);
        DOC.due("clear", desk.clear(0), 1);
        DOC.dueDone("cleared before", desk, desk.clear(0), 0);
        DOC.due("that is not REFUSED", desk.about(2), 0);
        DOC.dueEmpty("cleared twice", desk, 0);
        Desks.put(desk, 0, Desks.INT, 1, 2);
        Desks.put(desk, 1, Desks.INT, 3, 4);
        DOC.due("meet", desk.meet(0, 1, 0), 0);
        DOC.dueDone("EMPTY by a meet", desk, desk.clear(0), 0);
        DOC.due("refused", desk.sort(0), -3);
        DOC.dueDone("after a refusal", desk, desk.clear(0), 0);
    }

    private static void sort() {
        StretchDesk desk = new StretchDesk();
        for (int sort = 0; sort < 4; sort++) {
            Desks.put(desk, sort, sort, 0, 1);
            DOC.dueDone("sort", desk, desk.sort(sort), sort);
        }
        DOC.dueRefusal("sort of EMPTY", desk, desk.sort(9), -3);
        for (int slot : Desks.NO_SLOTS) {
            DOC.dueRefusal("sort of " + slot, desk, desk.sort(slot), -2);
        }
        DOC.due("sort is no end that was told", desk.about(3), 0);
    }

    private static void low() {
        StretchDesk desk = new StretchDesk();
        for (int sort = 0; sort < 4; sort++) {
            long[] line = Desks.line(sort);
            for (long v : line) {
                Desks.put(desk, 0, sort, v, line[line.length - 1]);
                DOC.dueDone("low", desk, desk.low(0), v);
            }
        }
        DOC.due("low of EMPTY", desk.low(9), 0);
        DOC.due("low of EMPTY: state()", desk.state(), -3);
        for (int slot : Desks.NO_SLOTS) {
            DOC.due("low of " + slot, desk.low(slot), 0);
            DOC.due("low of " + slot + ": state()", desk.state(), -2);
        }
    }

    private static void high() {
        StretchDesk desk = new StretchDesk();
        for (int sort = 0; sort < 4; sort++) {
            long[] line = Desks.line(sort);
            for (long v : line) {
                Desks.put(desk, 0, sort, line[0], v);
                DOC.dueDone("high", desk, desk.high(0), v);
            }
        }
        DOC.due("high of EMPTY", desk.high(9), 0);
        DOC.due("high of EMPTY: state()", desk.state(), -3);
        for (int slot : Desks.NO_SLOTS) {
            DOC.due("high of " + slot, desk.high(slot), 0);
            DOC.due("high of " + slot + ": state()", desk.state(), -2);
        }
    }

    /** Every range between numbers of the line, asked for every number of the line. */
    private static void near() {
        for (int sort = 0; sort < 4; sort++) {
            long[] line = Desks.line(sort);
            for (int low = 0; low < line.length; low++) {
                for (int high = low; high < line.length; high++) {
                    StretchDesk desk = Desks.with(sort, line[low], line[high]);
                    for (int i = 0; i < line.length; i++) {
                        long want = line[Math.min(Math.max(i, low), high)];
                        String name = "near " + line[i] + " in " + line[low] + " .. " + line[high];
                        DOC.dueDone(name, desk, desk.near(0, line[i]), want);
                    }
                }
            }
        }
    }

    private static void nearInside() {
        for (int sort = 0; sort < 4; sort++) {
            long[] line = Desks.line(sort);
            StretchDesk desk = Desks.with(sort, line[0], line[line.length - 1]);
            for (long v : line) {
                DOC.dueDone("in all that there is", desk, desk.near(0, v), v);
            }
            DOC.due("the range stays", desk.low(0), line[0]);
        }
        StretchDesk desk = Desks.with(Desks.INT, -2, 5);
        DOC.due("LOW", desk.near(0, -2), -2);
        DOC.due("HIGH", desk.near(0, 5), 5);
        DOC.due("inside", desk.near(0, 0x1_0000_0004L), 4);
        Desks.put(desk, 0, Desks.DOUBLE, Desks.d(-2), Desks.d(5));
        DOC.due("-0 where 0 is inside, too", desk.near(0, Desks.d(-0.0)), Desks.d(-0.0));
        DOC.due("0 where -0 is inside, too", desk.near(0, 0), 0);
    }

    private static void nearOutside() {
        StretchDesk desk = Desks.with(Desks.INT, -2, 5);
        DOC.due("one below LOW", desk.near(0, -3), -2);
        DOC.due("one above HIGH", desk.near(0, 6), 5);
        DOC.due("the greatest INT", desk.near(0, 0x7fff_ffffL), 5);
        DOC.due("the least INT", desk.near(0, 0x8000_0000L), -2);
        Desks.put(desk, 0, Desks.LONG, -2, 5);
        DOC.due("the greatest LONG", desk.near(0, Long.MAX_VALUE), 5);
        DOC.due("the least LONG", desk.near(0, Long.MIN_VALUE), -2);
        for (int sort = Desks.FLOAT; sort <= Desks.DOUBLE; sort++) {
            long low = Desks.broken(sort, -2);
            long high = Desks.broken(sort, 5);
            Desks.put(desk, 0, sort, low, high);
            DOC.due("infinity", desk.near(0, Desks.broken(sort, Desks.INF)), high);
            DOC.due("infinity below 0", desk.near(0, Desks.broken(sort, -Desks.INF)), low);
            DOC.due("below LOW", desk.near(0, Desks.broken(sort, -2.5)), low);
            DOC.due("above HIGH", desk.near(0, Desks.broken(sort, 5.5)), high);
            Desks.put(desk, 0, sort, 0, high);
            DOC.due("-0 below 0", desk.near(0, Desks.broken(sort, -0.0)), 0);
            Desks.put(desk, 0, sort, low, Desks.broken(sort, -0.0));
            DOC.due("0 above -0", desk.near(0, 0), Desks.broken(sort, -0.0));
        }
    }

    private static void nearNotANumber() {
        for (int sort = Desks.FLOAT; sort <= Desks.DOUBLE; sort++) {
            for (long v : Desks.notNumbers(sort)) {
                StretchDesk desk = Desks.with(sort, 1, 2);
                DOC.due("near", desk.near(0, v), 0);
                DOC.due("near: state()", desk.state(), -4);
                DOC.due("near of EMPTY", desk.near(1, v), 0);
                DOC.due("near of EMPTY: state()", desk.state(), -3);
            }
        }
        StretchDesk desk = Desks.with(Desks.DOUBLE, 0, Desks.d(1));
        DOC.dueDone("what is none of FLOAT is one of DOUBLE", desk, desk.near(0, 0x7fc00000L), 0x7fc00000L);
        Desks.put(desk, 0, Desks.INT, 0, 7);
        DOC.dueDone("what is none of FLOAT is one of INT", desk, desk.near(0, 0x7fc00000L), 7);
        Desks.put(desk, 0, Desks.LONG, 0, 7);
        DOC.dueDone("what is none of DOUBLE is one of LONG", desk, desk.near(0, 0x7ff8000000000000L), 7);
    }

    private static void hasInside() {
        for (int sort = 0; sort < 4; sort++) {
            long[] line = Desks.line(sort);
            StretchDesk desk = Desks.with(sort, line[1], line[4]);
            for (int i = 1; i <= 4; i++) {
                DOC.dueDone("from LOW to HIGH", desk, desk.has(0, line[i]), 1);
            }
        }
        StretchDesk desk = Desks.with(Desks.FLOAT, Desks.f(-1), 0);
        DOC.due("-0 below HIGH", desk.has(0, Desks.f(-0f)), 1);
        Desks.put(desk, 0, Desks.INT, -2, 5);
        DOC.due("by the lowest 32 bits", desk.has(0, 0x1_0000_0004L), 1);
        DOC.due("by the lowest 32 bits", desk.has(0, 0xffff_ffffL), 1);
    }

    private static void hasOutside() {
        for (int sort = 0; sort < 4; sort++) {
            long[] line = Desks.line(sort);
            StretchDesk desk = Desks.with(sort, line[1], line[4]);
            DOC.dueDone("the next one below LOW", desk, desk.has(0, line[0]), 0);
            DOC.dueDone("the next one above HIGH", desk, desk.has(0, line[5]), 0);
            DOC.dueDone("the greatest", desk, desk.has(0, line[line.length - 1]), 0);
        }
        StretchDesk desk = Desks.with(Desks.LONG, -2, 5);
        DOC.due("a LONG is told by all its bits", desk.has(0, 0xffff_ffffL), 0);
        Desks.put(desk, 0, Desks.DOUBLE, Desks.d(1), Desks.d(Double.MAX_VALUE));
        DOC.due("infinity above the greatest", desk.has(0, Desks.d(Desks.INF)), 0);
        DOC.due("that is not REFUSED", desk.about(2), 0);
    }

    private static void hasNotANumber() {
        for (int sort = Desks.FLOAT; sort <= Desks.DOUBLE; sort++) {
            long[] line = Desks.line(sort);
            for (long v : Desks.notNumbers(sort)) {
                StretchDesk desk = Desks.with(sort, line[0], line[line.length - 1]);
                DOC.dueRefusal("has", desk, desk.has(0, v), -4);
                DOC.dueRefusal("has of EMPTY", desk, desk.has(1, v), -3);
            }
        }
        StretchDesk desk = Desks.with(Desks.DOUBLE, 0, Desks.d(1));
        DOC.dueDone("what is none of FLOAT is one of DOUBLE", desk, desk.has(0, 0x7fc00000L), 1);
        Desks.put(desk, 0, Desks.INT, 0, 7);
        DOC.dueDone("what is none of FLOAT is one of INT", desk, desk.has(0, 0x7fc00000L), 0);
    }

    private static void alikeSorts() {
        for (int a = 0; a < 4; a++) {
            for (int b = 0; b < 4; b++) {
                StretchDesk desk = Desks.with(a, 1, 2);
                Desks.put(desk, 1, b, 1, 2);
                DOC.dueDone("sorts " + a + " and " + b, desk, desk.alike(0, 1), a == b ? 1 : 0);
            }
        }
        StretchDesk desk = Desks.with(Desks.INT, 1, 2);
        DOC.due("a slot and itself", desk.alike(0, 0), 1);
        DOC.dueRefusal("b EMPTY", desk, desk.alike(0, 9), -3);
        DOC.dueRefusal("a EMPTY", desk, desk.alike(9, 0), -3);
        DOC.dueRefusal("both EMPTY", desk, desk.alike(9, 9), -3);
        for (int slot : Desks.NO_SLOTS) {
            DOC.dueRefusal("a none", desk, desk.alike(slot, 9), -2);
            DOC.dueRefusal("b none", desk, desk.alike(9, slot), -2);
        }
    }

    private static void alikeEnds() {
        for (int sort = 0; sort < 4; sort++) {
            for (long low : Desks.line(sort)) {
                for (long high : Desks.line(sort)) {
                    StretchDesk desk = new StretchDesk();
                    if (desk.set(0, sort, low, high) == 1) {
                        Desks.put(desk, 15, sort, low, high);
                        DOC.dueDone("the same ends", desk, desk.alike(0, 15), 1);
                    }
                }
            }
        }
        StretchDesk desk = Desks.withTwo(Desks.INT, 1, 2, 0x5_0000_0001L, 0x6_0000_0002L);
        DOC.due("of an INT the lowest bits", desk.alike(0, 1), 1);
        Desks.put(desk, 0, Desks.FLOAT, 0xffff_ffff_8000_0000L, 0);
        Desks.put(desk, 1, Desks.FLOAT, 0x8000_0000L, 0x1_0000_0000L);
        DOC.due("of a FLOAT the lowest bits", desk.alike(0, 1), 1);
    }

    private static void notAlike() {
        for (int sort = 0; sort < 4; sort++) {
            long[] line = Desks.line(sort);
            StretchDesk desk = Desks.with(sort, line[2], line[5]);
            for (int i = 0; i < line.length; i++) {
                if (i != 2 && i <= 5) {
                    Desks.put(desk, 1, sort, line[i], line[5]);
                    DOC.dueDone("another LOW", desk, desk.alike(0, 1), 0);
                }
                if (i != 5 && i >= 2) {
                    Desks.put(desk, 1, sort, line[2], line[i]);
                    DOC.dueDone("another HIGH", desk, desk.alike(0, 1), 0);
                }
            }
        }
        for (int sort = Desks.FLOAT; sort <= Desks.DOUBLE; sort++) {
            long minus = Desks.broken(sort, -0.0);
            StretchDesk desk = Desks.withTwo(sort, minus, 0, 0, 0);
            DOC.dueDone("-0 and 0 as LOW", desk, desk.alike(0, 1), 0);
            Desks.put(desk, 1, sort, minus, minus);
            DOC.dueDone("0 and -0 as HIGH", desk, desk.alike(0, 1), 0);
        }
    }
}
