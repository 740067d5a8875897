import java.util.List;

/** The terms of the document, which bind all promises, sentence by sentence. */
public final class TermsTest {
    private static final Sentences DOC = new Sentences();

    public static void main(String[] args) {
        DOC.section("What it is");
        DOC.says("A desk of ranges: pieces of the line of whole or broken numbers between two ends, open to infinity, "
            + "too; joined, cut by one another, turned over at zero, rounded to whole ends, lent signs, made of "
            + "another sort; one by one, or in chains of steps.", TermsTest::oneByOneOrInAChain);
        DOC.says("An object is used for at most 512 calls after it has been made; what later calls answer is free.",
            TermsTest::all512Calls);
        DOC.section("Terms");
        sorts();
        order();
        slots();
        refusals();
        DOC.end();
    }

    private static void sorts() {
        DOC.says("SORTS: 0 INT, 1 LONG (whole, with sign, of 32 and 64 bits),", TermsTest::wholeSorts);
        DOC.says("2 FLOAT, 3 DOUBLE (IEEE 754, of 32 and 64 bits:", TermsTest::brokenSorts);
        DOC.says("infinities, both zeros and the least ones, too,", TermsTest::edgesOfBroken);
        DOC.says("but nothing that is not a number).", TermsTest::notNumbers);
        DOC.says("Numbers come and are told in 64 bits: a LONG as it is;", TermsTest::longsAsTheyAre);
        DOC.says("of an INT the lowest 32 bits count (told with sign);", TermsTest::lowestBitsOfInt);
        DOC.says("of a FLOAT these are its bits (told as an int is, with sign);", TermsTest::lowestBitsOfFloat);
        DOC.says("a DOUBLE by its bits.", TermsTest::doubleByItsBits);
    }

    private static void order() {
        DOC.says("The ORDER: as numbers,", TermsTest::orderOfNumbers);
        DOC.says("and -0 is less than 0.", TermsTest::orderOfZeros);
        DOC.says("ORDERED are two ends when the lesser one is LOW, the other one HIGH.", TermsTest::ordered);
    }

    private static void slots() {
        DOC.says("A SLOT (0 .. 15)", TermsTest::firstAndLastSlot);
        DOC.says("is EMPTY (at first),", TermsTest::emptyAtFirst);
        DOC.says("or has a RANGE: its SORT, its LOW and its HIGH end,", TermsTest::slotsApart);
        DOC.says("LOW not greater than HIGH.", TermsTest::oneNumberAlone);
        DOC.says("A number is in it if it is not less than LOW and not greater than HIGH.", TermsTest::inIt);
        DOC.says("What comes to a slot is in the place of what was there;", TermsTest::inThePlace);
        DOC.says("a slot may be both what is taken and where it comes to.", TermsTest::takenAndComeTo);
    }

    private static void refusals() {
        DOC.says("REFUSED, with nothing changed,", TermsTest::nothingChanged);
        DOC.says("the first of these that holds: -2 a slot that is told is none;", () -> dueAll(Refusals.forNoSlot()));
        DOC.says("-3 a slot that is taken is EMPTY;", TermsTest::takenButEmpty);
        DOC.says("-4 SORT: as told;", () -> dueAll(Refusals.forSort()));
        DOC.says("-5 as told.", () -> dueAll(Refusals.forValue()));
        DOC.says("Calls of 64 bits answer 0 then; state() tells.", TermsTest::callsOf64Bits);
    }

    private static void oneByOneOrInAChain() {
        int[] bs = {1, 1, 0, 3, 0, 1, 0, Desks.LONG};
        for (int what = 0; what < 8; what++) {
            StretchDesk desk = twoDoubles();
            DOC.due("one by one", Desks.perform(desk, what, 0, bs[what], 2), 1);
            DOC.due("step", desk.step(0, what, 0, bs[what], 3), 1);
            DOC.due("in a chain", desk.run(0, 1), 1);
            DOC.due("operation " + what + " does the same both ways", desk.alike(2, 3), 1);
        }
    }

    private static void all512Calls() {
        StretchDesk refusing = new StretchDesk();
        for (int call = 1; call < 512; call++) {
            DOC.due("call " + call, refusing.sort(0), -3);
        }
        DOC.due("call 512", refusing.about(2), 511);
        StretchDesk telling = Desks.with(Desks.INT, 1, 2);
        for (int call = 2; call < 512; call++) {
            DOC.due("call " + call, telling.high(0), 2);
        }
        DOC.due("call 512", telling.about(3), 510);
        StretchDesk running = Desks.with(Desks.INT, 1, 2);
        for (int k = 0; k < 12; k++) {
            running.step(k, Desks.TURN, 0, 0, 0);
        }
        for (int call = 14; call < 512; call++) {
            DOC.due("call " + call, running.run(0, 12), 12);
        }
        DOC.due("call 512", running.about(4), 498 * 12);
    }

    private static void wholeSorts() {
        dueWhole(Desks.INT, Integer.MIN_VALUE, Integer.MAX_VALUE);
        dueWhole(Desks.LONG, Long.MIN_VALUE, Long.MAX_VALUE);
        StretchDesk desk = new StretchDesk();
        DOC.due("one above the greatest INT is the least one", desk.set(0, Desks.INT, 0x80000000L, 0x7fffffffL), 1);
        DOC.dueRange("one above the greatest INT", desk, 0, Desks.INT, Integer.MIN_VALUE, Integer.MAX_VALUE);
        DOC.due("one above the greatest INT is a LONG", desk.set(0, Desks.LONG, 0x7fffffffL, 0x80000000L), 1);
        DOC.dueRange("one above the greatest INT", desk, 0, Desks.LONG, 0x7fffffffL, 0x80000000L);
    }

    private static void dueWhole(int sort, long least, long greatest) {
        StretchDesk desk = new StretchDesk();
        DOC.due("from the least to the greatest", desk.set(0, sort, least, greatest), 1);
        DOC.dueRange("from the least to the greatest", desk, 0, sort, least, greatest);
        DOC.due("from the greatest to the least", desk.set(0, sort, greatest, least), -5);
        DOC.due("bits that are no broken number are a whole one", desk.set(0, sort, -1, 0x7fc00000L), 1);
        DOC.dueRange("bits that are no broken number", desk, 0, sort, -1, 0x7fc00000L);
    }

    private static void brokenSorts() {
        StretchDesk desk = new StretchDesk();
        DOC.due("FLOAT", desk.set(0, 2, 0x3f800000L, 0x40000000L), 1);
        DOC.due("DOUBLE", desk.set(1, 3, 0x3ff0000000000000L, 0x4000000000000000L), 1);
        DOC.due("FLOAT to DOUBLE", desk.as(0, 3, 2), 1);
        DOC.due("1 .. 2 is the same in both", desk.alike(1, 2), 1);
        DOC.due("bits of a FLOAT that is no number are a DOUBLE", desk.set(3, 3, 0x7fc00000L, 0x7fffffffL), 1);
        DOC.dueRange("least DOUBLES", desk, 3, Desks.DOUBLE, 0x7fc00000L, 0x7fffffffL);
        DOC.due("lowest bits of a DOUBLE that is no number are a FLOAT", desk.set(4, 2, 0, 0x7ff0000000000001L), 1);
        DOC.dueRange("least FLOAT", desk, 4, Desks.FLOAT, 0, 1);
    }

    private static void edgesOfBroken() {
        for (int sort = Desks.FLOAT; sort <= Desks.DOUBLE; sort++) {
            for (long v : Desks.line(sort)) {
                StretchDesk desk = new StretchDesk();
                DOC.due("set", desk.set(0, sort, v, v), 1);
                DOC.dueRange("set", desk, 0, sort, v, v);
                DOC.due("has", desk.has(0, v), 1);
                DOC.due("near", desk.near(0, v), v);
            }
        }
    }

    private static void notNumbers() {
        for (int sort = Desks.FLOAT; sort <= Desks.DOUBLE; sort++) {
            StretchDesk desk = Desks.with(sort, 0, 1);
            for (long v : Desks.notNumbers(sort)) {
                DOC.dueRefusal("set low", desk, desk.set(0, sort, v, 1), -4);
                DOC.dueRefusal("set high", desk, desk.set(0, sort, 0, v), -4);
            }
        }
    }

    private static void longsAsTheyAre() {
        StretchDesk desk = new StretchDesk();
        for (long v : Desks.line(Desks.LONG)) {
            DOC.due("set", desk.set(0, Desks.LONG, v, v), 1);
            DOC.due("low", desk.low(0), v);
            DOC.due("high", desk.high(0), v);
            DOC.due("near", desk.near(0, v), v);
            DOC.due("has", desk.has(0, v), 1);
            DOC.due("has another one of the same lowest bits", desk.has(0, v ^ (1L << 32)), 0);
        }
    }

    private static void lowestBitsOfInt() {
        dueLowestBits(Desks.INT);
        StretchDesk desk = new StretchDesk();
        DOC.dueRefusal("set: the upper bits don't lift low over high, nor high over low", desk,
            desk.set(0, Desks.INT, 2, 0x7_0000_0001L), -5);
        DOC.due("set", desk.set(0, Desks.INT, 0x7_0000_0001L, 2), 1);
        DOC.due("near, told with sign", desk.near(0, 0xffff_ffff_8000_0000L), 1);
        DOC.due("set", desk.set(0, Desks.INT, -9, -1), 1);
        DOC.due("near, told with sign", desk.near(0, 0xffff_fffcL), -4);
        DOC.due("has, with sign", desk.has(0, 0xffff_ffffL), 1);
        DOC.due("has, with sign", desk.has(0, 0x7fff_ffffL), 0);
    }

    private static void lowestBitsOfFloat() {
        dueLowestBits(Desks.FLOAT);
        StretchDesk desk = new StretchDesk();
        DOC.dueRefusal("set: the upper bits don't lift low over high, nor high over low", desk,
            desk.set(0, Desks.FLOAT, 2, 0x7_0000_0001L), -5);
        DOC.dueRefusal("set: the upper bits make no number of what is none", desk,
            desk.set(0, Desks.FLOAT, 0, 0x7_7fc0_0000L), -4);
        DOC.due("set", desk.set(0, Desks.FLOAT, 0xbf800000L, 0xbf000000L), 1);
        DOC.dueRange("told with sign", desk, 0, Desks.FLOAT, Desks.f(-1), Desks.f(-0.5f));
        DOC.due("near, told with sign", desk.near(0, 0xbf400000L), Desks.f(-0.75f));
    }

    /** Whatever stands in the upper bits, the number is the same. */
    private static void dueLowestBits(int sort) {
        for (long v : Desks.line(sort)) {
            for (long upper : new long[] {0, 1L << 32, 0x7fff_ffff_0000_0000L, 0x8000_0000_0000_0000L, -1L << 32}) {
                long bits = (v & 0xffffffffL) | upper;
                StretchDesk desk = new StretchDesk();
                DOC.due("set", desk.set(0, sort, bits, v), 1);
                DOC.due("set", desk.set(1, sort, v, bits), 1);
                DOC.dueRange("told with sign", desk, 0, sort, v, v);
                DOC.dueRange("told with sign", desk, 1, sort, v, v);
                DOC.due("alike", desk.alike(0, 1), 1);
                DOC.due("near", desk.near(0, bits), v);
                DOC.due("has", desk.has(0, bits), 1);
            }
        }
    }

    private static void doubleByItsBits() {
        StretchDesk desk = new StretchDesk();
        for (long v : Desks.line(Desks.DOUBLE)) {
            DOC.due("set", desk.set(0, Desks.DOUBLE, v, v), 1);
            DOC.due("low", desk.low(0), v);
            DOC.due("high", desk.high(0), v);
        }
        DOC.due("the upper bits count", desk.set(0, Desks.DOUBLE, 0x1_0000_0000L, 0x2_0000_0000L), 1);
        DOC.due("has what has the same lowest bits alone", desk.has(0, 0), 0);
    }

    private static void orderOfNumbers() {
        for (int sort = 0; sort < 4; sort++) {
            long[] line = Desks.line(sort);
            for (int i = 0; i < line.length; i++) {
                StretchDesk desk = new StretchDesk();
                for (int j = 0; j < line.length; j++) {
                    String name = line[i] + " .. " + line[j] + " of sort " + sort;
                    DOC.due(name, desk.set(0, sort, line[i], line[j]), i <= j ? 1 : -5);
                }
            }
        }
    }

    private static void orderOfZeros() {
        for (int sort = Desks.FLOAT; sort <= Desks.DOUBLE; sort++) {
            long minus = Desks.broken(sort, -0.0);
            StretchDesk desk = new StretchDesk();
            DOC.due("-0 .. 0", desk.set(0, sort, minus, 0), 1);
            DOC.dueRefusal("0 .. -0", desk, desk.set(1, sort, 0, minus), -5);
            DOC.due("0 .. 0", desk.set(1, sort, 0, 0), 1);
            DOC.due("-0 .. -0", desk.set(2, sort, minus, minus), 1);
            DOC.due("-0 in 0 .. 0", desk.has(1, minus), 0);
            DOC.due("0 in -0 .. -0", desk.has(2, 0), 0);
            DOC.due("the one nearest to -0 in 0 .. 0", desk.near(1, minus), 0);
            DOC.due("the one nearest to 0 in -0 .. -0", desk.near(2, 0), minus);
        }
    }

    private static void ordered() {
        StretchDesk desk = Desks.withTwo(Desks.FLOAT, Desks.f(-3), Desks.f(-2), Desks.f(1), Desks.f(2));
        DOC.due("size", desk.size(0, 2), 1);
        DOC.dueRange("size", desk, 2, Desks.FLOAT, Desks.f(2), Desks.f(3));
        DOC.due("lend", desk.lend(0, 1, 2), 1);
        DOC.dueRange("lend", desk, 2, Desks.FLOAT, Desks.f(2), Desks.f(3));
        DOC.due("turn", desk.turn(1, 2), 1);
        DOC.dueRange("turn", desk, 2, Desks.FLOAT, Desks.f(-2), Desks.f(-1));
        Desks.put(desk, 3, Desks.LONG, 5, 0x1_0000_0003L);
        DOC.due("as", desk.as(3, Desks.INT, 2), 1);
        DOC.dueRange("as", desk, 2, Desks.INT, 3, 5);
    }

    private static void firstAndLastSlot() {
        StretchDesk desk = new StretchDesk();
        for (int slot = 0; slot < 16; slot++) {
            DOC.due("set " + slot, desk.set(slot, Desks.DOUBLE, Desks.d(1), Desks.d(1.5)), 1);
            DOC.dueRange("slot " + slot, desk, slot, Desks.DOUBLE, Desks.d(1), Desks.d(1.5));
        }
        for (int slot : new int[] {0, 15}) {
            for (int what = 0; what < 8; what++) {
                int b = Desks.takesTwo(what) ? slot : Desks.DOUBLE;
                DOC.dueDone("operation " + what, desk, Desks.perform(desk, what, slot, b, 15 - slot), 1);
                DOC.dueDone("step of " + what, desk, desk.step(0, what, slot, b, 15 - slot), 1);
            }
            DOC.dueDone("near", desk, desk.near(slot, Desks.d(Desks.INF)), desk.high(slot));
            DOC.dueDone("has", desk, desk.has(slot, desk.low(slot)), 1);
            DOC.dueDone("alike", desk, desk.alike(slot, slot), 1);
            DOC.dueDone("clear", desk, desk.clear(slot), 1);
            Desks.put(desk, slot, Desks.DOUBLE, Desks.d(1), Desks.d(1.5));
        }
    }

    private static void emptyAtFirst() {
        StretchDesk desk = new StretchDesk();
        DOC.due("slots that are not EMPTY", desk.about(0), 0);
        for (int slot = 0; slot < 16; slot++) {
            DOC.dueEmpty("slot " + slot, desk, slot);
        }
    }

    private static void slotsApart() {
        StretchDesk desk = new StretchDesk();
        for (int slot = 0; slot < 16; slot++) {
            Desks.put(desk, slot, slot % 4, 10 + slot, 100 - slot);
        }
        for (int slot = 0; slot < 16; slot++) {
            DOC.dueRange("slot " + slot, desk, slot, slot % 4, 10 + slot, 100 - slot);
        }
    }

    private static void oneNumberAlone() {
        for (int sort = 0; sort < 4; sort++) {
            for (long v : Desks.line(sort)) {
                StretchDesk desk = new StretchDesk();
                DOC.due("LOW may be HIGH", desk.set(0, sort, v, v), 1);
                DOC.dueRange("LOW may be HIGH", desk, 0, sort, v, v);
            }
        }
    }

    private static void inIt() {
        for (int sort = 0; sort < 4; sort++) {
            long[] line = Desks.line(sort);
            for (int low = 0; low < line.length; low++) {
                for (int high = low; high < line.length; high++) {
                    StretchDesk desk = Desks.with(sort, line[low], line[high]);
                    for (int i = 0; i < line.length; i++) {
                        String name = line[i] + " in " + line[low] + " .. " + line[high];
                        DOC.due(name, desk.has(0, line[i]), i >= low && i <= high ? 1 : 0);
                    }
                }
            }
        }
    }

    private static void inThePlace() {
        for (int sort = 0; sort < 4; sort++) {
            StretchDesk desk = Desks.with(sort, 3, 9);
            DOC.due("set", desk.set(0, 3 - sort, 1, 2), 1);
            DOC.dueRange("set over another sort", desk, 0, 3 - sort, 1, 2);
            Desks.put(desk, 1, sort, 4, 5);
            DOC.due("as", desk.as(0, 3 - sort, 1), 1);
            DOC.dueRange("as over another sort", desk, 1, 3 - sort, 1, 2);
            DOC.due("slots that are not EMPTY", desk.about(0), 2);
        }
        StretchDesk desk = Desks.withTwo(Desks.INT, 1, 2, 3, 4);
        Desks.put(desk, 2, Desks.DOUBLE, 3, 4);
        DOC.due("nothing in the place of something", desk.meet(0, 1, 2), 0);
        DOC.dueEmpty("nothing in the place of something", desk, 2);
        DOC.due("something in the place of nothing", desk.hull(0, 1, 2), 1);
        DOC.dueRange("something in the place of nothing", desk, 2, Desks.INT, 1, 4);
    }

    private static StretchDesk twoDoubles() {
        return Desks.withTwo(Desks.DOUBLE, Desks.d(-2.5), Desks.d(7.25), Desks.d(-8.5), Desks.d(-1.5));
    }

    private static void takenAndComeTo() {
        for (int what = 0; what < 8; what++) {
            int b = Desks.takesTwo(what) ? 1 : 2;
            StretchDesk desk = twoDoubles();
            DOC.due("to another one", Desks.perform(desk, what, 0, b, 2), 1);
            StretchDesk same = twoDoubles();
            DOC.due("to a", Desks.perform(same, what, 0, b, 0), 1);
            DOC.dueRange("to a: " + what, same, 0, desk.sort(2), desk.low(2), desk.high(2));
            DOC.dueRange("to a leaves the other: " + what, same, 1, Desks.DOUBLE, Desks.d(-8.5), Desks.d(-1.5));
            if (Desks.takesTwo(what)) {
                same = twoDoubles();
                DOC.due("to b", Desks.perform(same, what, 0, b, 1), 1);
                DOC.dueRange("to b: " + what, same, 1, desk.sort(2), desk.low(2), desk.high(2));
                DOC.dueRange("to b leaves a: " + what, same, 0, Desks.DOUBLE, Desks.d(-2.5), Desks.d(7.25));
                DOC.due("of one slot alone", Desks.perform(same, what, 0, 0, 0), 1);
                DOC.dueRange("of one slot alone: " + what, same, 0, Desks.DOUBLE, Desks.d(-2.5), Desks.d(7.25));
            }
        }
    }

    private static void dueAll(List<Refusals.Refused> refusals) {
        for (Refusals.Refused refused : refusals) {
            StretchDesk desk = Refusals.busyDesk();
            DOC.due(refused.call(), refused.asked().applyAsLong(desk), refused.answer());
            DOC.due(refused.call() + ": state()", desk.state(), refused.code());
        }
    }

    private static void takenButEmpty() {
        dueAll(Refusals.forEmpty());
        StretchDesk desk = Refusals.busyDesk();
        DOC.dueDone("clear takes nothing", desk, desk.clear(Refusals.EMPTY), 0);
        DOC.dueDone("step takes nothing", desk, desk.step(0, Desks.HULL, Refusals.EMPTY, Refusals.EMPTY, 0), 1);
        DOC.dueDone("to is not taken", desk, desk.turn(0, Refusals.EMPTY), 1);
    }

    /** Two desks have the same past, but for one call that was REFUSED. */
    private static void nothingChanged() {
        for (Refusals.Refused refused : Refusals.all()) {
            StretchDesk desk = Refusals.busyDesk();
            StretchDesk twin = Refusals.busyDesk();
            refused.asked().applyAsLong(desk);
            DOC.due(refused.call() + ": calls REFUSED", desk.about(2), twin.about(2) + 1);
            for (int what : new int[] {0, 1, 3, 4}) {
                DOC.due(refused.call() + ": about " + what, desk.about(what), twin.about(what));
            }
            dueSameSlots(refused.call(), desk, twin);
            for (int k = 0; k < 12; k++) {
                DOC.due(refused.call() + ": step " + k, desk.run(k, 1), twin.run(k, 1));
                DOC.due(refused.call() + ": step " + k + ", state()", desk.state(), twin.state());
            }
            dueSameSlots(refused.call() + ", then the chain", desk, twin);
        }
    }

    private static void dueSameSlots(String call, StretchDesk desk, StretchDesk twin) {
        for (int slot = 0; slot < 16; slot++) {
            DOC.dueRange(call + ": slot " + slot, desk, slot, twin.sort(slot), twin.low(slot), twin.high(slot));
        }
    }

    private static void callsOf64Bits() {
        int found = 0;
        for (Refusals.Refused refused : Refusals.all()) {
            if (refused.wide()) {
                found++;
                StretchDesk desk = Refusals.busyDesk();
                DOC.due(refused.call(), refused.asked().applyAsLong(desk), 0);
                DOC.due(refused.call() + ": state()", desk.state(), refused.code());
            }
        }
        DOC.holds("low, high and near are among them", found > 3 * Desks.NO_SLOTS.length);
        StretchDesk desk = Desks.with(Desks.LONG, -3, 0);
        DOC.dueDone("a HIGH end of 0 is no refusal", desk, desk.high(0), 0);
        DOC.dueDone("an end of -3 is no refusal", desk, desk.low(0), -3);
        DOC.dueDone("the nearest one, -3, is no refusal", desk, desk.near(0, -4), -3);
    }
}
