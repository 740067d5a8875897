/** Promises 7 to 14, what is made of ranges, sentence by sentence. */
public final class OperationsTest {
    private static final int INT = Desks.INT;
    private static final int LONG = Desks.LONG;
    private static final int FLOAT = Desks.FLOAT;
    private static final int DOUBLE = Desks.DOUBLE;
    private static final double INF = Desks.INF;
    private static final float INF_F = Float.POSITIVE_INFINITY;
    private static final long LEAST_INT = Integer.MIN_VALUE;
    private static final long LEAST_LONG = Long.MIN_VALUE;

    private static final Sentences DOC = new Sentences();

    public static void main(String[] args) {
        hull();
        meet();
        size();
        round();
        sign();
        lend();
        turn();
        as();
        DOC.end();
    }

    private static void hull() {
        DOC.section("Promise 7: hull");
        DOC.says("The least RANGE that has both comes to slot to: 1.", OperationsTest::hullOfBoth);
        DOC.says("-4: two SORTS.", () -> twoSorts(Desks.HULL));
    }

    private static void meet() {
        DOC.section("Promise 8: meet");
        DOC.says("What is in both comes there: 1;", OperationsTest::meetOfBoth);
        DOC.says("0, and it is EMPTY, if there is none.", OperationsTest::meetOfNone);
        DOC.says("-4: two SORTS.", () -> twoSorts(Desks.MEET));
    }

    private static void size() {
        DOC.section("Promise 9: size");
        DOC.says("The distances from zero:", OperationsTest::sizeOfAll);
        DOC.says("if LOW is not below 0 the sizes of both ends,", OperationsTest::sizeNotBelow);
        DOC.says("if HIGH is not above 0, too,", OperationsTest::sizeNotAbove);
        DOC.says("else 0 and the greater one of both sizes;", OperationsTest::sizeAcross);
        DOC.says("ORDERED: 1.", OperationsTest::sizeOrdered);
        DOC.says("(Either zero is not below and not above 0.", OperationsTest::sizeOfZeros);
        DOC.says("A size has no sign;", OperationsTest::sizeWithoutSign);
        DOC.says("that of the least INT or LONG is that number itself.)", OperationsTest::sizeOfLeast);
    }

    private static void round() {
        DOC.section("Promise 10: round");
        DOC.says("Whole ends: how 0 both down,", OperationsTest::roundDown);
        DOC.says("1 both up,", OperationsTest::roundUp);
        DOC.says("2 both to the nearest, halves to even,", OperationsTest::roundNearest);
        DOC.says("3 LOW down and HIGH up,", OperationsTest::roundOutwards);
        DOC.says("4 LOW up and HIGH down: 1;", OperationsTest::roundInwards);
        DOC.says("0, and slot to is EMPTY, if LOW is greater than HIGH then.", OperationsTest::roundToNothing);
        DOC.says("(What is between 0 and -1 or is -0, comes to -0 as it goes up or is nearest to it;",
            OperationsTest::roundToMinusZero);
        DOC.says("what is whole or infinite stays.)", OperationsTest::roundWhole);
        DOC.says("-4: INT and LONG;", OperationsTest::roundOfWholeSorts);
        DOC.says("-5: another how.", OperationsTest::roundAnotherHow);
    }

    private static void sign() {
        DOC.section("Promise 11: sign");
        DOC.says("Each end becomes -1, 1,", OperationsTest::signOfNumbers);
        DOC.says("or the zero that it is, by its sign: 1.", OperationsTest::signOfZeros);
        DOC.says("-4: INT and LONG.", OperationsTest::signOfWholeSorts);
    }

    private static void lend() {
        DOC.section("Promise 12: lend");
        DOC.says("LOW of a gets the sign that LOW of b has, HIGH that of HIGH", OperationsTest::lendSigns);
        DOC.says("(zeros have signs, too);", OperationsTest::lendZeros);
        DOC.says("ORDERED: 1.", OperationsTest::lendOrdered);
        DOC.says("-4: INT and LONG,", OperationsTest::lendOfWholeSorts);
        DOC.says("or two SORTS.", () -> twoSorts(Desks.LEND));
    }

    private static void turn() {
        DOC.section("Promise 13: turn");
        DOC.says("Turned over at zero: the ends get the other sign", OperationsTest::turnOver);
        DOC.says("(the least INT or LONG stays,", OperationsTest::turnLeast);
        DOC.says("as 0 of these);", OperationsTest::turnZero);
        DOC.says("ORDERED: 1.", OperationsTest::turnOrdered);
    }

    private static void as() {
        DOC.section("Promise 14: as");
        DOC.says("The ends become numbers of another SORT; ORDERED: 1.", OperationsTest::asOrdered);
        DOC.says("To FLOAT and DOUBLE: the nearest", OperationsTest::asNearest);
        DOC.says("(to even;", OperationsTest::asToEven);
        DOC.says("perhaps infinite);", OperationsTest::asInfinite);
        DOC.says("to INT and LONG: of a LONG the lowest 32 bits,", OperationsTest::asLowestBits);
        DOC.says("of broken ones what is towards 0,", OperationsTest::asTowardsZero);
        DOC.says("at most the greatest,", OperationsTest::asAtMost);
        DOC.says("at least the least.", OperationsTest::asAtLeast);
        DOC.says("-4: no such SORT.", OperationsTest::asNoSort);
    }

    private static long f(float v) {
        return Desks.f(v);
    }

    private static long d(double v) {
        return Desks.d(v);
    }

    private static void twoSorts(int what) {
        for (int a = 0; a < 4; a++) {
            for (int b = 0; b < 4; b++) {
                if (a != b) {
                    StretchDesk desk = Desks.with(a, 1, 2);
                    Desks.put(desk, 1, b, 1, 2);
                    Desks.put(desk, 2, INT, 3, 4);
                    DOC.dueRefusal("sorts " + a + " and " + b, desk, Desks.perform(desk, what, 0, 1, 2), -4);
                    DOC.dueRange("slot to stays", desk, 2, INT, 3, 4);
                    DOC.dueRefusal("to slot a", desk, Desks.perform(desk, what, 0, 1, 0), -4);
                    DOC.dueRange("slot a stays", desk, 0, a, 1, 2);
                }
            }
        }
    }

    private interface Pairs {
        void due(int sort, long[] line, int[] at);
    }

    /** All pairs of ranges between numbers of the line: at is low, high of the one, then of the other. */
    private static void forAllPairs(Pairs pairs) {
        for (int sort = 0; sort < 4; sort++) {
            long[] line = Desks.line(sort);
            for (int low = 0; low < line.length; low++) {
                for (int high = low; high < line.length; high++) {
                    for (int low2 = 0; low2 < line.length; low2++) {
                        for (int high2 = low2; high2 < line.length; high2++) {
                            pairs.due(sort, line, new int[] {low, high, low2, high2});
                        }
                    }
                }
            }
        }
    }

    private static StretchDesk pair(int sort, long[] line, int[] at) {
        return Desks.withTwo(sort, line[at[0]], line[at[1]], line[at[2]], line[at[3]]);
    }

    private static void hullOfBoth() {
        forAllPairs((sort, line, at) -> {
            StretchDesk desk = pair(sort, line, at);
            DOC.dueDone("hull", desk, desk.hull(0, 1, 2), 1);
            DOC.dueRange("hull", desk, 2, sort, line[Math.min(at[0], at[2])], line[Math.max(at[1], at[3])]);
        });
        StretchDesk desk = Desks.withTwo(INT, -5, -3, 7, 9);
        DOC.due("hull over a gap", desk.hull(1, 0, 15), 1);
        DOC.dueRange("hull over a gap", desk, 15, INT, -5, 9);
        DOC.dueRange("a stays", desk, 1, INT, 7, 9);
        DOC.dueRange("b stays", desk, 0, INT, -5, -3);
    }

    private static void meetOfBoth() {
        forAllPairs((sort, line, at) -> {
            int low = Math.max(at[0], at[2]);
            int high = Math.min(at[1], at[3]);
            if (low <= high) {
                StretchDesk desk = pair(sort, line, at);
                DOC.dueDone("meet", desk, desk.meet(0, 1, 2), 1);
                DOC.dueRange("meet", desk, 2, sort, line[low], line[high]);
            }
        });
        StretchDesk desk = Desks.withTwo(INT, -5, 7, 7, 9);
        DOC.due("meet in one number", desk.meet(0, 1, 15), 1);
        DOC.dueRange("meet in one number", desk, 15, INT, 7, 7);
        DOC.dueRange("a stays", desk, 0, INT, -5, 7);
        DOC.dueRange("b stays", desk, 1, INT, 7, 9);
    }

    private static void meetOfNone() {
        forAllPairs((sort, line, at) -> {
            if (Math.max(at[0], at[2]) > Math.min(at[1], at[3])) {
                StretchDesk desk = pair(sort, line, at);
                Desks.put(desk, 2, INT, 1, 1);
                DOC.dueDone("meet", desk, desk.meet(0, 1, 2), 0);
                DOC.dueEmpty("meet", desk, 2);
            }
        });
        StretchDesk desk = Desks.withTwo(INT, 1, 2, 3, 4);
        DOC.dueDone("to what was EMPTY", desk, desk.meet(0, 1, 2), 0);
        DOC.due("that is not REFUSED", desk.about(2), 0);
        DOC.dueDone("to b", desk, desk.meet(0, 1, 1), 0);
        DOC.dueEmpty("to b", desk, 1);
        DOC.dueRange("a stays", desk, 0, INT, 1, 2);
        DOC.due("slots that are not EMPTY", desk.about(0), 1);
    }

    private static void dueSize(int sort, long low, long high, long wantLow, long wantHigh) {
        StretchDesk desk = Desks.with(sort, low, high);
        DOC.dueDone("size", desk, desk.size(0, 1), 1);
        DOC.dueRange("size of " + low + " .. " + high, desk, 1, sort, wantLow, wantHigh);
    }

    /** The broken numbers of the line mirror one another at its middle, so places tell the sizes. */
    private static void sizeOfAll() {
        for (int sort = FLOAT; sort <= DOUBLE; sort++) {
            long[] line = Desks.line(sort);
            int zero = line.length / 2;
            for (int low = 0; low < line.length; low++) {
                for (int high = low; high < line.length; high++) {
                    int lowSize = low < zero ? line.length - 1 - low : low;
                    int highSize = high < zero ? line.length - 1 - high : high;
                    boolean across = low < zero - 1 && high > zero;
                    int least = across ? zero : Math.min(lowSize, highSize);
                    dueSize(sort, line[low], line[high], line[least], line[Math.max(lowSize, highSize)]);
                }
            }
        }
        StretchDesk desk = Desks.with(INT, -5, -3);
        DOC.due("size", desk.size(0, 15), 1);
        DOC.dueRange("a stays", desk, 0, INT, -5, -3);
    }

    private static void sizeNotBelow() {
        dueSize(INT, 3, 5, 3, 5);
        dueSize(INT, 0, 5, 0, 5);
        dueSize(INT, 0, 0, 0, 0);
        dueSize(INT, 1, Integer.MAX_VALUE, 1, Integer.MAX_VALUE);
        dueSize(LONG, 0, Long.MAX_VALUE, 0, Long.MAX_VALUE);
        dueSize(FLOAT, f(0), f(5), f(0), f(5));
        dueSize(DOUBLE, d(2.5), d(INF), d(2.5), d(INF));
    }

    private static void sizeNotAbove() {
        dueSize(INT, -5, -3, 3, 5);
        dueSize(INT, -5, 0, 0, 5);
        dueSize(INT, -5, -1, 1, 5);
        dueSize(LONG, LEAST_INT, LEAST_INT, 0x80000000L, 0x80000000L);
        dueSize(FLOAT, f(-INF_F), f(-2), f(2), f(INF_F));
        dueSize(DOUBLE, d(-3.5), d(-2.5), d(2.5), d(3.5));
        dueSize(DOUBLE, d(-3.5), d(-Double.MIN_VALUE), d(Double.MIN_VALUE), d(3.5));
    }

    private static void sizeAcross() {
        dueSize(INT, -5, 3, 0, 5);
        dueSize(INT, -3, 5, 0, 5);
        dueSize(INT, -4, 4, 0, 4);
        dueSize(INT, -1, 1, 0, 1);
        dueSize(INT, LEAST_INT + 1, 7, 0, Integer.MAX_VALUE);
        dueSize(LONG, Long.MIN_VALUE + 1, 7, 0, Long.MAX_VALUE);
        dueSize(FLOAT, f(-INF_F), f(2), f(0), f(INF_F));
        dueSize(FLOAT, f(-Float.MIN_VALUE), f(Float.MIN_VALUE), f(0), f(Float.MIN_VALUE));
        dueSize(DOUBLE, d(-3.5), d(2.5), d(0), d(3.5));
        dueSize(DOUBLE, d(-2.5), d(3.5), d(0), d(3.5));
    }

    private static void sizeOrdered() {
        dueSize(INT, -9, -2, 2, 9);
        dueSize(LONG, -9, -9, 9, 9);
        dueSize(FLOAT, f(-9), f(-2), f(2), f(9));
        dueSize(DOUBLE, d(2), d(9), d(2), d(9));
    }

    private static void sizeOfZeros() {
        for (int sort = FLOAT; sort <= DOUBLE; sort++) {
            long minus = Desks.broken(sort, -0.0);
            long five = Desks.broken(sort, 5);
            long minusFive = Desks.broken(sort, -5);
            dueSize(sort, minus, five, 0, five);
            dueSize(sort, 0, five, 0, five);
            dueSize(sort, minusFive, minus, 0, five);
            dueSize(sort, minusFive, 0, 0, five);
            dueSize(sort, minus, 0, 0, 0);
        }
    }

    private static void sizeWithoutSign() {
        dueSize(FLOAT, f(-0f), f(-0f), f(0), f(0));
        dueSize(DOUBLE, d(-0.0), d(-0.0), d(0), d(0));
        dueSize(FLOAT, f(-3), f(-0f), f(0), f(3));
        dueSize(DOUBLE, d(-INF), d(-INF), d(INF), d(INF));
        dueSize(FLOAT, f(-INF_F), f(-INF_F), f(INF_F), f(INF_F));
    }

    private static void sizeOfLeast() {
        dueSize(INT, LEAST_INT, LEAST_INT, LEAST_INT, LEAST_INT);
        dueSize(INT, LEAST_INT, LEAST_INT + 1, LEAST_INT, Integer.MAX_VALUE);
        dueSize(INT, LEAST_INT, -3, LEAST_INT, 3);
        dueSize(INT, LEAST_INT, 0, LEAST_INT, 0);
        dueSize(INT, LEAST_INT, 7, 0, 7);
        dueSize(INT, LEAST_INT, Integer.MAX_VALUE, 0, Integer.MAX_VALUE);
        dueSize(LONG, LEAST_LONG, LEAST_LONG, LEAST_LONG, LEAST_LONG);
        dueSize(LONG, LEAST_LONG, -3, LEAST_LONG, 3);
        dueSize(LONG, LEAST_LONG, 0, LEAST_LONG, 0);
        dueSize(LONG, LEAST_LONG, 7, 0, 7);
        dueSize(LONG, LEAST_LONG, Long.MAX_VALUE, 0, Long.MAX_VALUE);
    }

    /** For numbers that both broken sorts have. */
    private static void dueRound(double low, double high, int how, double wantLow, double wantHigh) {
        for (int sort = FLOAT; sort <= DOUBLE; sort++) {
            StretchDesk desk = Desks.with(sort, Desks.broken(sort, low), Desks.broken(sort, high));
            DOC.dueDone("round", desk, desk.round(0, how, 1), 1);
            DOC.dueRange("round " + how + " of " + low + " .. " + high, desk, 1, sort,
                Desks.broken(sort, wantLow), Desks.broken(sort, wantHigh));
            DOC.dueRange("a stays", desk, 0, sort, Desks.broken(sort, low), Desks.broken(sort, high));
        }
    }

    private static void roundDown() {
        dueRound(-2.5, 2.5, 0, -3, 2);
        dueRound(-0.25, 0.25, 0, -1, 0);
        dueRound(-1.25, 1.75, 0, -2, 1);
        dueRound(-Float.MIN_VALUE, Float.MIN_VALUE, 0, -1, 0);
        dueRound(0.25, 0.75, 0, 0, 0);
        dueRound(-8388607.5, 8388607.5, 0, -8388608, 8388607);
    }

    private static void roundUp() {
        dueRound(-2.5, 2.5, 1, -2, 3);
        dueRound(0.25, 0.75, 1, 1, 1);
        dueRound(-1.25, 1.25, 1, -1, 2);
        dueRound(Float.MIN_VALUE, Float.MIN_NORMAL, 1, 1, 1);
        dueRound(1.9990234375, 3.9990234375, 1, 2, 4);
        dueRound(-8388607.5, 8388607.5, 1, -8388607, 8388608);
    }

    private static void roundNearest() {
        dueRound(-2.5, 2.5, 2, -2, 2);
        dueRound(1.5, 3.5, 2, 2, 4);
        dueRound(-3.5, -1.5, 2, -4, -2);
        dueRound(0.5, 0.75, 2, 0, 1);
        dueRound(1.25, 1.75, 2, 1, 2);
        dueRound(-1.75, -1.25, 2, -2, -1);
        dueRound(2.25, 2.75, 2, 2, 3);
        dueRound(8388607.5, 16777215, 2, 8388608, 16777215);
        dueRound(-8388606.5, 8388606.5, 2, -8388606, 8388606);
        StretchDesk desk = Desks.with(DOUBLE, d(0.49999999999999994), d(0.5000000000000001));
        DOC.due("next to a half", desk.round(0, 2, 1), 1);
        DOC.dueRange("next to a half", desk, 1, DOUBLE, d(0), d(1));
        Desks.put(desk, 0, DOUBLE, d(4503599627370494.5), d(4503599627370495.5));
        DOC.due("the last halves", desk.round(0, 2, 1), 1);
        DOC.dueRange("the last halves", desk, 1, DOUBLE, d(4503599627370494.0), d(4503599627370496.0));
        Desks.put(desk, 0, FLOAT, f(0.49999997f), f(0.50000006f));
        DOC.due("next to a half", desk.round(0, 2, 1), 1);
        DOC.dueRange("next to a half", desk, 1, FLOAT, f(0), f(1));
    }

    private static void roundOutwards() {
        dueRound(-2.5, 2.5, 3, -3, 3);
        dueRound(0.25, 0.75, 3, 0, 1);
        dueRound(-0.75, -0.25, 3, -1, -0.0);
        dueRound(-Float.MIN_VALUE, Float.MIN_VALUE, 3, -1, 1);
        dueRound(7.125, 7.125, 3, 7, 8);
    }

    private static void roundInwards() {
        dueRound(-2.5, 2.5, 4, -2, 2);
        dueRound(-0.25, 0.25, 4, -0.0, 0);
        dueRound(0.25, 1, 4, 1, 1);
        dueRound(-1, -0.25, 4, -1, -1);
        dueRound(0.25, 1.75, 4, 1, 1);
        dueRound(-INF, INF, 4, -INF, INF);
    }

    private static void roundToNothing() {
        double[][] ranges = {{0.25, 0.75}, {-0.75, -0.25}, {7.125, 7.125}, {-7.75, -7.5}, {0.5, 0.5}, {1.5, 1.75},
            {Float.MIN_VALUE, Float.MIN_VALUE}, {-Float.MIN_VALUE, -Float.MIN_VALUE}, {8388606.5, 8388606.5}};
        for (double[] range : ranges) {
            for (int sort = FLOAT; sort <= DOUBLE; sort++) {
                StretchDesk desk = Desks.with(sort, Desks.broken(sort, range[0]), Desks.broken(sort, range[1]));
                Desks.put(desk, 1, INT, 1, 1);
                DOC.dueDone("to another slot", desk, desk.round(0, 4, 1), 0);
                DOC.dueEmpty("to another slot", desk, 1);
                DOC.due("to what was EMPTY", desk.round(0, 4, 2), 0);
                DOC.due("that is not REFUSED", desk.about(2), 1);
                DOC.dueRange("a stays", desk, 0, sort, Desks.broken(sort, range[0]), Desks.broken(sort, range[1]));
                DOC.dueDone("to a", desk, desk.round(0, 4, 0), 0);
                DOC.dueEmpty("to a", desk, 0);
            }
        }
    }

    private static void roundToMinusZero() {
        dueRound(-0.25, 0, 1, -0.0, 0);
        dueRound(-0.75, -0.25, 1, -0.0, -0.0);
        dueRound(-0.5, -0.25, 2, -0.0, -0.0);
        dueRound(-0.75, -0.5, 2, -1, -0.0);
        dueRound(-0.25, 0.25, 2, -0.0, 0);
        dueRound(-Float.MIN_VALUE, Float.MIN_VALUE, 2, -0.0, 0);
        dueRound(-Float.MIN_VALUE, -Float.MIN_VALUE, 1, -0.0, -0.0);
        dueRound(-0.75, -0.0, 4, -0.0, -0.0);
        for (int how = 0; how < 5; how++) {
            dueRound(-0.0, -0.0, how, -0.0, -0.0);
            dueRound(-0.0, 0, how, -0.0, 0);
        }
    }

    private static void roundWhole() {
        double[][] ranges = {{0, 0}, {-7, 8}, {-1, 1}, {-INF, INF}, {INF, INF}, {-INF, -INF}, {8388608, 8388609},
            {-16777216, 16777215}, {-Float.MAX_VALUE, Float.MAX_VALUE}, {1, 2}};
        for (double[] range : ranges) {
            for (int how = 0; how < 5; how++) {
                dueRound(range[0], range[1], how, range[0], range[1]);
            }
        }
        for (int how = 0; how < 5; how++) {
            StretchDesk desk = Desks.with(DOUBLE, d(4503599627370497.0), d(Double.MAX_VALUE));
            DOC.due("round", desk.round(0, how, 1), 1);
            DOC.dueRange("round", desk, 1, DOUBLE, d(4503599627370497.0), d(Double.MAX_VALUE));
        }
    }

    private static void roundOfWholeSorts() {
        for (int sort = INT; sort <= LONG; sort++) {
            StretchDesk desk = Desks.with(sort, 1, 2);
            for (int how = -1; how < 6; how++) {
                DOC.dueRefusal("round " + how, desk, desk.round(0, how, 0), -4);
                DOC.dueRefusal("round " + how, desk, desk.round(0, how, 1), -4);
            }
            DOC.dueRange("a stays", desk, 0, sort, 1, 2);
            DOC.dueEmpty("slot to stays", desk, 1);
        }
    }

    private static void roundAnotherHow() {
        for (int sort = FLOAT; sort <= DOUBLE; sort++) {
            StretchDesk desk = Desks.with(sort, Desks.broken(sort, 1.5), Desks.broken(sort, 2.5));
            for (int how : new int[] {-1, 5, Integer.MIN_VALUE, Integer.MAX_VALUE}) {
                DOC.dueRefusal("round " + how, desk, desk.round(0, how, 0), -5);
                DOC.dueRefusal("round " + how + " of EMPTY", desk, desk.round(1, how, 0), -3);
            }
            DOC.dueRange("a stays", desk, 0, sort, Desks.broken(sort, 1.5), Desks.broken(sort, 2.5));
        }
    }

    private static void dueSign(double low, double high, double wantLow, double wantHigh) {
        for (int sort = FLOAT; sort <= DOUBLE; sort++) {
            StretchDesk desk = Desks.with(sort, Desks.broken(sort, low), Desks.broken(sort, high));
            DOC.dueDone("sign", desk, desk.sign(0, 1), 1);
            DOC.dueRange("sign of " + low + " .. " + high, desk, 1, sort,
                Desks.broken(sort, wantLow), Desks.broken(sort, wantHigh));
            DOC.dueRange("a stays", desk, 0, sort, Desks.broken(sort, low), Desks.broken(sort, high));
        }
    }

    private static void signOfNumbers() {
        dueSign(-7, 9, -1, 1);
        dueSign(-1, 1, -1, 1);
        dueSign(-INF, INF, -1, 1);
        dueSign(2, 3, 1, 1);
        dueSign(-3, -2, -1, -1);
        dueSign(-Float.MIN_VALUE, Float.MIN_VALUE, -1, 1);
        dueSign(-0.25, 0.25, -1, 1);
        StretchDesk desk = Desks.with(DOUBLE, d(-Double.MIN_VALUE), d(Double.MIN_VALUE));
        DOC.due("the least ones", desk.sign(0, 0), 1);
        DOC.dueRange("the least ones", desk, 0, DOUBLE, d(-1), d(1));
    }

    private static void signOfZeros() {
        dueSign(-0.0, 0, -0.0, 0);
        dueSign(-0.0, -0.0, -0.0, -0.0);
        dueSign(0, 0, 0, 0);
        dueSign(-0.0, 3, -0.0, 1);
        dueSign(0, 3, 0, 1);
        dueSign(-3, -0.0, -1, -0.0);
        dueSign(-3, 0, -1, 0);
    }

    private static void signOfWholeSorts() {
        for (int sort = INT; sort <= LONG; sort++) {
            StretchDesk desk = Desks.with(sort, -7, 2);
            DOC.dueRefusal("sign", desk, desk.sign(0, 0), -4);
            DOC.dueRange("a stays", desk, 0, sort, -7, 2);
            DOC.dueRefusal("sign", desk, desk.sign(0, 1), -4);
            DOC.dueEmpty("slot to stays", desk, 1);
        }
    }

    private static void dueLend(double[] in, double wantLow, double wantHigh) {
        for (int sort = FLOAT; sort <= DOUBLE; sort++) {
            StretchDesk desk = Desks.withTwo(sort, Desks.broken(sort, in[0]), Desks.broken(sort, in[1]),
                Desks.broken(sort, in[2]), Desks.broken(sort, in[3]));
            DOC.dueDone("lend", desk, desk.lend(0, 1, 2), 1);
            DOC.dueRange("lend", desk, 2, sort, Desks.broken(sort, wantLow), Desks.broken(sort, wantHigh));
            DOC.dueRange("a stays", desk, 0, sort, Desks.broken(sort, in[0]), Desks.broken(sort, in[1]));
            DOC.dueRange("b stays", desk, 1, sort, Desks.broken(sort, in[2]), Desks.broken(sort, in[3]));
        }
    }

    /** All pairs of broken ranges: the sign of a place is which half of the line it stands in. */
    private static void lendSigns() {
        forAllPairs((sort, line, at) -> {
            if (sort >= FLOAT) {
                int one = lentPlace(line.length, at[0], at[2]);
                int other = lentPlace(line.length, at[1], at[3]);
                StretchDesk desk = pair(sort, line, at);
                DOC.dueDone("lend", desk, desk.lend(0, 1, 2), 1);
                DOC.dueRange("lend", desk, 2, sort, line[Math.min(one, other)], line[Math.max(one, other)]);
            }
        });
        dueLend(new double[] {2, 3, -9, 9}, -2, 3);
        dueLend(new double[] {-3, 2, -9, 9}, -3, 2);
        dueLend(new double[] {-INF, INF, -1, INF}, -INF, INF);
    }

    private static int lentPlace(int length, int place, int lender) {
        boolean same = place < length / 2 == lender < length / 2;
        return same ? place : length - 1 - place;
    }

    private static void lendZeros() {
        dueLend(new double[] {-2, 3, -0.0, -0.0}, -3, -2);
        dueLend(new double[] {-3, 2, 0, 0}, 2, 3);
        dueLend(new double[] {-3, -2, -0.0, 0}, -3, 2);
        dueLend(new double[] {0, 0, -1, 1}, -0.0, 0);
        dueLend(new double[] {0, 0, -1, -1}, -0.0, -0.0);
        dueLend(new double[] {-0.0, -0.0, 1, 1}, 0, 0);
        dueLend(new double[] {-0.0, 0, -0.0, -0.0}, -0.0, -0.0);
    }

    private static void lendOrdered() {
        dueLend(new double[] {2, 3, -9, -8}, -3, -2);
        dueLend(new double[] {-3, -2, 8, 9}, 2, 3);
        dueLend(new double[] {-5, 2, 8, 9}, 2, 5);
        dueLend(new double[] {-INF, 4, 1, INF}, 4, INF);
        dueLend(new double[] {-INF, INF, 1, INF}, INF, INF);
    }

    private static void lendOfWholeSorts() {
        for (int a = 0; a < 4; a++) {
            for (int b = 0; b < 4; b++) {
                if (a < FLOAT || b < FLOAT) {
                    StretchDesk desk = Desks.with(a, 1, 2);
                    Desks.put(desk, 1, b, 3, 4);
                    DOC.dueRefusal("sorts " + a + " and " + b, desk, desk.lend(0, 1, 0), -4);
                    DOC.dueRange("a stays", desk, 0, a, 1, 2);
                }
            }
        }
    }

    private static void dueTurn(int sort, long low, long high, long wantLow, long wantHigh) {
        StretchDesk desk = Desks.with(sort, low, high);
        DOC.dueDone("turn", desk, desk.turn(0, 1), 1);
        DOC.dueRange("turn of " + low + " .. " + high, desk, 1, sort, wantLow, wantHigh);
        DOC.dueRange("a stays", desk, 0, sort, low, high);
    }

    private static void turnOver() {
        for (int sort = FLOAT; sort <= DOUBLE; sort++) {
            long[] line = Desks.line(sort);
            int last = line.length - 1;
            for (int low = 0; low <= last; low++) {
                for (int high = low; high <= last; high++) {
                    dueTurn(sort, line[low], line[high], line[last - high], line[last - low]);
                }
            }
        }
        dueTurn(INT, -5, 3, -3, 5);
        dueTurn(INT, 1, Integer.MAX_VALUE, -Integer.MAX_VALUE, -1);
        dueTurn(LONG, LEAST_INT, 3, -3, 0x80000000L);
        dueTurn(LONG, -3, Long.MAX_VALUE, -Long.MAX_VALUE, 3);
    }

    private static void turnLeast() {
        dueTurn(INT, LEAST_INT, LEAST_INT, LEAST_INT, LEAST_INT);
        dueTurn(INT, LEAST_INT, 3, LEAST_INT, -3);
        dueTurn(INT, LEAST_INT, -3, LEAST_INT, 3);
        dueTurn(INT, LEAST_INT, 0, LEAST_INT, 0);
        dueTurn(INT, LEAST_INT, Integer.MAX_VALUE, LEAST_INT, -Integer.MAX_VALUE);
        dueTurn(LONG, LEAST_LONG, LEAST_LONG, LEAST_LONG, LEAST_LONG);
        dueTurn(LONG, LEAST_LONG, 3, LEAST_LONG, -3);
        dueTurn(LONG, LEAST_LONG, -3, LEAST_LONG, 3);
        dueTurn(LONG, LEAST_LONG, Long.MAX_VALUE, LEAST_LONG, -Long.MAX_VALUE);
        dueTurn(INT, LEAST_INT + 1, LEAST_INT + 1, Integer.MAX_VALUE, Integer.MAX_VALUE);
        dueTurn(LONG, LEAST_LONG + 1, LEAST_LONG + 1, Long.MAX_VALUE, Long.MAX_VALUE);
    }

    private static void turnZero() {
        dueTurn(INT, 0, 0, 0, 0);
        dueTurn(INT, 0, 7, -7, 0);
        dueTurn(LONG, 0, 0, 0, 0);
        dueTurn(LONG, -7, 0, 0, 7);
        dueTurn(FLOAT, f(0), f(0), f(-0f), f(-0f));
        dueTurn(FLOAT, f(-0f), f(INF_F), f(-INF_F), f(0));
        dueTurn(DOUBLE, d(-0.0), d(-0.0), d(0), d(0));
        dueTurn(DOUBLE, d(-0.0), d(0), d(-0.0), d(0));
    }

    private static void turnOrdered() {
        dueTurn(INT, 3, 5, -5, -3);
        dueTurn(LONG, -5, -3, 3, 5);
        dueTurn(FLOAT, f(Float.MIN_VALUE), f(2), f(-2), f(-Float.MIN_VALUE));
        dueTurn(DOUBLE, d(-INF), d(-7), d(7), d(INF));
    }

    private static void dueAs(int from, long low, long high, int to, long wantLow, long wantHigh) {
        StretchDesk desk = Desks.with(from, low, high);
        DOC.dueDone("as", desk, desk.as(0, to, 1), 1);
        DOC.dueRange("as " + to + " of " + from + ", " + low + " .. " + high, desk, 1, to, wantLow, wantHigh);
        DOC.dueRange("a stays", desk, 0, from, low, high);
    }

    private static long three(int sort, int sign) {
        return sort < FLOAT ? 3 * sign : Desks.broken(sort, 3 * sign);
    }

    private static void asOrdered() {
        for (int from = 0; from < 4; from++) {
            for (int to = 0; to < 4; to++) {
                dueAs(from, three(from, -1), three(from, 1), to, three(to, -1), three(to, 1));
            }
            for (long v : Desks.line(from)) {
                dueAs(from, v, v, from, v, v);
            }
        }
        dueAs(LONG, 5, 0x1_0000_0003L, INT, 3, 5);
        dueAs(LONG, 0, Long.MAX_VALUE, INT, -1, 0);
        dueAs(LONG, 0x7fffffffL, 0x80000000L, INT, LEAST_INT, Integer.MAX_VALUE);
        dueAs(DOUBLE, d(-0.0), d(0), FLOAT, f(-0f), f(0));
    }

    private static void asNearest() {
        dueAs(INT, LEAST_INT, Integer.MAX_VALUE, FLOAT, f(-2147483648f), f(2147483648f));
        dueAs(INT, LEAST_INT, Integer.MAX_VALUE, DOUBLE, d(-2147483648.0), d(2147483647.0));
        dueAs(INT, 0, 1, FLOAT, f(0), f(1));
        dueAs(INT, -1, 2, FLOAT, f(-1), f(2));
        dueAs(INT, -2, -1, DOUBLE, d(-2), d(-1));
        dueAs(LONG, -1, 1, FLOAT, f(-1), f(1));
        dueAs(LONG, -1, 0, DOUBLE, d(-1), d(0));
        dueAs(LONG, LEAST_LONG, Long.MAX_VALUE, FLOAT, f(-0x1p63f), f(0x1p63f));
        dueAs(LONG, LEAST_LONG, Long.MAX_VALUE, DOUBLE, d(-0x1p63), d(0x1p63));
        dueAs(LONG, 0, (1L << 53) - 1, DOUBLE, d(0), d(9007199254740991.0));
        // By way of a DOUBLE this one would become a half first, and then the wrong FLOAT.
        dueAs(LONG, (1L << 60) + (1L << 36) + 1, Long.MAX_VALUE, FLOAT, f(0x1.000002p60f), f(0x1p63f));
        dueAs(FLOAT, f(-Float.MIN_VALUE), f(Float.MIN_NORMAL), DOUBLE, d(-0x1p-149), d(0x1p-126));
        dueAs(FLOAT, f(0x0.fffffep-126f), f(Float.MAX_VALUE), DOUBLE, d(0x0.fffffep-126), d(0x1.fffffep127));
        dueAs(FLOAT, f(-0f), f(0), DOUBLE, d(-0.0), d(0));
        dueAs(DOUBLE, d(-0.1), d(0.1), FLOAT, f(-0.1f), f(0.1f));
        dueAs(DOUBLE, d(0x1.0000000000001p-150), d(0x1.7ffffffffffffp-149), FLOAT, f(0x1p-149f), f(0x1p-149f));
        dueAs(DOUBLE, d(-0x1.fffffffffffffp-151), d(0x1.fffffffffffffp-151), FLOAT, f(-0f), f(0));
        dueAs(DOUBLE, d(-Double.MIN_VALUE), d(Double.MIN_NORMAL), FLOAT, f(-0f), f(0));
    }

    private static void asToEven() {
        dueAs(INT, 16777217, 16777219, FLOAT, f(16777216f), f(16777220f));
        dueAs(INT, -16777219, -16777217, FLOAT, f(-16777220f), f(-16777216f));
        dueAs(LONG, (1L << 53) + 1, (1L << 53) + 3, DOUBLE, d(0x1p53), d(0x1p53 + 4));
        dueAs(LONG, -(1L << 53) - 3, -(1L << 53) - 1, DOUBLE, d(-0x1p53 - 4), d(-0x1p53));
        dueAs(LONG, (1L << 60) + (1L << 36), (1L << 60) + (3L << 36), FLOAT, f(0x1p60f), f(0x1.000004p60f));
        dueAs(DOUBLE, d(0x1.000001p0), d(0x1.000003p0), FLOAT, f(1), f(0x1.000004p0f));
        dueAs(DOUBLE, d(0x1p-150), d(0x1.8p-149), FLOAT, f(0), f(0x1p-148f));
        dueAs(DOUBLE, d(-0x1.8p-149), d(-0x1p-150), FLOAT, f(-0x1p-148f), f(-0f));
        dueAs(DOUBLE, d(0x0.fffffep-126), d(0x0.ffffffp-126), FLOAT, f(0x0.fffffep-126f), f(Float.MIN_NORMAL));
    }

    private static void asInfinite() {
        dueAs(DOUBLE, d(-Double.MAX_VALUE), d(Double.MAX_VALUE), FLOAT, f(-INF_F), f(INF_F));
        dueAs(DOUBLE, d(-0x1p128), d(0x1p128), FLOAT, f(-INF_F), f(INF_F));
        dueAs(DOUBLE, d(0x1.fffffefffffffp127), d(0x1.ffffffp127), FLOAT, f(Float.MAX_VALUE), f(INF_F));
        dueAs(DOUBLE, d(-0x1.ffffffp127), d(-0x1.fffffefffffffp127), FLOAT, f(-INF_F), f(-Float.MAX_VALUE));
        dueAs(DOUBLE, d(-INF), d(INF), FLOAT, f(-INF_F), f(INF_F));
        dueAs(FLOAT, f(-INF_F), f(INF_F), DOUBLE, d(-INF), d(INF));
    }

    private static void asLowestBits() {
        dueAs(LONG, 0x1_8000_0000L, 0x2_0000_0005L, INT, LEAST_INT, 5);
        dueAs(LONG, LEAST_LONG, LEAST_LONG, INT, 0, 0);
        dueAs(LONG, Long.MAX_VALUE, Long.MAX_VALUE, INT, -1, -1);
        dueAs(LONG, 0x80000000L, 0x80000000L, INT, LEAST_INT, LEAST_INT);
        dueAs(LONG, -0x80000001L, -0x80000001L, INT, Integer.MAX_VALUE, Integer.MAX_VALUE);
        dueAs(LONG, LEAST_INT, Integer.MAX_VALUE, INT, LEAST_INT, Integer.MAX_VALUE);
        dueAs(INT, LEAST_INT, Integer.MAX_VALUE, LONG, LEAST_INT, Integer.MAX_VALUE);
    }

    private static void asTowardsZero() {
        dueAs(FLOAT, f(-2.75f), f(2.75f), INT, -2, 2);
        dueAs(FLOAT, f(-0.99f), f(-0f), LONG, 0, 0);
        dueAs(FLOAT, f(-1.5f), f(8388607.5f), LONG, -1, 8388607);
        dueAs(FLOAT, f(-0x1p24f), f(0x1.000002p24f), INT, -16777216, 16777218);
        dueAs(FLOAT, f(-0x1p23f), f(0x1p25f), LONG, -8388608, 33554432);
        dueAs(DOUBLE, d(-0x1p53), d(0x1.0000000000001p53), LONG, -9007199254740992L, 9007199254740994L);
        dueAs(DOUBLE, d(-0x1.0000000000001p52), d(0x1p54), LONG, -4503599627370497L, 18014398509481984L);
        dueAs(DOUBLE, d(-2147483647.5), d(2147483646.5), INT, -2147483647, 2147483646);
        dueAs(DOUBLE, d(-Double.MIN_VALUE), d(Double.MIN_VALUE), LONG, 0, 0);
        dueAs(DOUBLE, d(-0.0), d(0.999), INT, 0, 0);
        dueAs(DOUBLE, d(-4503599627370495.5), d(2251799813685249.5), LONG, -4503599627370495L, 2251799813685249L);
    }

    private static void asAtMost() {
        int most = Integer.MAX_VALUE;
        dueAs(FLOAT, f(0x1.fffffep30f), f(0x1p31f), INT, 0x7fffff80L, most);
        dueAs(FLOAT, f(Float.MAX_VALUE), f(INF_F), INT, most, most);
        dueAs(FLOAT, f(0x1.fffffep62f), f(0x1p63f), LONG, 0x7fffff8000000000L, Long.MAX_VALUE);
        dueAs(FLOAT, f(Float.MAX_VALUE), f(INF_F), LONG, Long.MAX_VALUE, Long.MAX_VALUE);
        dueAs(DOUBLE, d(2147483647.0), d(2147483647.5), INT, most, most);
        dueAs(DOUBLE, d(2147483646.0), d(2147483648.0), INT, most - 1, most);
        dueAs(DOUBLE, d(Double.MAX_VALUE), d(INF), INT, most, most);
        dueAs(DOUBLE, d(0x1.fffffffffffffp62), d(0x1p63), LONG, 0x7ffffffffffffc00L, Long.MAX_VALUE);
        dueAs(DOUBLE, d(Double.MAX_VALUE), d(INF), LONG, Long.MAX_VALUE, Long.MAX_VALUE);
    }

    private static void asAtLeast() {
        dueAs(FLOAT, f(-0x1p31f), f(-0x1.fffffep30f), INT, LEAST_INT, -0x7fffff80L);
        dueAs(FLOAT, f(-INF_F), f(-Float.MAX_VALUE), INT, LEAST_INT, LEAST_INT);
        dueAs(FLOAT, f(-0x1p31f), f(0x1p31f), LONG, LEAST_INT, 1L << 31);
        dueAs(FLOAT, f(-0x1p63f), f(-0x1.fffffep62f), LONG, LEAST_LONG, -0x7fffff8000000000L);
        dueAs(FLOAT, f(-INF_F), f(-Float.MAX_VALUE), LONG, LEAST_LONG, LEAST_LONG);
        dueAs(DOUBLE, d(-2147483648.5), d(-2147483648.0), INT, LEAST_INT, LEAST_INT);
        dueAs(DOUBLE, d(-2147483649.0), d(-2147483647.0), INT, LEAST_INT, LEAST_INT + 1);
        dueAs(DOUBLE, d(-INF), d(-Double.MAX_VALUE), INT, LEAST_INT, LEAST_INT);
        dueAs(DOUBLE, d(-0x1p63), d(-0x1.fffffffffffffp62), LONG, LEAST_LONG, -0x7ffffffffffffc00L);
        dueAs(DOUBLE, d(-INF), d(-Double.MAX_VALUE), LONG, LEAST_LONG, LEAST_LONG);
    }

    private static void asNoSort() {
        for (int from = 0; from < 4; from++) {
            StretchDesk desk = Desks.with(from, 1, 2);
            for (int sort : Desks.NO_SORTS) {
                DOC.dueRefusal("as " + sort, desk, desk.as(0, sort, 0), -4);
                DOC.dueRefusal("as " + sort, desk, desk.as(0, sort, 1), -4);
                DOC.dueRefusal("as " + sort + " of EMPTY", desk, desk.as(2, sort, 0), -3);
            }
            DOC.dueRange("a stays", desk, 0, from, 1, 2);
            DOC.dueEmpty("slot to stays", desk, 1);
        }
    }
}
