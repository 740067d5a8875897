import java.util.Random;

/** Many single numbers, the edges of every power of two among them, against the machine's own arithmetic. */
public final class NumbersTest {
    private final Checks checks = new Checks();

    /** Made anew for each number, as the document promises nothing of an object after 512 calls. */
    private StretchDesk desk = new StretchDesk();

    public static void main(String[] args) {
        NumbersTest test = new NumbersTest();
        test.edges();
        test.drawn();
        test.checks.end();
    }

    private void edges() {
        for (int exponent = 0; exponent < 2047; exponent++) {
            for (int around = -3; around <= 3; around++) {
                broken(Double.longBitsToDouble(((long) exponent << 52) + around));
                broken(Double.longBitsToDouble(((long) exponent << 52) + (1L << 51) + around));
                broken(Double.longBitsToDouble(((long) exponent << 52) + (1L << 28) + around));
                broken(Double.longBitsToDouble(((long) exponent << 52) + (3L << 28) + around));
            }
        }
        for (int exponent = 0; exponent < 255; exponent++) {
            for (int around = -3; around <= 3; around++) {
                broken(Float.intBitsToFloat((exponent << 23) + around));
                broken(Float.intBitsToFloat((exponent << 23) + (1 << 22) + around));
            }
        }
        for (int half = -2050; half <= 2050; half++) {
            broken(half / 2.0);
            broken(half / 8.0);
        }
        for (int shift = 0; shift < 64; shift++) {
            for (int around = -3; around <= 3; around++) {
                whole((1L << shift) + around);
                whole((1L << shift) + (1L << Math.max(0, shift - 24)) + around);
                whole((1L << shift) + (3L << Math.max(0, shift - 24)) + around);
                whole((1L << shift) + (1L << Math.max(0, shift - 53)) + around);
                whole((1L << shift) + (3L << Math.max(0, shift - 53)) + around);
            }
        }
    }

    private void drawn() {
        Random random = new Random(3);
        for (int i = 0; i < 200000; i++) {
            broken(Double.longBitsToDouble(random.nextLong()));
            broken(Float.intBitsToFloat(random.nextInt()));
            broken(random.nextGaussian() * (1L << random.nextInt(60)));
            whole(random.nextLong() >> random.nextInt(64));
        }
    }

    private void broken(double v) {
        if (Double.isNaN(v)) {
            return;
        }
        oneBroken(v);
        oneBroken(-v);
        oneFloat((float) v);
        oneFloat((float) -v);
    }

    private void begin(int sort, long v) {
        desk = new StretchDesk();
        checks.due("set", desk.set(0, sort, v, v), 1);
    }

    private long low(int answer) {
        checks.due("done", answer, 1);
        return desk.low(1);
    }

    private void oneBroken(double v) {
        long bits = Double.doubleToRawLongBits(v);
        begin(3, bits);
        checks.due(v + " down", low(desk.round(0, 0, 1)), Double.doubleToRawLongBits(Math.floor(v)));
        checks.due(v + " up", low(desk.round(0, 1, 1)), Double.doubleToRawLongBits(Math.ceil(v)));
        checks.due(v + " nearest", low(desk.round(0, 2, 1)), Double.doubleToRawLongBits(Math.rint(v)));
        checks.due(v + " as INT", low(desk.as(0, 0, 1)), (int) v);
        checks.due(v + " as LONG", low(desk.as(0, 1, 1)), (long) v);
        checks.due(v + " as FLOAT", low(desk.as(0, 2, 1)), Float.floatToRawIntBits((float) v));
    }

    private void oneFloat(float v) {
        long bits = Float.floatToRawIntBits(v);
        begin(2, bits);
        checks.due(v + "f down", low(desk.round(0, 0, 1)), Float.floatToRawIntBits((float) Math.floor(v)));
        checks.due(v + "f up", low(desk.round(0, 1, 1)), Float.floatToRawIntBits((float) Math.ceil(v)));
        checks.due(v + "f nearest", low(desk.round(0, 2, 1)), Float.floatToRawIntBits((float) Math.rint(v)));
        checks.due(v + "f as INT", low(desk.as(0, 0, 1)), (int) v);
        checks.due(v + "f as LONG", low(desk.as(0, 1, 1)), (long) v);
        checks.due(v + "f as DOUBLE", low(desk.as(0, 3, 1)), Double.doubleToRawLongBits(v));
    }

    private void whole(long v) {
        oneWhole(1, v);
        oneWhole(1, -v);
        oneWhole(0, (int) v);
        oneWhole(0, (int) -v);
    }

    private void oneWhole(int sort, long v) {
        begin(sort, v);
        checks.due(v + " as INT", low(desk.as(0, 0, 1)), (int) v);
        checks.due(v + " as LONG", low(desk.as(0, 1, 1)), v);
        checks.due(v + " as FLOAT", low(desk.as(0, 2, 1)), Float.floatToRawIntBits((float) v));
        checks.due(v + " as DOUBLE", low(desk.as(0, 3, 1)), Double.doubleToRawLongBits((double) v));
    }
}
