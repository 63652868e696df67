import java.math.BigInteger;
import java.util.Arrays;
import java.util.Random;

/**
 * Long runs of calls with arguments from all over their ranges: each answer, and the RESULT after it, is judged by a
 * plain model of the document's words.
 */
public final class WildTest {
    private static final int RUNS = 2000;
    private static final int CALLS = 512;
    private static final int KINDS = 24;
    private static final Random RANDOM = new Random(23);
    private static final int[] ENDS = {Integer.MIN_VALUE, -1001, -1000, -21, -20, -2, -1, 0, 1, 2, 3, 4, 5, 7, 8, 13,
        14, 15, 20, 21, 59, 60, 61, 1000, 1001, Integer.MAX_VALUE};
    private static final int[] SEEN = new int[KINDS];

    private TensionNet bench;
    private Model model;
    private int calls;

    private WildTest() {
    }

    public static void main(String[] args) {
        WildTest test = new WildTest();
        for (int run = 0; run < RUNS; run++) {
            test.bench = new TensionNet();
            test.model = new Model();
            test.calls = 0;
            // A call of this test may be a hundred of the bench's.
            while (test.calls < CALLS - 100) {
                test.callOne(run);
            }
        }
        for (int which = 0; which < KINDS; which++) {
            Check.due("call " + which + " was seen to do something", SEEN[which] > 0, true);
        }
        Check.end();
    }

    private static int pick() {
        int kind = RANDOM.nextInt(6);
        return kind == 0 ? ENDS[RANDOM.nextInt(ENDS.length)] : kind == 1 ? RANDOM.nextInt(16) : RANDOM.nextInt(6) - 1;
    }

    private static int strength() {
        return RANDOM.nextInt(8) == 0 ? pick() : RANDOM.nextInt(3) == 0 ? RANDOM.nextInt(2001) - 1000
                : RANDOM.nextInt(7) - 3;
    }

    private void due(String call, long got, long want) {
        calls++;
        Check.due(call, got, want);
    }

    private void callOne(int run) {
        int which = RANDOM.nextInt(KINDS);
        long got = call(which, run);
        SEEN[which] += got > 0 || got == 0 && which < 6 ? 1 : 0;
        // Of a call that is refused, the model's result has stayed.
        String after = "result after call " + which;
        for (int what = 0; what < 3; what++) {
            due(after, bench.look(what), model.look(what));
        }
        due(after, bench.part(false, 0), model.part(false, 0));
        due(after, bench.part(true, model.look(2) - 1), model.part(true, model.look(2) - 1));
    }

    private long call(int which, int run) {
        int a = pick();
        int b = pick();
        int c = pick();
        long got;
        switch (which) {
            case 0:
                got = bench.row(a, b, c);
                due("row " + a + " " + b + " " + c, got, model.row(a, b, c));
                return got;
            case 1:
                got = bench.tear(a) ? 1 : 0;
                due("tear " + a, got, model.tear(a) ? 1 : 0);
                return got;
            case 2:
                long v = RANDOM.nextInt(3) == 0 ? RANDOM.nextLong() : pick();
                got = bench.write(a, b, v);
                due("write " + a + " " + b + " " + v, got, model.write(a, b, v));
                return got;
            case 3:
                got = bench.net(a);
                due("net " + a, got, model.net(a));
                return got;
            case 4:
                int x = strength();
                int y = strength();
                got = bench.load(a, x, y);
                due("load " + a + " " + x + " " + y, got, model.load(a, x, y));
                return got;
            case 5:
                int strength = strength();
                got = bench.pull(a, strength);
                due("pull " + a + " " + strength, got, model.pull(a, strength));
                return got;
            case 6:
                return writeNet(run);
            case 7:
                return tellStress();
            default:
                return ask(which, a, b, c);
        }
    }

    private long ask(int which, int a, int b, int c) {
        String call = "call " + which + " with " + a + " " + b + " " + c;
        long got = answer(which, a, b, c);
        due(call, got, answerOfModel(which, a, b, c));
        return got;
    }

    private long answer(int which, int a, int b, int c) {
        switch (which) {
            case 8: return bench.stresses();
            case 9: return bench.stress(a, b) ? 1 : 0;
            case 10: return bench.ways();
            case 11: return bench.way(a, b, c) ? 1 : 0;
            case 12: return bench.even() ? 1 : 0;
            case 13: return bench.left(a, b) ? 1 : 0;
            case 14: return bench.borne();
            case 15: return bench.bears(a) ? 1 : 0;
            case 16: return bench.shaped() ? 1 : 0;
            case 17: return bench.shape(a, b) ? 1 : 0;
            case 18: return bench.tight();
            case 19: return bench.stiff();
            case 20: return bench.look(a);
            case 21: return bench.part(a > 0, b);
            case 22: return bench.told(a, b);
            default: return bench.count(a);
        }
    }

    private long answerOfModel(int which, int a, int b, int c) {
        switch (which) {
            case 8: return model.stresses();
            case 9: return model.stress(a, b) ? 1 : 0;
            case 10: return model.ways();
            case 11: return model.way(a, b, c) ? 1 : 0;
            case 12: return model.even() ? 1 : 0;
            case 13: return model.left(a, b) ? 1 : 0;
            case 14: return model.borne();
            case 15: return model.bears(a) ? 1 : 0;
            case 16: return model.shaped() ? 1 : 0;
            case 17: return model.shape(a, b) ? 1 : 0;
            case 18: return model.tight();
            case 19: return model.stiff();
            case 20: return model.look(a);
            case 21: return model.part(a > 0, b);
            case 22: return model.told(a, b);
            default: return model.count(a);
        }
    }

    // Nets are written whole now and then, some with a wrong number or too short, or few runs would have any.
    private long writeNet(int run) {
        int joints = 1 + RANDOM.nextInt(8);
        int far = run % 2 == 0 ? 2 : 20;
        int most = joints == 1 ? 0 : Math.min(14, (58 - 3 * joints) / 3);
        int members = RANDOM.nextInt(most + 1);
        long[] numbers = new long[2 + 3 * joints + 3 * members];
        numbers[0] = joints;
        for (int j = 0; j < joints; j++) {
            numbers[1 + 3 * j] = RANDOM.nextInt(2 * far + 1) - far;
            numbers[2 + 3 * j] = run % 3 == 0 ? 0 : RANDOM.nextInt(2 * far + 1) - far;
            numbers[3 + 3 * j] = RANDOM.nextInt(2);
        }
        int at = 1 + 3 * joints;
        numbers[at] = members;
        for (int m = 0; m < members; m++) {
            int a = RANDOM.nextInt(joints);
            int b = RANDOM.nextInt(joints);
            for (int tries = 0; tries < 20 && atOnePlace(numbers, a, b); tries++) {
                b = RANDOM.nextInt(joints);
            }
            numbers[at + 1 + 3 * m] = a;
            numbers[at + 2 + 3 * m] = b;
            numbers[at + 3 + 3 * m] = RANDOM.nextInt(3);
        }
        if (RANDOM.nextInt(5) == 0) {
            numbers[RANDOM.nextInt(numbers.length)] = pick();
        }
        int size = RANDOM.nextInt(8) == 0 ? RANDOM.nextInt(numbers.length) : numbers.length;
        int slot = RANDOM.nextInt(8);
        int width = RANDOM.nextInt(4);
        due("row of a net", bench.row(slot, width, size), model.row(slot, width, size));
        for (int i = 0; i < size; i++) {
            long v = numbers[i];
            due("number of a net", bench.write(slot, i, v), model.write(slot, i, v));
        }
        int got = bench.net(slot);
        due("net of " + Arrays.toString(numbers), got, model.net(slot));
        return got;
    }

    private static boolean atOnePlace(long[] numbers, int a, int b) {
        return numbers[1 + 3 * a] == numbers[1 + 3 * b] && numbers[2 + 3 * a] == numbers[2 + 3 * b];
    }

    // Pulls that are whole multiples of a stress, where there is one of small numbers.
    private long tellStress() {
        int stresses = model.stresses();
        int members = model.count(2);
        if (stresses == 0) {
            return 0;
        }
        int i = RANDOM.nextInt(stresses);
        int times = 1 + RANDOM.nextInt(12);
        times = RANDOM.nextBoolean() ? times : -times;
        for (int m = 0; m < members; m++) {
            due("stress", bench.stress(i, m) ? 1 : 0, model.stress(i, m) ? 1 : 0);
            int v = model.result.top.multiply(BigInteger.valueOf(times)).divide(model.result.bottom).intValue();
            due("pull", bench.pull(m, v), model.pull(m, v));
        }
        due("stiff", bench.stiff(), model.stiff());
        return 1;
    }
}
