import java.util.Random;

/**
 * Long runs of calls with arguments from all over their ranges: none may throw, two benches that are called alike must
 * answer alike, and a call that is refused leaves the RESULT as it was.
 */
public final class WildTest {
    private static final int RUNS = 400;
    private static final int CALLS = 512;
    private static final Random RANDOM = new Random(23);
    private static final int[] ENDS = {Integer.MIN_VALUE, -1001, -1000, -21, -20, -2, -1, 0, 1, 2, 3, 4, 5, 7, 8, 13,
        14, 15, 20, 21, 59, 60, 61, 1000, 1001, Integer.MAX_VALUE};

    private WildTest() {
    }

    public static void main(String[] args) {
        for (int run = 0; run < RUNS; run++) {
            TensionNet one = new TensionNet();
            TensionNet two = new TensionNet();
            for (int i = 0; i < CALLS; i++) {
                int which = RANDOM.nextInt(23);
                int[] with = {pick(), pick(), pick()};
                long v = RANDOM.nextInt(3) == 0 ? RANDOM.nextLong() : pick();
                String before = result(one);
                long got = call(one, which, with, v);
                Check.due("call " + which + " of a like bench", call(two, which, with, v), got);
                boolean tells = which == 8 || which == 10 || which == 12 || which == 14 || which == 16;
                if (!tells || got == 0) {
                    Check.due("the result after call " + which, result(one).equals(before), true);
                }
            }
        }
        Check.end();
    }

    private static int pick() {
        return RANDOM.nextInt(4) == 0 ? ENDS[RANDOM.nextInt(ENDS.length)] : RANDOM.nextInt(5) - 1;
    }

    private static String result(TensionNet x) {
        return Check.top(x) + "/" + Check.bottom(x);
    }

    // Small nets are written whole now and then, or few runs would have any.
    private static long writeNet(TensionNet x, int seed) {
        Random random = new Random(seed);
        int joints = 2 + random.nextInt(4);
        int members = random.nextInt(9);
        long[] numbers = new long[2 + 3 * joints + 3 * members];
        numbers[0] = joints;
        for (int j = 0; j < joints; j++) {
            numbers[1 + 3 * j] = 3 * j - 5;
            numbers[2 + 3 * j] = random.nextInt(3) * j;
            numbers[3 + 3 * j] = random.nextInt(2);
        }
        numbers[1 + 3 * joints] = members;
        for (int m = 0; m < members; m++) {
            int a = random.nextInt(joints);
            numbers[2 + 3 * joints + 3 * m] = a;
            numbers[3 + 3 * joints + 3 * m] = (a + 1 + random.nextInt(joints - 1)) % joints;
            numbers[4 + 3 * joints + 3 * m] = random.nextInt(3);
        }
        return Check.build(x, 0, numbers);
    }

    private static long call(TensionNet x, int which, int[] with, long v) {
        switch (which) {
            case 0: return x.row(with[0], with[1], with[2]);
            case 1: return x.tear(with[0]) ? 1 : 0;
            case 2: return x.write(with[0], with[1], v);
            case 3: return x.net(with[0]);
            case 4: return x.load(with[0], with[1], with[2]);
            case 5: return x.pull(with[0], with[1]);
            case 6: return writeNet(x, with[0] * 31 + with[1]);
            case 7: return x.stresses();
            case 8: return x.stress(with[0], with[1]) ? 1 : 0;
            case 9: return x.ways();
            case 10: return x.way(with[0], with[1], with[2]) ? 1 : 0;
            case 11: return x.even() ? 1 : 0;
            case 12: return x.left(with[0], with[1]) ? 1 : 0;
            case 13: return x.borne();
            case 14: return x.bears(with[0]) ? 1 : 0;
            case 15: return x.shaped() ? 1 : 0;
            case 16: return x.shape(with[0], with[1]) ? 1 : 0;
            case 17: return x.tight();
            case 18: return x.stiff();
            case 19: return x.look(with[0]);
            case 20: return x.part(with[0] > 0, with[1]);
            case 21: return x.told(with[0], with[1]);
            default: return x.count(with[0]);
        }
    }
}
