import java.math.BigInteger;

/** What the tests share: counting of wrong answers, nets written in one line, and the RESULT read as a fraction. */
final class Check {
    private static final BigInteger PART = BigInteger.valueOf(1_000_000_000L);
    private static int wrong;

    private Check() {
    }

    static void due(String call, long got, long want) {
        if (got != want) {
            wrong(call + " answered " + got + ", due is " + want);
        }
    }

    static void due(String call, boolean got, boolean want) {
        if (got != want) {
            wrong(call + " answered " + got + ", due is " + want);
        }
    }

    static void wrong(String what) {
        wrong++;
        if (wrong <= 50) {
            System.out.println(what);
        }
    }

    static void end() {
        System.out.println(wrong == 0 ? "all answers are as due" : wrong + " answers are not as due");
        if (wrong != 0) {
            System.exit(1);
        }
    }

    static int build(TensionNet bench, int slot, long... numbers) {
        due("row", bench.row(slot, 3, numbers.length), 0);
        for (int i = 0; i < numbers.length; i++) {
            due("write", bench.write(slot, i, numbers[i]), 0);
        }
        return bench.net(slot);
    }

    static TensionNet bench(long... numbers) {
        TensionNet bench = new TensionNet();
        int joints = (int) numbers[0];
        due("net", build(bench, 7, numbers), numbers[1 + 3 * joints]);
        return bench;
    }

    static void result(String call, TensionNet bench, boolean answer, long top, long bottom) {
        due(call, answer, true);
        result(call, bench, top, bottom);
    }

    static void result(String call, TensionNet bench, long top, long bottom) {
        BigInteger gotTop = top(bench);
        BigInteger gotBottom = bottom(bench);
        if (!gotTop.equals(BigInteger.valueOf(top)) || !gotBottom.equals(BigInteger.valueOf(bottom))) {
            wrong(call + " has the result " + gotTop + "/" + gotBottom + ", due is " + top + "/" + bottom);
        }
    }

    static BigInteger top(TensionNet bench) {
        return parts(bench, false, bench.look(1)).multiply(BigInteger.valueOf(bench.look(0)));
    }

    static BigInteger bottom(TensionNet bench) {
        return parts(bench, true, bench.look(2));
    }

    /** All that can be read of a bench without a change of it: the RESULT, and what told and count answer. */
    static String state(TensionNet bench) {
        StringBuilder state = new StringBuilder().append(top(bench)).append('/').append(bottom(bench));
        for (int what = 0; what < 4; what++) {
            state.append(' ').append(bench.count(what));
        }
        for (int what = 0; what < 15; what++) {
            for (int k = 0; k < 15; k++) {
                state.append(' ').append(bench.told(k, what));
            }
        }
        return state.toString();
    }

    /** That a call was refused as is due, and that nothing has changed by it. */
    static void refused(String call, TensionNet bench, String before, long got, long want) {
        due(call, got, want);
        due(call + " changes nothing", state(bench).equals(before), true);
    }

    static void refused(String call, TensionNet bench, String before, boolean got) {
        refused(call, bench, before, got ? 1 : 0, 0);
    }

    private static BigInteger parts(TensionNet bench, boolean bottom, int size) {
        BigInteger sum = BigInteger.ZERO;
        for (int i = size - 1; i >= 0; i--) {
            int part = bench.part(bottom, i);
            if (part < 0 || part > 999_999_999 || part == 0 && i == size - 1 && size > 1) {
                wrong("part " + i + " of " + size + " is " + part);
            }
            sum = sum.multiply(PART).add(BigInteger.valueOf(part));
        }
        due("the part behind the last", bench.part(bottom, size), 0);
        return sum;
    }
}
