import java.lang.reflect.Constructor;
import java.lang.reflect.Field;
import java.lang.reflect.Method;
import java.math.BigInteger;
import java.util.Random;

/**
 * The bench's own whole numbers against the library's. They are reached by reflection, as few nets would lead to the
 * rare corrections of a long division.
 */
public final class NumbersTest {
    private static final BigInteger BASE = BigInteger.valueOf(1_000_000_000L);
    private static final Random RANDOM = new Random(7);
    private static Class<?> whole;
    private static Constructor<?> newWhole;

    private NumbersTest() {
    }

    public static void main(String[] args) throws ReflectiveOperationException {
        whole = Class.forName("TensionNet$Whole");
        newWhole = whole.getDeclaredConstructor(int.class);
        newWhole.setAccessible(true);
        for (int i = 0; i < 30000; i++) {
            BigInteger a = number(1 + RANDOM.nextInt(16));
            BigInteger b = number(1 + RANDOM.nextInt(8));
            judgeSums(a, b);
            judgeDivision(a, b);
            judgeDivision(a.multiply(b), b);
            judgeDivision(a.multiply(b).subtract(BigInteger.ONE), b);
            if (i % 10 == 0) {
                judgeCommon(a.multiply(b), b.multiply(number(2)));
            }
        }
        // A guess from the first parts is two too high here.
        judgeDivision(BASE.pow(2).multiply(BigInteger.valueOf(500_000_000)).subtract(BigInteger.ONE),
                BASE.multiply(BigInteger.valueOf(500_000_000)).add(BASE.subtract(BigInteger.ONE)));
        Check.end();
    }

    // Parts at the ends of their range are far more frequent than chance would make them.
    private static BigInteger number(int parts) {
        BigInteger sum = BigInteger.ZERO;
        for (int i = 0; i < parts; i++) {
            int kind = RANDOM.nextInt(6);
            int part = kind == 0 ? 0 : kind == 1 ? 999_999_999 : kind == 2 ? 500_000_000 - RANDOM.nextInt(3)
                    : kind == 3 ? RANDOM.nextInt(3) : RANDOM.nextInt(1_000_000_000);
            sum = sum.multiply(BASE).add(BigInteger.valueOf(part));
        }
        return RANDOM.nextBoolean() ? sum : sum.negate();
    }

    private static Object make(BigInteger number) throws ReflectiveOperationException {
        Object made = newWhole.newInstance(36);
        BigInteger rest = number.abs();
        int[] parts = (int[]) field(made, "parts").get(made);
        int size = 0;
        while (rest.signum() > 0) {
            parts[size++] = rest.mod(BASE).intValue();
            rest = rest.divide(BASE);
        }
        // What stands behind the last part must not matter.
        for (int i = size; i < parts.length; i++) {
            parts[i] = 123_456_789;
        }
        field(made, "size").setInt(made, size);
        field(made, "below").setBoolean(made, number.signum() < 0);
        return made;
    }

    private static Field field(Object of, String name) throws ReflectiveOperationException {
        Field field = of.getClass().getDeclaredField(name);
        field.setAccessible(true);
        return field;
    }

    private static BigInteger read(Object made) throws ReflectiveOperationException {
        int[] parts = (int[]) field(made, "parts").get(made);
        int size = field(made, "size").getInt(made);
        boolean below = field(made, "below").getBoolean(made);
        Check.due("the first part is not 0", size == 0 || parts[size - 1] != 0, true);
        Check.due("0 is not below", size == 0 && below, false);
        BigInteger sum = BigInteger.ZERO;
        for (int i = size - 1; i >= 0; i--) {
            Check.due("a part is in its range", parts[i] >= 0 && parts[i] <= 999_999_999, true);
            sum = sum.multiply(BASE).add(BigInteger.valueOf(parts[i]));
        }
        return below ? sum.negate() : sum;
    }

    private static Object call(Object of, String name, Class<?>[] types, Object... with)
            throws ReflectiveOperationException {
        Method method = of.getClass().getDeclaredMethod(name, types);
        method.setAccessible(true);
        return method.invoke(of, with);
    }

    private static void due(String what, BigInteger a, BigInteger b, BigInteger got, BigInteger want) {
        if (!got.equals(want)) {
            Check.wrong(what + " of " + a + " and " + b + " is " + got + ", due is " + want);
        }
    }

    private static void judgeSums(BigInteger a, BigInteger b) throws ReflectiveOperationException {
        Class<?>[] join = {whole, boolean.class};
        Object sum = make(a);
        call(sum, "join", join, make(b), false);
        due("sum", a, b, read(sum), a.add(b));
        Object gap = make(a);
        call(gap, "join", join, make(b), true);
        due("gap", a, b, read(gap), a.subtract(b));
        Object turned = make(b);
        call(turned, "join", join, make(a), true);
        due("gap", b, a, read(turned), b.subtract(a));
        Object product = make(a);
        call(product, "becomeProduct", new Class<?>[] {whole, whole}, make(a), make(b));
        due("product", a, b, read(product), a.multiply(b));
        int compared = (Integer) call(make(a), "compareSize", new Class<?>[] {whole}, make(b));
        Check.due("compareSize", Integer.signum(compared), a.abs().compareTo(b.abs()));
        Check.due("sign", (Integer) call(make(a), "sign", new Class<?>[0]), a.signum());
    }

    private static Object divider() throws ReflectiveOperationException {
        Constructor<?> maker = Class.forName("TensionNet$Divider").getDeclaredConstructor();
        maker.setAccessible(true);
        return maker.newInstance();
    }

    private static void judgeDivision(BigInteger a, BigInteger b) throws ReflectiveOperationException {
        Object divider = divider();
        Object rest = make(a);
        call(divider, "divide", new Class<?>[] {whole, whole}, rest, make(b));
        Object quotient = field(divider, "quotient").get(divider);
        boolean none = b.signum() == 0;
        due("quotient", a, b, read(quotient), none ? BigInteger.ZERO : a.divide(b));
        due("rest", a, b, read(rest).abs(), none ? a.abs() : a.remainder(b).abs());
    }

    private static void judgeCommon(BigInteger a, BigInteger b) throws ReflectiveOperationException {
        Object common = call(divider(), "commonOf", new Class<?>[] {whole, whole}, make(a), make(b));
        due("common divisor", a, b, read(common), a.gcd(b));
    }
}
