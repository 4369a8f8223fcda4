import java.lang.reflect.Constructor;
import java.lang.reflect.Field;
import java.lang.reflect.Method;
import java.math.BigInteger;
import java.util.Random;

/**
 * The exact arithmetic behind all fractions, against the library's, with limbs at their edges: such carries are too
 * rare in sections to be met there by chance.
 */
public final class ArithmeticTest {
    private static final BigInteger BASE = BigInteger.valueOf(1000000000);
    private static final int MOST = 40;
    private static final Random RANDOM = new Random(5);
    private static final Class<?> WHOLE = inside("Whole");
    private static final Class<?> FRACTION = inside("Fraction");
    private static final Class<?> ARITHMETIC = inside("Arithmetic");
    private static int wrong;
    private static int checked;

    public static void main(String[] args) throws Exception {
        if (WHOLE == null || FRACTION == null || ARITHMETIC == null) {
            // How the class reckons inside is free: the other tests ask its answers alone.
            System.out.println("NOT TESTED: the class has no Whole, Fraction and Arithmetic inside any more");
            return;
        }
        Object arithmetic = make(ARITHMETIC);
        for (int n = 0; n < 60000 && wrong < 10; n++) {
            wholes(arithmetic);
            fractions(arithmetic);
        }
        System.out.println(checked + " checks, " + wrong + " wrong");
        if (wrong > 0) {
            System.exit(1);
        }
    }

    private static void wholes(Object arithmetic) throws Exception {
        BigInteger a = number(12);
        BigInteger b = number(8);
        Object wholeA = whole(a);
        Object wholeB = whole(b);
        Object into = make(WHOLE, MOST);
        call(into, "sum", wholeA, wholeB);
        is("sum", value(into), a.add(b));
        call(into, "product", wholeA, wholeB);
        is("product", value(into), a.multiply(b));
        boolean less = a.compareTo(b) < 0;
        call(into, "difference", less ? wholeB : wholeA, less ? wholeA : wholeB);
        is("difference", value(into), a.subtract(b).abs());
        is("compare", BigInteger.valueOf((int) call(wholeA, "compare", wholeB)), BigInteger.valueOf(a.compareTo(b)));
        if (b.signum() > 0) {
            // A multiple of the divisor, and its neighbours, are where a guessed digit may be one too high or low.
            BigInteger near = a.multiply(b).add(BigInteger.valueOf(RANDOM.nextInt(3) - 1)).max(BigInteger.ZERO);
            BigInteger dividend = RANDOM.nextBoolean() ? near : number(16);
            call(arithmetic, "divide", into, whole(dividend), wholeB);
            is("quotient of " + dividend + " by " + b, value(into), dividend.divide(b));
            is("rest of " + dividend + " by " + b, value(field(arithmetic, "rest")), dividend.mod(b));
        }
        BigInteger shared = number(4);
        call(arithmetic, "findCommon", into, whole(a.multiply(shared)), whole(b.multiply(shared)));
        is("common", value(into), a.multiply(shared).gcd(b.multiply(shared)));
        for (int k = 0; k < 7; k++) {
            BigInteger eighteen = a.divide(BASE.pow(2 * k)).mod(BASE.pow(2));
            is("digits", BigInteger.valueOf((long) call(wholeA, "eighteen", k)), eighteen);
        }
    }

    private static void fractions(Object arithmetic) throws Exception {
        BigInteger shared = number(2).max(BigInteger.ONE);
        BigInteger[] a = fraction(shared);
        BigInteger[] b = RANDOM.nextInt(20) == 0 ? a : fraction(shared);
        Object fractionA = fraction(a);
        Object fractionB = fraction(b);
        Object into = RANDOM.nextInt(3) == 0 ? fractionA : make(FRACTION, MOST);
        int way = RANDOM.nextBoolean() ? 1 : -1;
        int what = RANDOM.nextInt(3);
        BigInteger up;
        BigInteger low;
        if (what == 0) {
            call(arithmetic, "add", into, fractionA, fractionB, way);
            up = a[0].multiply(b[1]).add(b[0].multiply(a[1]).multiply(BigInteger.valueOf(way)));
            low = a[1].multiply(b[1]);
        } else {
            boolean inverse = what == 2 && b[0].signum() != 0;
            call(arithmetic, "product", into, fractionA, fractionB, inverse);
            up = a[0].multiply(inverse ? b[1] : b[0]);
            low = a[1].multiply(inverse ? b[0] : b[1]);
        }
        BigInteger common = up.gcd(low);
        BigInteger sign = BigInteger.valueOf(up.signum() * low.signum());
        is("sign " + what, BigInteger.valueOf((int) field(into, "sign")), sign);
        is("up " + what, value(field(into, "up")), up.divide(common).abs());
        is("low " + what, value(field(into, "low")), low.divide(common).abs());
    }

    private static BigInteger[] fraction(BigInteger shared) {
        BigInteger up = number(5);
        BigInteger low = number(5).max(BigInteger.ONE).multiply(shared);
        BigInteger common = up.gcd(low);
        BigInteger sign = BigInteger.valueOf(RANDOM.nextBoolean() ? 1 : -1);
        return new BigInteger[] {up.divide(common).multiply(sign), low.divide(common)};
    }

    private static BigInteger number(int most) {
        BigInteger number = BigInteger.ZERO;
        for (int i = RANDOM.nextInt(most + 1); i > 0; i--) {
            number = number.multiply(BASE).add(BigInteger.valueOf(limb()));
        }
        return number;
    }

    private static int limb() {
        switch (RANDOM.nextInt(8)) {
            case 0:
                return 0;
            case 1:
                return 1;
            case 2:
                return 999999999;
            case 3:
                return 500000000 - RANDOM.nextInt(2);
            case 4:
                return 999999998;
            default:
                return RANDOM.nextInt(1000000000);
        }
    }

    private static Object whole(BigInteger value) throws Exception {
        Object whole = make(WHOLE, MOST);
        put(whole, value);
        return whole;
    }

    private static Object fraction(BigInteger[] parts) throws Exception {
        Object fraction = make(FRACTION, MOST);
        put(field(fraction, "up"), parts[0].abs());
        put(field(fraction, "low"), parts[1]);
        Field sign = FRACTION.getDeclaredField("sign");
        sign.setAccessible(true);
        sign.setInt(fraction, parts[0].signum());
        return fraction;
    }

    private static void put(Object whole, BigInteger value) throws Exception {
        long[] limbs = (long[]) field(whole, "limbs");
        BigInteger rest = value;
        int size = 0;
        while (rest.signum() > 0) {
            limbs[size] = rest.mod(BASE).longValue();
            rest = rest.divide(BASE);
            size++;
        }
        Field field = WHOLE.getDeclaredField("size");
        field.setAccessible(true);
        field.setInt(whole, size);
    }

    /** The number that the limbs tell, or -1 where they are none of nine digits each, or a 0 in front. */
    private static BigInteger value(Object whole) throws Exception {
        long[] limbs = (long[]) field(whole, "limbs");
        int size = (int) field(whole, "size");
        BigInteger value = BigInteger.ZERO;
        for (int i = size - 1; i >= 0; i--) {
            if (limbs[i] < 0 || limbs[i] >= BASE.longValue()) {
                return BigInteger.ONE.negate();
            }
            value = value.multiply(BASE).add(BigInteger.valueOf(limbs[i]));
        }
        if (size > 0 && limbs[size - 1] == 0) {
            return BigInteger.ONE.negate();
        }
        return value;
    }

    private static void is(String what, BigInteger got, BigInteger want) {
        checked++;
        if (!got.equals(want)) {
            wrong++;
            System.out.println(what + ": got " + got + ", due is " + want);
        }
    }

    private static Class<?> inside(String name) {
        for (Class<?> kind : SectionTemplates.class.getDeclaredClasses()) {
            if (kind.getSimpleName().equals(name)) {
                return kind;
            }
        }
        return null;
    }

    private static Object make(Class<?> kind, Object... arguments) throws Exception {
        Constructor<?> constructor = kind.getDeclaredConstructors()[0];
        constructor.setAccessible(true);
        return constructor.newInstance(arguments);
    }

    private static Object field(Object of, String name) throws Exception {
        Field field = of.getClass().getDeclaredField(name);
        field.setAccessible(true);
        return field.get(of);
    }

    private static Object call(Object on, String name, Object... arguments) throws Exception {
        for (Method method : on.getClass().getDeclaredMethods()) {
            if (method.getName().equals(name)) {
                method.setAccessible(true);
                return method.invoke(on, arguments);
            }
        }
        throw new IllegalStateException("no method " + name);
    }
}
