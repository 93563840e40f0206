import java.lang.reflect.Constructor;
import java.lang.reflect.Field;
import java.lang.reflect.Method;
import java.math.BigInteger;
import java.util.Random;

/**
 * What a run hardly ever meets: equations whose first number is 0, and primes that divide a determinant. Such a
 * prime is found by the plain model and put at the head of the list of primes.
 */
public final class ExactTest {
    /** Seeds of nets that have such a prime; there are few. */
    private static final long[] AIR_SEEDS = {
        3589523174452174005L, -3589845858781472751L, 1526160441991096070L, 1958885551512698448L,
        8674843875434372238L, 2595004192153445737L, -1060775451734243751L, -8427852582094853024L,
    };
    private static final long[] GAS_SEEDS = {
        -4416306586763759011L, 5237109209946781948L, -4433426064224633838L, -5955722339761274898L,
        -8664619800774363446L, 2797763578385808833L, 584076831417976182L, 1409767397331882895L,
    };

    private ExactTest() { }

    private static Class<?> inside(String name) {
        for (Class<?> type : Minestrata.class.getDeclaredClasses()) {
            if (type.getSimpleName().equals(name)) {
                return type;
            }
        }
        throw new IllegalStateException(name);
    }

    private static Object call(Object of, String name, Object... values) throws ReflectiveOperationException {
        for (Method method : of.getClass().getDeclaredMethods()) {
            if (method.getName().equals(name)) {
                method.setAccessible(true);
                return method.invoke(of, values);
            }
        }
        throw new IllegalStateException(name);
    }

    private static long[][] rows(Object equations) throws ReflectiveOperationException {
        Field field = equations.getClass().getDeclaredField("row");
        field.setAccessible(true);
        return (long[][]) field.get(equations);
    }

    private static void equations() throws ReflectiveOperationException {
        Constructor<?> constructor = inside("Equations").getDeclaredConstructor();
        constructor.setAccessible(true);
        Object e = constructor.newInstance();
        long[][] matrix = {{0, 2, 1, 5}, {3, 0, 0, 6}, {1, 1, 0, 4}};
        call(e, "begin", 3, 10007L);
        for (int i = 0; i < 3; i++) {
            for (int k = 0; k < 4; k++) {
                call(e, "add", i, k, matrix[i][k] - 10007);
            }
        }
        Check.is("determinant", call(e, "solve", 3), 3L);
        Check.is("x", rows(e)[0][3], 2L);
        Check.is("y", rows(e)[1][3], 2L);
        Check.is("z", rows(e)[2][3], 1L);
        call(e, "begin", 2, 7L);
        call(e, "add", 0, 0, 1L);
        call(e, "add", 0, 1, 3L);
        call(e, "add", 1, 0, 4L);
        call(e, "add", 1, 1, 5L);
        Check.is("12 and 5 are the same by 7", call(e, "solve", 2), 0L);
        call(e, "begin", 2, 7L);
        call(e, "add", 0, 1, 1L);
        call(e, "add", 1, 0, 1L);
        Check.is("rows are swapped", call(e, "solve", 2), 6L);
        call(e, "begin", 0, 7L);
        Check.is("no equations", call(e, "solve", 0), 1L);
    }

    /** A prime from 2^30 to 2^31 that divides the number, if what is left without small factors is one; else 0. */
    private static int bigPrime(BigInteger number) {
        if (number.bitLength() > 62) {
            return 0;
        }
        long left = number.longValueExact();
        for (long f = 2; f < 47000 && f * f <= left; f++) {
            while (left % f == 0) {
                left /= f;
            }
        }
        return left >> 30 == 1 ? (int) left : 0;
    }

    /** Looks at the pressures' divisors, or at those of the gas that do not divide them. */
    private static int bigPrime(Model model, boolean byGas) {
        for (int j = 0; j < model.js.size(); j++) {
            model.gas(j);
            int prime = bigPrime(byGas ? model.g[j].d : model.p[j].d);
            if (prime > 0 && (!byGas || !dividesPressures(model, prime))) {
                return prime;
            }
        }
        return 0;
    }

    private static boolean dividesPressures(Model model, int prime) {
        for (int j = 0; j < model.js.size(); j++) {
            if (model.p[j].d.mod(BigInteger.valueOf(prime)).signum() == 0) {
                return true;
            }
        }
        return false;
    }

    private static void unlucky(int[] primes, boolean byGas, long[] seeds) {
        int first = primes[0];
        int second = primes[1];
        for (int i = 0; i < seeds.length; i++) {
            long seed = seeds[i];
            Model model = new Model();
            build(new Random(seed), byGas, model, null);
            int prime = bigPrime(model, byGas);
            Check.is("there is an unlucky prime for " + seed, prime > 0, true);
            primes[i % 2] = prime;
            Minestrata mine = new Minestrata();
            build(new Random(seed), byGas, null, mine);
            for (int j = 0; j < model.js.size(); j++) {
                Check.is("pressure " + j + " by " + prime, mine.pressure(j), model.pressure(j));
                Check.is("gas " + j + " by " + prime, mine.gas(j), model.gas(j));
            }
            for (int r = 0; r < model.rs.size(); r++) {
                Check.is("flow " + r + " by " + prime, mine.flow(r), model.flow(r));
            }
            Check.is("sound by " + prime, mine.isSound(), true);
            primes[0] = first;
            primes[1] = second;
        }
    }

    /** Puts the same net into either of the two; one source makes for divisors of few factors. */
    private static void build(Random random, boolean hasOneSource, Model model, Minestrata mine) {
        int js = 5 + random.nextInt(4);
        for (int j = 0; j < js; j++) {
            int draught = random.nextInt(101) - 50;
            if (model != null) model.addJunction(j < 2, draught);
            else mine.addJunction(j < 2, draught);
        }
        for (int r = 0; r < 12; r++) {
            int a = r % js;
            int b = (a + 1 + random.nextInt(js - 1)) % js;
            int resistance = 1 + random.nextInt(20);
            if (model != null) model.addRoad(a, b, resistance, false);
            else mine.addRoad(a, b, resistance, false);
        }
        for (int j = 2; j < js; j++) {
            int source = hasOneSource ? (j == 2 ? 1 : 0) : random.nextInt(5);
            if (model != null) model.step('s', j, source);
            else mine.step('s', j, source);
        }
    }

    public static void main(String[] args) throws ReflectiveOperationException {
        equations();
        Field field = inside("Radix").getDeclaredField("PRIMES");
        field.setAccessible(true);
        int[] primes = (int[]) field.get(null);
        Check.is("primes", primes.length, 32);
        for (int i = 0; i < primes.length; i++) {
            Check.is("a prime: " + primes[i], BigInteger.valueOf(primes[i]).isProbablePrime(60), true);
            Check.is("in order: " + primes[i], i == 0 || primes[i] < primes[i - 1], true);
        }
        unlucky(primes, false, AIR_SEEDS);
        unlucky(primes, true, GAS_SEEDS);
        Check.end("ExactTest");
    }
}
