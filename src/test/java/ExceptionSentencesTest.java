import java.util.Arrays;
import java.util.function.Consumer;
import java.util.function.Supplier;

/**
 * Each exception of each promise on both sides of its boundary: the wrong calls throw it and change nothing, the right
 * ones, just beside them, throw nothing. Where several exceptions apply, the one that is listed first is thrown.
 */
public final class ExceptionSentencesTest {
    private static final int MIN = Integer.MIN_VALUE;
    private static final int MAX = Integer.MAX_VALUE;
    private static final Supplier<Minestrata> SOME = Mines::some;
    private static final Supplier<Minestrata> CROWDED = Mines::crowded;

    private ExceptionSentencesTest() { }

    /** A call with a number. */
    private interface Ask {
        void of(Minestrata m, int number);
    }

    @SafeVarargs
    @SuppressWarnings("varargs")
    private static Consumer<Minestrata>[] calls(Consumer<Minestrata>... calls) {
        return calls;
    }

    @SuppressWarnings("unchecked")
    private static Consumer<Minestrata>[] callsOf(Ask ask, int... numbers) {
        return Arrays.stream(numbers).mapToObj(n -> (Consumer<Minestrata>) m -> ask.of(m, n)).toArray(Consumer[]::new);
    }

    private static void row(int promise, Class<?> due, String when, Supplier<Minestrata> make,
            Consumer<Minestrata>[] wrong, Supplier<Minestrata> makeRight, Consumer<Minestrata>[] right) {
        Check.sentence("Promise " + promise + ": Throws `" + due.getSimpleName() + "` " + when, () -> {
            Check.failsInVain("wrong", due, make, wrong);
            Check.works("right", makeRight, right);
        });
    }

    private static void row(int promise, Class<?> due, String when, Supplier<Minestrata> make,
            Consumer<Minestrata>[] wrong, Consumer<Minestrata>[] right) {
        row(promise, due, when, make, wrong, make, right);
    }

    /** Only the numbers from 0 to one less than so many are right, and none in a new mine. */
    private static void noSuch(int promise, String when, Supplier<Minestrata> make, int many, Ask ask) {
        row(promise, Check.BOUNDS, when, make, callsOf(ask, -1, MIN, many, MAX), callsOf(ask, 0, many - 1));
        row(promise, Check.BOUNDS, when, Minestrata::new, callsOf(ask, 0), make, callsOf(ask, 0));
    }

    /** Of the right numbers, those in a mine with no room for more as well. */
    private static void noSuch(int promise, String when, int many, int most, Ask ask) {
        noSuch(promise, when, SOME, many, ask);
        noSuch(promise, when, CROWDED, most, ask);
    }

    private static void noJunction(int promise, Ask ask) {
        noSuch(promise, "if there is no such junction", 3, 9, ask);
    }

    private static void noRoad(int promise, Ask ask) {
        noSuch(promise, "if there is no such road", 4, 14, ask);
    }

    private static void noStope(int promise, Ask ask) {
        noSuch(promise, "if there is no such stope", 2, 8, ask);
    }

    private static void noPerson(int promise, Ask ask) {
        noSuch(promise, "if there is no such person", 2, 12, ask);
    }

    private static Minestrata withSensors() {
        Minestrata m = Mines.some();
        m.setSensor(0, 3);
        m.setSensor(2, -3);
        return m;
    }

    private static void building() {
        row(2, Check.ARGUMENT, "if it is out of range, for one at the surface", SOME,
                callsOf((m, d) -> m.addJunction(true, d), -51, 51, MIN, MAX), callsOf((m, d) -> m.addJunction(true, d), -50, 50));
        row(2, Check.ARGUMENT, "if it is out of range", SOME, callsOf((m, d) -> m.addJunction(true, d), -51, 51),
                callsOf((m, d) -> m.addJunction(false, d), -51, 51, MIN, MAX));
        row(2, Check.STATE, "if there are 9 junctions", CROWDED, calls(m -> m.addJunction(true, 0), m -> m.addJunction(false, 0)),
                () -> Mines.crowd(8, 14, 8, 12), calls(m -> m.addJunction(true, 0), m -> m.addJunction(false, 0)));
        noSuch(3, "if there is no such junction, for either", SOME, 3, (m, j) -> m.addRoad(j, j == 1 ? 0 : 1, 1, false));
        noSuch(3, "if there is no such junction, for either", SOME, 3, (m, j) -> m.addRoad(j == 1 ? 0 : 1, j, 1, false));
        row(3, Check.ARGUMENT, "if both are the same", SOME, callsOf((m, j) -> m.addRoad(j, j, 1, true), 0, 1, 2),
                callsOf((m, j) -> m.addRoad(j, 2, 1, true), 0, 1));
        row(3, Check.ARGUMENT, "if both are the same, or the resistance is out of range", SOME,
                callsOf((m, r) -> m.addRoad(0, 1, r, true), 0, -1, 21, MIN, MAX), callsOf((m, r) -> m.addRoad(0, 1, r, true), 1, 20));
        row(3, Check.STATE, "if there are 14 roads", CROWDED, calls(m -> m.addRoad(0, 1, 1, true), m -> m.addRoad(8, 0, 20, false)),
                () -> Mines.crowd(9, 13, 8, 12), calls(m -> m.addRoad(0, 1, 1, true), m -> m.addRoad(8, 0, 20, false)));
    }

    private static void buildingStopes() {
        noSuch(4, "if there is no such junction", () -> Mines.net("iiisss"), 6, (m, j) -> m.addStope(j == 5 ? 2 : j, 1, 1, 10));
        row(4, Check.ARGUMENT, "if the junction is at the surface", () -> Mines.net("siis"),
                callsOf((m, j) -> m.addStope(j, 1, 1, 10), 0, 3), callsOf((m, j) -> m.addStope(j, 1, 1, 10), 1, 2));
        row(4, Check.ARGUMENT, "if the junction is at the surface, or a number is out of range", SOME,
                callsOf((m, t) -> m.addStope(1, t, 1, 10), 0, -1, 61, MIN, MAX), callsOf((m, t) -> m.addStope(1, t, 1, 10), 1, 60));
        row(4, Check.ARGUMENT, "if the junction is at the surface, or a number is out of range", SOME,
                callsOf((m, g) -> m.addStope(1, 1, g, 10), -1, 1000, MIN, MAX), callsOf((m, g) -> m.addStope(1, 1, g, 10), 0, 999));
        row(4, Check.ARGUMENT, "if the junction is at the surface, or a number is out of range", SOME,
                callsOf((m, s) -> m.addStope(1, 1, 1, s), 9, 100, 0, MIN, MAX), callsOf((m, s) -> m.addStope(1, 1, 1, s), 10, 99));
        row(4, Check.STATE, "if there are 8 stopes", CROWDED, calls(m -> m.addStope(1, 1, 1, 10)), () -> Mines.crowd(9, 14, 7, 12),
                calls(m -> m.addStope(1, 1, 1, 10)));
        noSuch(5, "if there is no such stope, for either", () -> Mines.stopes(99, 99, 99), 3, (m, s) -> m.join(s, s == 1 ? 0 : 1));
        noSuch(5, "if there is no such stope, for either", () -> Mines.stopes(99, 99, 99), 3, (m, s) -> m.join(s == 1 ? 0 : 1, s));
        row(5, Check.ARGUMENT, "if both are the same", CROWDED, callsOf((m, s) -> m.join(s, s), 0, 4, 7),
                callsOf((m, s) -> m.join(s, 1), 0, 2, 7));
    }

    private static void sensors() {
        row(6, Check.ARGUMENT, "if it is out of range", SOME, callsOf((m, l) -> m.setLimit(l), -1, 9999, MIN, MAX),
                callsOf((m, l) -> m.setLimit(l), 0, 9998));
        noJunction(7, (m, j) -> m.setSensor(j, 0));
        row(7, Check.ARGUMENT, "if the drift is out of range", SOME, callsOf((m, d) -> m.setSensor(1, d), -51, 51, MIN, MAX),
                callsOf((m, d) -> m.setSensor(1, d), -50, 50));
        row(7, Check.ARGUMENT, "if the drift is out of range", SOME, callsOf((m, d) -> m.setSensor(2, d), -51, 51),
                callsOf((m, d) -> m.setSensor(2, d), -50, 50));
        noSuch(8, "if there is no such junction", ExceptionSentencesTest::withSensors, 3, (m, j) -> m.setRight(j));
        row(8, Check.NO_ELEMENT, "if it has no sensor", SOME, callsOf(Minestrata::setRight, 0, 2), callsOf(Minestrata::setRight, 1));
        noSuch(17, "if there is no such junction", ExceptionSentencesTest::withSensors, 3, (m, j) -> m.reading(j));
        row(17, Check.NO_ELEMENT, "if it has no sensor", SOME, callsOf(Minestrata::reading, 0, 2), callsOf(Minestrata::reading, 1));
    }

    private static void stepArguments() {
        String when = "if there is no such kind, or the value is out of range";
        Consumer<Minestrata>[] right = calls(m -> m.step('f', 0, 1));
        row(9, Check.ARGUMENT, when, SOME, calls(m -> m.step('a', 0, 0), m -> m.step('D', 0, 0), m -> m.step(' ', 0, 0),
                m -> m.step('.', 0, 0), m -> m.step((char) 0, 0, 0), m -> m.step((char) 65535, 0, 0)), right);
        row(9, Check.ARGUMENT, when, SOME, callsOf((m, v) -> m.step('d', 0, v), -1, 2), callsOf((m, v) -> m.step('d', 0, v), 0, 1));
        row(9, Check.ARGUMENT, when, SOME, callsOf((m, v) -> m.step('f', 0, v), -51, 51), callsOf((m, v) -> m.step('f', 0, v), -50, 50));
        row(9, Check.ARGUMENT, when, SOME, callsOf((m, v) -> m.step('b', 0, v), -1, 2), callsOf((m, v) -> m.step('b', 0, v), 0, 1));
        row(9, Check.ARGUMENT, when, SOME, callsOf((m, v) -> m.step('s', 0, v), -1, 21), callsOf((m, v) -> m.step('s', 0, v), 0, 20));
        row(9, Check.ARGUMENT, when, SOME, callsOf((m, v) -> m.step('n', 0, v), -51, 51), callsOf((m, v) -> m.step('n', 0, v), -50, 50));
        row(9, Check.ARGUMENT, when, SOME, callsOf((m, v) -> m.step('o', 0, v), 0, 61), callsOf((m, v) -> m.step('o', 0, v), 1));
        row(9, Check.ARGUMENT, when, SOME, callsOf((m, v) -> m.step('o', 0, v), MIN, MAX), callsOf((m, v) -> m.step('c', 1, v), MIN, MAX));
        noSuch(9, "if there is no such road", 4, 14, (m, r) -> m.step('f', r, 0));
        noSuch(9, "if there is no such road", 4, 14, (m, r) -> m.step('b', r, 0));
        noSuch(9, "if there is no such road", () -> Mines.net("sii", 0, 1, 1, 2, 2, 0), 3, (m, r) -> m.step('d', r, 1));
        noSuch(9, "if there is no such road, junction", 3, 9, (m, j) -> m.step('s', j, 0));
        noSuch(9, "if there is no such road, junction", () -> Mines.net("sss"), 3, (m, j) -> m.step('n', j, 0));
        noSuch(9, "if there is no such road, junction or stope", () -> Mines.stopes(99, 99, 99), 3, (m, s) -> m.step('o', s, 1));
        noSuch(9, "if there is no such road, junction or stope", () -> Mines.piles(60, 1, 60, 1), 2, (m, s) -> m.step('c', s, 0));
    }

    private static Minestrata cutOff() {
        Minestrata m = Mines.stopes(99);
        m.step('b', 0, 1);
        m.step('b', 1, 1);
        return m;
    }

    private static Minestrata filled(boolean isSet) {
        Minestrata m = Mines.piles(60, 1);
        m.step('c', 0, 0);
        if (isSet) {
            m.shift();
        }
        return m;
    }

    private static void stepsThatCannotBe() {
        Class<?> due = Check.UNSUPPORTED;
        row(9, due, "if the road has no door", SOME, callsOf((m, v) -> m.step('d', 3, v), 0, 1),
                callsOf((m, v) -> m.step('d', 1, v), 0, 1));
        row(9, due, "if the road has no door, the junction is not at the surface for n", SOME,
                callsOf((m, j) -> m.step('n', j, 0), 1, 2), callsOf((m, j) -> m.step('n', j, 0), 0));
        String tons = "if the road has no door, the junction is not at the surface for n, the stope has not so many tons";
        row(9, due, tons, () -> Mines.stopes(99), callsOf((m, v) -> m.step('o', 0, v), 11, 60),
                callsOf((m, v) -> m.step('o', 0, v), 1, 10));
        row(9, due, tons, SOME, callsOf((m, s) -> m.step('o', s, 2), 0, 1), callsOf((m, s) -> m.step('o', s, 1), 0));
        row(9, due, tons + " or no way leads to the surface", ExceptionSentencesTest::cutOff,
                callsOf((m, v) -> m.step('o', 0, v), 1, 10), () -> Mines.stopes(99), callsOf((m, v) -> m.step('o', 0, v), 1, 10));
        String empty = tons + " or no way leads to the surface, or is not empty for c";
        row(9, due, empty, SOME, callsOf((m, s) -> m.step('c', s, 0), 0), callsOf((m, s) -> m.step('c', s, 0), 1));
        row(9, due, empty + ", or filled", () -> filled(false), callsOf((m, s) -> m.step('c', s, 0), 0), () -> Mines.piles(60, 1),
                callsOf((m, s) -> m.step('c', s, 0), 0));
        row(9, due, empty + ", or filled", () -> filled(true), callsOf((m, s) -> m.step('c', s, 0), 0), () -> Mines.piles(60, 1),
                callsOf((m, s) -> m.step('c', s, 0), 0));
    }

    private static Minestrata afterDone() {
        Minestrata m = Mines.some();
        m.step('f', 0, 29);
        return m;
    }

    private static void questions() {
        row(10, Check.NO_ELEMENT, "if the last step was done", ExceptionSentencesTest::afterDone, calls(Minestrata::refusedBy), SOME,
                calls(Minestrata::refusedBy));
        row(10, Check.NO_ELEMENT, "if the last step was done, or there was none", Minestrata::new, calls(Minestrata::refusedBy), SOME,
                calls(Minestrata::refusedBy));
        noRoad(12, Minestrata::flow);
        noJunction(13, Minestrata::pressure);
        noJunction(14, Minestrata::gas);
        noJunction(15, Minestrata::isFull);
        noJunction(16, Minestrata::isGood);
        noJunction(18, Minestrata::hasPower);
        noPerson(21, Minestrata::whereIs);
        noPerson(22, Minestrata::isSafe);
        noPerson(23, Minestrata::isSafeAnew);
        noJunction(24, Minestrata::ways);
        noStope(25, Minestrata::tons);
        noStope(26, Minestrata::load);
        noStope(27, Minestrata::stateOf);
        noStope(28, Minestrata::pile);
        noStope(30, Minestrata::delivered);
        noRoad(31, Minestrata::isBlocked);
        row(35, Check.ARITHMETIC, "if there are none", Minestrata::new, calls(Minestrata::goodShare), () -> Mines.net("i"),
                calls(Minestrata::goodShare));
        row(36, Check.ARITHMETIC, "if there are none", () -> Mines.piles(60, 1), calls(Minestrata::meanLoad), () -> Mines.piles(59, 1),
                calls(Minestrata::meanLoad));
        row(36, Check.ARITHMETIC, "if there are none", () -> filled(true), calls(Minestrata::meanLoad), SOME, calls(Minestrata::meanLoad));
    }

    /** Person 0 is at junction 1; road 0 leads up, 1 does not lead from there, 2 is blocked, 3 leads into gas. */
    private static Minestrata toWalk() {
        Minestrata m = Mines.net("siii", 0, 1, 0, 2, 1, 2, 3, 1, 1, 0, 2, 1);
        m.step('b', 2, 1);
        m.step('s', 3, 1);
        m.come(1);
        return m;
    }

    private static void peopleAndOre() {
        noSuch(19, "if there is no such junction", () -> Mines.net("ssi", 0, 2, 2, 1), 3, Minestrata::come);
        row(19, Check.UNSUPPORTED, "if the person would not be safe there", () -> Mines.net("siis", 0, 1, 1, 2, 1, 3),
                callsOf(Minestrata::come, 2), callsOf(Minestrata::come, 1));
        row(19, Check.UNSUPPORTED, "if the person would not be safe there, and it is not at the surface", () -> Mines.net("siis", 0, 1),
                callsOf(Minestrata::come, 1, 2), callsOf(Minestrata::come, 0, 3));
        row(19, Check.STATE, "if there are 12 people", CROWDED, callsOf(Minestrata::come, 0, 1), () -> Mines.crowd(9, 14, 8, 11),
                callsOf(Minestrata::come, 0, 1));
        noSuch(20, "if there is no such person", SOME, 2, (m, p) -> m.walk(p, 0));
        noSuch(20, "if there is no such person or road", () -> Mines.crowd(2, 14, 0, 2), 14, (m, r) -> m.walk(0, r));
        Consumer<Minestrata>[] right = callsOf((m, r) -> m.walk(0, r), 0, 4, 5);
        String when = "if the road does not lead from where the person is";
        row(20, Check.UNSUPPORTED, when, ExceptionSentencesTest::toWalk, callsOf((m, r) -> m.walk(0, r), 1), right);
        row(20, Check.UNSUPPORTED, when + ", is blocked", ExceptionSentencesTest::toWalk, callsOf((m, r) -> m.walk(0, r), 2), right);
        row(20, Check.UNSUPPORTED, when + ", is blocked, or leads to a junction that is not good", ExceptionSentencesTest::toWalk,
                callsOf((m, r) -> m.walk(0, r), 3), right);
        row(29, Check.ARGUMENT, "if the tons are out of range", () -> Mines.piles(60, 5),
                callsOf((m, t) -> m.deliver(t, 0, 9), 0, -1, 21, MIN, MAX), callsOf((m, t) -> m.deliver(t, 0, 9), 1, 20));
        String grades = "if the tons are out of range, or the least grade is less than 0";
        row(29, Check.ARGUMENT, grades, SOME, callsOf((m, l) -> m.deliver(1, l, 9), -1, MIN), callsOf((m, l) -> m.deliver(1, l, 9), 0));
        row(29, Check.ARGUMENT, grades + ", or greater than the greatest one", SOME, callsOf((m, l) -> m.deliver(1, l, 9), 10, MAX),
                callsOf((m, l) -> m.deliver(1, l, 9), 8, 9));
        row(29, Check.ARGUMENT, grades + ", or greater than the greatest one, or this than 999", SOME,
                callsOf((m, g) -> m.deliver(1, 5, g), 1000, MAX), callsOf((m, g) -> m.deliver(1, 5, g), 998, 999));
        row(29, Check.UNSUPPORTED, "if the piles have not so many tons", SOME, callsOf((m, t) -> m.deliver(t, 0, 9), 8, 20),
                callsOf((m, t) -> m.deliver(t, 0, 9), 1, 7));
    }

    /** The first of those that apply, of two that stand one behind the other and of the first and the last. */
    private static void first(int promise, Class<?> due, Supplier<Minestrata> make, Consumer<Minestrata>[] wrong) {
        Check.sentence("Promise " + promise + ": If several exceptions apply, the one that is listed first is thrown.",
                () -> Check.failsInVain("several", due, make, wrong));
    }

    private static void listedFirst() {
        first(2, Check.ARGUMENT, CROWDED, calls(m -> m.addJunction(true, 51), m -> m.addJunction(true, -51)));
        first(3, Check.BOUNDS, CROWDED, calls(m -> m.addRoad(9, 1, 1, true), m -> m.addRoad(1, -1, 1, true),
                m -> m.addRoad(9, 9, 0, true)));
        first(3, Check.BOUNDS, SOME, calls(m -> m.addRoad(3, 3, 1, true), m -> m.addRoad(0, 3, 0, true), m -> m.addRoad(-1, 0, 21, true)));
        first(3, Check.ARGUMENT, CROWDED, calls(m -> m.addRoad(1, 1, 1, true), m -> m.addRoad(0, 1, 21, true)));
        first(4, Check.BOUNDS, CROWDED, calls(m -> m.addStope(9, 1, 1, 10), m -> m.addStope(-1, 0, -1, 9)));
        first(4, Check.BOUNDS, SOME, calls(m -> m.addStope(3, 61, 1, 10), m -> m.addStope(-1, 1, 1000, 10), m -> m.addStope(3, 1, 1, 100)));
        first(4, Check.ARGUMENT, CROWDED, calls(m -> m.addStope(0, 1, 1, 10), m -> m.addStope(1, 0, 1, 10),
                m -> m.addStope(1, 1, 1000, 10), m -> m.addStope(1, 1, 1, 9)));
        first(5, Check.BOUNDS, SOME, calls(m -> m.join(2, 2), m -> m.join(-1, -1)));
        first(7, Check.BOUNDS, SOME, calls(m -> m.setSensor(3, 51), m -> m.setSensor(-1, -51)));
        first(8, Check.BOUNDS, SOME, callsOf(Minestrata::setRight, -1, 3));
        first(17, Check.BOUNDS, SOME, callsOf(Minestrata::reading, -1, 3));
        first(19, Check.BOUNDS, CROWDED, callsOf(Minestrata::come, -1, 9));
        first(19, Check.UNSUPPORTED, CROWDED, callsOf(Minestrata::come, 2, 8));
        first(20, Check.BOUNDS, ExceptionSentencesTest::toWalk, calls(m -> m.walk(1, 1), m -> m.walk(0, 6), m -> m.walk(-1, -1)));
        first(29, Check.ARGUMENT, Minestrata::new, calls(m -> m.deliver(0, 0, 0), m -> m.deliver(1, 1, 0), m -> m.deliver(1, 0, 1000)));
    }

    private static void listedFirstInSteps() {
        first(9, Check.ARGUMENT, SOME, calls(m -> m.step('x', 99, 99), m -> m.step('d', 4, 2), m -> m.step('f', -1, 51),
                m -> m.step('b', 4, 2), m -> m.step('s', 3, 21), m -> m.step('n', 3, 51), m -> m.step('o', 2, 61)));
        first(9, Check.ARGUMENT, SOME, calls(m -> m.step('d', 3, 2), m -> m.step('n', 1, 51), m -> m.step('o', 0, 61),
                m -> m.step('o', 1, 0)));
        first(9, Check.BOUNDS, SOME, calls(m -> m.step('d', 4, 1), m -> m.step('n', 3, 0), m -> m.step('o', 2, 60),
                m -> m.step('c', 2, 0)));
    }

    private static void newMine() {
        Minestrata m = new Minestrata();
        Check.fails("no junction", Check.BOUNDS, () -> m.gas(0));
        Check.fails("no road", Check.BOUNDS, () -> m.flow(0));
        Check.fails("no stope", Check.BOUNDS, () -> m.tons(0));
        Check.fails("no person", Check.BOUNDS, () -> m.whereIs(0));
        Check.is("nobody", m.people(), 0);
        Check.is("no step", m.refused(), 0);
        Check.is("no penalty", m.penalties(), 0L);
        Check.is("sound", m.isSound(), true);
        Check.is("the first junction", m.addJunction(false, 0), 0);
        Check.is("the first shift", m.shift(), 1);
        Check.fails("another new mine has none", Check.BOUNDS, () -> new Minestrata().gas(0));
    }

    private static void changesNothing() {
        Minestrata m = Mines.some();
        String before = Snapshot.of(m);
        for (int i = 0; i < 5; i++) {
            Check.fails("a step", Check.BOUNDS, () -> m.step('b', 4, 1));
            Check.fails("a walk", Check.UNSUPPORTED, () -> m.walk(1, 1));
            Check.fails("a delivery", Check.UNSUPPORTED, () -> m.deliver(8, 0, 999));
            Check.fails("a draught", Check.ARGUMENT, () -> m.addJunction(true, 51));
        }
        Check.is("many one after the other", Snapshot.of(m), before);
        Check.is("the step that was refused", m.refusedBy(), 0);
        Check.is("the next junction", m.addJunction(true, 0), 3);
        Check.is("the next road", m.addRoad(0, 3, 1, false), 4);
        Check.is("the next person", m.come(3), 2);
        Check.is("the next shift", m.shift(), 2);
    }

    public static void main(String[] args) {
        Check.sentence("Creates a mine without junctions.", ExceptionSentencesTest::newMine);
        building();
        buildingStopes();
        sensors();
        stepArguments();
        stepsThatCannotBe();
        questions();
        peopleAndOre();
        Check.sentence("A method that throws an exception changes nothing.", ExceptionSentencesTest::changesNothing);
        listedFirst();
        listedFirstInSteps();
        Check.end("ExceptionSentencesTest");
    }
}
