/** Each promise of the document by its number; the due answers are worked out by hand. */
public final class PromiseTest {
    private static final int MIN = Integer.MIN_VALUE;
    private static final int MAX = Integer.MAX_VALUE;

    private PromiseTest() { }

    private static void promise1() {
        Minestrata m = new Minestrata();
        Check.fails("no junction", Check.BOUNDS, () -> m.gas(0));
        Check.fails("no road", Check.BOUNDS, () -> m.flow(0));
        Check.fails("no stope", Check.BOUNDS, () -> m.load(0));
        Check.fails("no person", Check.BOUNDS, () -> m.whereIs(0));
        Check.is("refused", m.refused(), 0);
        Check.is("people", m.people(), 0);
        Check.is("penalties", m.penalties(), 0L);
        Check.is("isSound", m.isSound(), true);
        Check.is("limit at first", m.setLimit(5), 100);
        Check.is("shifts", m.shift(), 1);
        Minestrata other = new Minestrata();
        other.addJunction(true, 1);
        Check.fails("objects are apart", Check.BOUNDS, () -> m.gas(0));
    }

    private static void promise2() {
        Minestrata m = new Minestrata();
        Check.fails("draught 51", Check.ARGUMENT, () -> m.addJunction(true, 51));
        Check.fails("draught -51", Check.ARGUMENT, () -> m.addJunction(true, -51));
        Check.is("lowest draught", m.addJunction(true, -50), 0);
        Check.is("highest draught", m.addJunction(true, 50), 1);
        Check.is("draught of no meaning", m.addJunction(false, MAX), 2);
        Check.is("draught of no meaning", m.addJunction(false, MIN), 3);
        Check.is("pressure 0", m.pressure(0), -50000);
        Check.is("pressure 1", m.pressure(1), 50000);
        Check.is("pressure inside", m.pressure(2), 0);
        for (int i = 4; i < 9; i++) {
            Check.is("number", m.addJunction(i % 2 == 0, 0), i);
        }
        Check.fails("a tenth", Check.STATE, () -> m.addJunction(false, 0));
        Check.fails("a tenth, at the surface", Check.STATE, () -> m.addJunction(true, 0));
        Check.fails("a tenth with a wrong draught", Check.ARGUMENT, () -> m.addJunction(true, 51));
        Check.fails("no tenth", Check.BOUNDS, () -> m.gas(9));
    }

    private static void promise3() {
        Minestrata m = Mines.line(10);
        Check.fails("first -1", Check.BOUNDS, () -> m.addRoad(-1, 0, 1, false));
        Check.fails("second 3", Check.BOUNDS, () -> m.addRoad(0, 3, 1, false));
        Check.fails("second most", Check.BOUNDS, () -> m.addRoad(0, MAX, 1, false));
        Check.fails("first least, resistance wrong", Check.BOUNDS, () -> m.addRoad(MIN, 0, 0, false));
        Check.fails("both wrong and the same", Check.BOUNDS, () -> m.addRoad(5, 5, 1, false));
        Check.fails("the same", Check.ARGUMENT, () -> m.addRoad(1, 1, 1, false));
        Check.fails("resistance 0", Check.ARGUMENT, () -> m.addRoad(0, 1, 0, false));
        Check.fails("resistance 21", Check.ARGUMENT, () -> m.addRoad(0, 1, 21, false));
        Check.is("pressure before", m.pressure(2), 3333);
        Check.is("a third", m.addRoad(2, 0, 20, false), 2);
        Check.is("pressure after", m.pressure(2), 3225);
        Check.is("not blocked", m.isBlocked(2), false);
        Check.fails("no door", Check.UNSUPPORTED, () -> m.step('d', 2, 1));
        Check.is("a door, open", m.flow(1), -3388);
        Check.is("resistance 1, a door", m.addRoad(0, 1, 1, true), 3);
        Check.is("at the surface", m.flow(3), -10000);
        Check.is("its door", m.step('d', 3, 1), '.');
        for (int i = 4; i < 14; i++) {
            Check.is("number", m.addRoad(0, 2, 20, false), i);
        }
        Check.fails("a fifteenth", Check.STATE, () -> m.addRoad(0, 2, 20, false));
        Check.fails("a fifteenth to itself", Check.ARGUMENT, () -> m.addRoad(0, 0, 20, false));
        Check.fails("a fifteenth to nowhere", Check.BOUNDS, () -> m.addRoad(0, 9, 20, false));
        Check.fails("no fifteenth", Check.BOUNDS, () -> m.flow(14));
    }

    private static void promise4() {
        Minestrata m = Mines.pair();
        Check.fails("junction 2", Check.BOUNDS, () -> m.addStope(2, 1, 1, 20));
        Check.fails("junction -1, tons 0", Check.BOUNDS, () -> m.addStope(-1, 0, 1, 20));
        Check.fails("at the surface", Check.ARGUMENT, () -> m.addStope(0, 1, 1, 20));
        Check.fails("tons 0", Check.ARGUMENT, () -> m.addStope(1, 0, 1, 20));
        Check.fails("tons 61", Check.ARGUMENT, () -> m.addStope(1, 61, 1, 20));
        Check.fails("grade -1", Check.ARGUMENT, () -> m.addStope(1, 1, -1, 20));
        Check.fails("grade 1000", Check.ARGUMENT, () -> m.addStope(1, 1, 1000, 20));
        Check.fails("strength 9", Check.ARGUMENT, () -> m.addStope(1, 1, 1, 9));
        Check.fails("strength 100", Check.ARGUMENT, () -> m.addStope(1, 1, 1, 100));
        Check.is("the least of all", m.addStope(1, 1, 0, 10), 0);
        Check.is("the most of all", m.addStope(1, 60, 999, 99), 1);
        Check.is("tons", m.tons(0), 1);
        Check.is("tons", m.tons(1), 60);
        Check.is("load", m.load(0), 10);
        Check.is("state", m.stateOf(0), 'o');
        Check.is("pile", m.pile(0), 0);
        for (int i = 2; i < 8; i++) {
            Check.is("number", m.addStope(1, 5, 5, 50), i);
        }
        Check.fails("a ninth", Check.STATE, () -> m.addStope(1, 5, 5, 50));
        Check.fails("a ninth at the surface", Check.ARGUMENT, () -> m.addStope(0, 5, 5, 50));
        Check.fails("a ninth nowhere", Check.BOUNDS, () -> m.addStope(9, 5, 5, 50));
        Check.fails("no ninth", Check.BOUNDS, () -> m.tons(8));
    }

    private static void promise5() {
        Minestrata m = Mines.pair();
        m.addStope(1, 5, 5, 50);
        m.addStope(1, 5, 5, 50);
        m.addStope(1, 5, 5, 50);
        Check.fails("stope 3", Check.BOUNDS, () -> m.join(3, 0));
        Check.fails("other 3", Check.BOUNDS, () -> m.join(0, 3));
        Check.fails("other -1", Check.BOUNDS, () -> m.join(0, -1));
        Check.fails("both the same, neither there", Check.BOUNDS, () -> m.join(MAX, MAX));
        Check.fails("the same", Check.ARGUMENT, () -> m.join(1, 1));
        Check.is("new", m.join(2, 0), true);
        Check.is("again", m.join(2, 0), false);
        Check.is("the other way", m.join(0, 2), false);
        Check.is("another", m.join(0, 1), true);
        m.step('o', 2, 5);
        Check.is("load goes to the neighbour", m.load(0), 20);
        Check.is("but not to another", m.load(1), 10);
        m.step('o', 0, 5);
        Check.is("load goes on", m.load(1), 30);
        Check.is("empty ones can be joined", m.join(1, 2), true);
    }

    private static void promise6() {
        Minestrata m = Mines.pair();
        Check.fails("-1", Check.ARGUMENT, () -> m.setLimit(-1));
        Check.fails("9999", Check.ARGUMENT, () -> m.setLimit(9999));
        Check.fails("least", Check.ARGUMENT, () -> m.setLimit(MIN));
        Check.is("at first", m.setLimit(9998), 100);
        Check.is("the greatest", m.setLimit(0), 9998);
        m.step('f', 0, 20);
        m.step('s', 1, 1);
        Check.is("gas of one in ten", m.gas(1), 100);
        Check.is("limit 0", m.isGood(1), false);
        Check.is("limit before", m.setLimit(99), 0);
        Check.is("a little less", m.isGood(1), false);
        m.setLimit(100);
        Check.is("just as much", m.isGood(1), true);
    }

    private static void promise7() {
        Minestrata m = Mines.pair();
        Check.fails("junction 2", Check.BOUNDS, () -> m.setSensor(2, 0));
        Check.fails("junction -1 and drift 51", Check.BOUNDS, () -> m.setSensor(-1, 51));
        Check.fails("drift 51", Check.ARGUMENT, () -> m.setSensor(0, 51));
        Check.fails("drift -51", Check.ARGUMENT, () -> m.setSensor(0, -51));
        Check.fails("still none", Check.NO_ELEMENT, () -> m.reading(0));
        Check.is("the first", m.setSensor(1, 50), true);
        Check.is("one at the surface", m.setSensor(0, -50), true);
        m.shift();
        m.shift();
        Check.is("drifted", m.reading(1), 100);
        Check.is("no less than 0", m.reading(0), 0);
        Check.is("another", m.setSensor(1, 7), false);
        Check.is("set right", m.reading(1), 0);
        m.shift();
        Check.is("its own drift", m.reading(1), 7);
    }

    private static void promise8() {
        Minestrata m = Mines.pair();
        Check.fails("junction 2", Check.BOUNDS, () -> m.setRight(2));
        Check.fails("junction least", Check.BOUNDS, () -> m.setRight(MIN));
        Check.fails("none", Check.NO_ELEMENT, () -> m.setRight(1));
        m.step('f', 0, 8);
        m.step('s', 1, 1);
        Check.is("gas", m.gas(1), 250);
        m.setSensor(1, 30);
        m.setLimit(9000);
        m.shift();
        m.shift();
        Check.is("read before", m.setRight(1), 310);
        Check.is("reads what there is", m.reading(1), 250);
        Check.is("again", m.setRight(1), 250);
        m.shift();
        Check.is("drifts anew", m.reading(1), 280);
        m.step('s', 1, 2);
        Check.is("new gas, looked at by this call", m.setRight(1), 530);
    }

    private static void promise9Values() {
        Minestrata m = Mines.line(0);
        m.addStope(2, 60, 1, 99);
        Check.fails("kind q", Check.ARGUMENT, () -> m.step('q', 0, 0));
        Check.fails("kind D", Check.ARGUMENT, () -> m.step('D', 0, 0));
        Check.fails("kind 0", Check.ARGUMENT, () -> m.step((char) 0, 0, 0));
        Check.fails("kind q, number wrong", Check.ARGUMENT, () -> m.step('q', 99, 0));
        char[] kinds = {'d', 'f', 'b', 's', 'n', 'o'};
        int[] least = {0, -50, 0, 0, -50, 1};
        int[] most = {1, 50, 1, 20, 50, 60};
        int[] many = {2, 2, 2, 3, 3, 1};
        for (int i = 0; i < kinds.length; i++) {
            char kind = kinds[i];
            int low = least[i];
            int high = most[i];
            int number = many[i];
            Check.fails(kind + " too low", Check.ARGUMENT, () -> m.step(kind, 0, low - 1));
            Check.fails(kind + " too high", Check.ARGUMENT, () -> m.step(kind, 0, high + 1));
            Check.fails(kind + " too high, number wrong", Check.ARGUMENT, () -> m.step(kind, 99, high + 1));
            Check.fails(kind + " at -1", Check.BOUNDS, () -> m.step(kind, -1, low));
            Check.fails(kind + " at the count", Check.BOUNDS, () -> m.step(kind, number, high));
            Check.is(kind + " most", m.step(kind, 0, high), '.');
            if (kind != 'o') {
                Check.is(kind + " least", m.step(kind, 0, low), '.');
            }
        }
        Check.fails("c at -1", Check.BOUNDS, () -> m.step('c', -1, 0));
        Check.fails("c at 1", Check.BOUNDS, () -> m.step('c', 1, 0));
        Check.is("c with any value", m.step('c', 0, MIN), '.');
        Check.is("refused", m.refused(), 0);
        Check.fails("no source below 0", Check.ARGUMENT, () -> m.step('s', 0, -1));
    }

    private static void promise9Possible() {
        Minestrata m = Mines.line(0);
        m.addRoad(0, 2, 5, false);
        m.addStope(2, 5, 1, 99);
        Check.fails("no door", Check.UNSUPPORTED, () -> m.step('d', 2, 0));
        Check.fails("not at the surface", Check.UNSUPPORTED, () -> m.step('n', 2, 0));
        Check.fails("so many tons", Check.UNSUPPORTED, () -> m.step('o', 0, 6));
        Check.fails("not empty", Check.UNSUPPORTED, () -> m.step('c', 0, 0));
        m.step('b', 0, 1);
        m.step('b', 1, 1);
        Check.is("one way left", m.step('o', 0, 1), '.');
        m.step('b', 2, 1);
        Check.fails("no way", Check.UNSUPPORTED, () -> m.step('o', 0, 1));
        Check.is("nothing taken", m.tons(0), 4);
        m.step('b', 1, 0);
        m.step('d', 1, 1);
        m.setLimit(0);
        m.step('s', 2, 1);
        Check.is("not good", m.isGood(2), false);
        Check.is("by a closed door, from a bad junction", m.step('o', 0, 4), '.');
        Check.is("empty", m.stateOf(0), 'e');
        Check.fails("empty has no tons", Check.UNSUPPORTED, () -> m.step('o', 0, 1));
        Check.is("fill", m.step('c', 0, 7), '.');
        Check.fails("filled", Check.UNSUPPORTED, () -> m.step('c', 0, 0));
        m.shift();
        Check.fails("filled and set", Check.UNSUPPORTED, () -> m.step('c', 0, 0));
        Check.fails("filled has no tons", Check.UNSUPPORTED, () -> m.step('o', 0, 1));
    }

    private static void promise9Changes() {
        Minestrata m = Mines.line(30);
        Check.is("flow", m.flow(0), -10000);
        m.step('n', 0, 9);
        Check.is("draught 9", m.flow(0), -7000);
        m.come(2);
        Check.is("refused", m.step('b', 0, 1), 'w');
        Check.is("by the first", m.refusedBy(), 0);
        m.setLimit(143);
        Check.is("a draught that leaves gas", m.step('s', 2, 1), '.');
        Check.is("is refused", m.step('n', 0, 29), 'g');
        Check.is("and undone", m.pressure(0), 9000);
        Check.is("no gas", m.step('s', 2, 0), '.');
        m.walk(0, 0);
        m.step('f', 1, -6);
        Check.is("fan -6", m.flow(1), -9000);
        m.step('d', 1, 1);
        Check.is("closed door", m.flow(1), 0);
        Check.is("no air", m.pressure(2), 9000);
        m.step('d', 1, 0);
        Check.is("open door", m.flow(1), -9000);
        m.step('b', 0, 1);
        Check.is("blocked", m.isBlocked(0), true);
        Check.is("pressure", m.pressure(2), 36000);
        m.step('b', 0, 0);
        Check.is("free", m.isBlocked(0), false);
        m.step('s', 2, 3);
        Check.is("source", m.gas(2), 333);
        m.step('s', 2, 0);
        Check.is("no source", m.gas(2), 0);
    }

    private static void promise9Refusal() {
        Minestrata m = Mines.pair();
        m.addRoad(1, 0, 1, false);
        m.addStope(1, 7, 3, 20);
        m.setLimit(50);
        m.come(1);
        Check.is("two ways left", m.step('b', 2, 1), '.');
        Check.is("one way left", m.step('b', 0, 1), 'w');
        Check.is("undone", m.isBlocked(0), false);
        Check.is("gas", m.step('s', 1, 1), 'g');
        Check.is("undone", m.gas(1), 0);
        Check.is("fan", m.step('f', 0, 40), '.');
        Check.is("gas as much as the limit", m.step('s', 1, 1), '.');
        Check.is("fan off", m.step('f', 0, 39), 'g');
        Check.is("the fan stays", m.flow(0), 20000);
        Check.is("door is open for people", m.step('d', 0, 1), 'g');
        Check.is("the door stays open", m.flow(1), -20000);
        Check.is("source as well", m.gas(1), 50);
        Check.is("no source", m.step('s', 1, 0), '.');
        Check.is("a closed door is a way", m.step('d', 0, 1), '.');
        Check.is("refused so often", m.refused(), 4);
        Check.is("draught", m.step('n', 0, 50), '.');
        Check.is("draught", m.pressure(1), 50000);
        Check.is("ore", m.step('o', 0, 7), '.');
        Check.is("nobody below is asked", m.walk(0, 1), true);
        Check.is("all free", m.step('b', 1, 1), '.');
    }

    /** Collapses are undone as a whole. */
    private static void promise9Undo() {
        Minestrata m = Mines.stopes(50, 10, 12);
        m.join(1, 2);
        m.come(1);
        Check.is("a collapse blocks", m.step('o', 0, 10), 'w');
        Check.is("tons", m.tons(0), 10);
        Check.is("pile", m.pile(0), 0);
        Check.is("state", m.stateOf(0), 'o');
        Check.is("state", m.stateOf(1), 'o');
        Check.is("load", m.load(0), 10);
        Check.is("load", m.load(1), 10);
        Check.is("load", m.load(2), 10);
        Check.is("tons", m.tons(1), 10);
        Check.is("roads", m.isBlocked(0), false);
        Check.is("some ore", m.step('o', 0, 9), '.');
        m.walk(0, 0);
        Check.is("now nobody is below", m.step('o', 0, 1), '.');
        Check.is("collapse", m.stateOf(1), 'x');
        Check.is("and on", m.stateOf(2), 'x');
        Check.is("roads", m.isBlocked(1), true);
        Check.is("people on the surface are let be", m.isSafe(0), true);
    }

    private static void promise10() {
        Minestrata m = Mines.pair();
        m.addRoad(1, 0, 1, false);
        Check.fails("no step", Check.NO_ELEMENT, m::refusedBy);
        m.come(0);
        m.come(1);
        m.come(1);
        Check.is("done", m.step('b', 0, 1), '.');
        Check.fails("done", Check.NO_ELEMENT, m::refusedBy);
        Check.is("refused", m.step('b', 1, 1), 'w');
        Check.is("the lowest below", m.refusedBy(), 1);
        Check.fails("a wrong step", Check.BOUNDS, () -> m.step('b', 9, 1));
        Check.is("changes nothing", m.refusedBy(), 1);
        m.shift();
        m.walk(1, 1);
        Check.is("nor do others", m.refusedBy(), 1);
        Check.is("refused", m.step('s', 1, 1), 'g');
        Check.is("the other", m.refusedBy(), 2);
        Check.is("done", m.step('s', 1, 0), '.');
        Check.fails("done", Check.NO_ELEMENT, m::refusedBy);
    }

    private static void promise11() {
        Minestrata m = Mines.stopes(50, 50);
        m.step('o', 0, 10);
        m.step('c', 0, 0);
        Check.is("filled", m.stateOf(0), 'c');
        m.step('f', 0, 40);
        m.step('s', 1, 2);
        Check.is("gas", m.gas(1), 100);
        m.setSensor(1, 1);
        m.setSensor(0, 0);
        Check.is("power", m.hasPower(1), true);
        Check.is("first", m.shift(), 1);
        Check.is("set", m.stateOf(0), 's');
        Check.is("drifted before it is looked at", m.reading(1), 101);
        Check.is("power off", m.hasPower(1), false);
        Check.is("power on", m.hasPower(0), true);
        Check.is("its fan runs on junction 0", m.flow(0), 20000);
        m.setSensor(0, 50);
        m.shift();
        m.shift();
        Check.is("as much as the limit", m.hasPower(0), true);
        Check.is("fourth", m.shift(), 4);
        Check.is("more", m.hasPower(0), false);
        Check.is("the fan stands", m.flow(0), 0);
        Check.is("full", m.isFull(1), true);
        m.setRight(0);
        Check.is("stays so for the shift", m.flow(0), 0);
        m.shift();
        Check.is("looked at anew", m.flow(0), 20000);
        Check.is("by the air as it was", m.hasPower(1), false);
    }

    /** Two junctions whose fans feed each other: both are looked at with the air as it was. */
    private static void promise11AllAtOnce() {
        Minestrata m = new Minestrata();
        m.addJunction(true, 0);
        m.addJunction(false, 0);
        m.addJunction(false, 0);
        m.addRoad(1, 0, 1, false);
        m.addRoad(2, 0, 1, false);
        m.addRoad(0, 1, 1, false);
        m.addRoad(0, 2, 1, false);
        m.addRoad(1, 2, 1, false);
        m.step('f', 0, 20);
        m.step('f', 1, 20);
        m.step('s', 1, 2);
        m.step('s', 2, 2);
        m.setSensor(1, 0);
        m.setSensor(2, 0);
        Check.is("gas 1", m.gas(1), 200);
        Check.is("gas 2", m.gas(2), 200);
        m.shift();
        Check.is("off 1", m.hasPower(1), false);
        Check.is("off 2", m.hasPower(2), false);
        Check.is("full 2", m.isFull(2), true);
        m.step('s', 1, 0);
        m.step('s', 2, 0);
        m.shift();
        Check.is("on 1", m.hasPower(1), true);
        Check.is("on 2", m.hasPower(2), true);
        Check.is("flow", m.flow(0), 10000);
    }

    private static void promise12() {
        Minestrata m = Mines.line(10);
        Check.fails("road 2", Check.BOUNDS, () -> m.flow(2));
        Check.fails("road -1", Check.BOUNDS, () -> m.flow(-1));
        Check.fails("road most", Check.BOUNDS, () -> m.flow(MAX));
        Check.is("-3 1/3", m.flow(0), -3334);
        Check.is("-3 1/3", m.flow(1), -3334);
        m.step('f', 0, 20);
        Check.is("3 1/3", m.flow(0), 3333);
        m.step('f', 0, 10);
        Check.is("none", m.flow(0), 0);
        m.step('f', 0, 40);
        Check.is("just 10", m.flow(1), 10000);
        m.addJunction(false, 0);
        m.addRoad(2, 3, 1, false);
        m.step('f', 2, 50);
        Check.is("a blind road", m.flow(2), 0);
        m.addRoad(2, 3, 4, false);
        Check.is("round", m.flow(2), 10000);
        Check.is("and back", m.flow(3), -10000);
        Check.is("the rest as before", m.flow(1), 10000);
        m.step('b', 3, 1);
        Check.is("blocked", m.flow(3), 0);
        Check.is("blocked", m.flow(2), 0);
    }

    /** Big numbers: fourteen roads of great resistances, whose common divisor has some sixty bits. */
    private static void promise12Exact() {
        Minestrata m = new Minestrata();
        m.addJunction(false, 0);
        m.addJunction(true, 50);
        m.addJunction(true, -50);
        for (int i = 0; i < 7; i++) {
            m.addRoad(1, 0, 19, false);
            m.addRoad(0, 2, 19, false);
        }
        Check.is("even", m.pressure(0), 0);
        Check.is("50 / 19", m.flow(0), 2631);
        m.step('n', 2, 50);
        Check.is("no flow at all", m.flow(3), 0);
        Check.is("just 50", m.pressure(0), 50000);
        m.step('f', 0, 1);
        Check.is("50 and 1/14", m.pressure(0), 50071);
        Check.is("13/14/19", m.flow(0), 48);
        Check.is("-1/14/19", m.flow(2), -4);
        Check.is("1/14/19", m.flow(1), 3);
    }

    private static void promise13() {
        Minestrata m = Mines.line(10);
        Check.fails("junction 3", Check.BOUNDS, () -> m.pressure(3));
        Check.fails("junction -1", Check.BOUNDS, () -> m.pressure(-1));
        Check.is("draught", m.pressure(1), 10000);
        Check.is("3 1/3", m.pressure(2), 3333);
        m.step('n', 1, -10);
        Check.is("-3 1/3", m.pressure(2), -3334);
        m.step('n', 1, -9);
        Check.is("-3", m.pressure(2), -3000);
        m.addJunction(false, 0);
        m.addJunction(false, 0);
        m.addRoad(4, 3, 3, true);
        m.step('f', 2, 7);
        Check.is("the lowest", m.pressure(3), 0);
        Check.is("the other", m.pressure(4), -7000);
        m.addRoad(2, 4, 1, false);
        Check.is("now by the surface", m.pressure(4), -3000);
        Check.is("the fan", m.pressure(3), 4000);
        m.step('d', 2, 1);
        Check.is("by itself", m.pressure(3), 0);
        m.step('b', 0, 1);
        m.step('d', 1, 1);
        Check.is("cut off", m.pressure(2), 0);
        Check.is("with it", m.pressure(4), 0);
    }

    private static void promise14() {
        Minestrata m = Mines.line(30);
        Check.fails("junction 3", Check.BOUNDS, () -> m.gas(3));
        Check.fails("junction -1", Check.BOUNDS, () -> m.gas(-1));
        m.step('s', 2, 7);
        Check.is("7/10", m.gas(2), 700);
        Check.is("the surface has none", m.gas(0), 0);
        m.step('s', 1, 20);
        Check.is("nor takes any in", m.gas(1), 0);
        Check.is("air from the surface has none", m.gas(2), 700);
        m.addJunction(false, 0);
        m.addRoad(2, 3, 1, false);
        m.addRoad(3, 0, 1, false);
        Check.is("goes on", m.gas(3) == m.gas(2), true);
        Check.is("7 in 11 1/4", m.gas(2), 622);
        m.step('s', 3, 1);
        Check.is("more in a part of the air", m.gas(3), 888);
        m.step('f', 3, -50);
        Check.is("it goes round", m.flow(3), -15000);
        Check.is("against the other", m.flow(2), -15000);
        m.step('n', 1, 0);
        m.step('f', 3, 0);
        Check.is("no air goes: full", m.gas(2), 9999);
        m.step('s', 2, 0);
        Check.is("no source, no gas", m.gas(2), 0);
        m.step('n', 1, 1);
        m.step('s', 3, 20);
        Check.is("more than can be told", m.gas(3), 9999);
        Check.is("but not full", m.isFull(3), false);
        m.setLimit(9998);
        Check.is("and not good", m.isGood(3), false);
    }

    /** Air goes round by a fan between two junctions; gas comes back to where it was. */
    private static void promise14Round() {
        Minestrata m = new Minestrata();
        m.addJunction(true, 30);
        m.addJunction(false, 0);
        m.addJunction(false, 0);
        m.addJunction(true, 0);
        m.addRoad(0, 1, 1, false);
        m.addRoad(1, 2, 1, false);
        m.addRoad(1, 2, 1, false);
        m.addRoad(2, 3, 1, false);
        m.step('f', 1, 50);
        Check.is("through", m.flow(0), 22000);
        Check.is("out", m.flow(3), 22000);
        Check.is("forth", m.flow(1), 36000);
        Check.is("back", m.flow(2), -14000);
        m.step('s', 2, 11);
        Check.is("11 in 22", m.gas(2), 500);
        Check.is("14 of 36 come back", m.gas(1), 194);
    }

    private static void promise14RoundGas() {
        Minestrata m = new Minestrata();
        m.addJunction(true, 6);
        m.addJunction(false, 0);
        m.addJunction(false, 0);
        m.addJunction(true, 0);
        m.addRoad(0, 1, 1, false);
        m.addRoad(1, 2, 1, false);
        m.addRoad(2, 1, 1, false);
        m.addRoad(2, 3, 1, false);
        m.step('f', 1, 20);
        m.step('f', 2, 16);
        Check.is("in", m.flow(0), 3200);
        Check.is("out", m.flow(3), 3200);
        Check.is("forth", m.flow(1), 19600);
        Check.is("back", m.flow(2), 16400);
        m.step('s', 2, 4);
        Check.is("out goes what comes", m.gas(2), 1250);
        Check.is("and part comes back", m.gas(1), 1045);
    }

    private static void promise15() {
        Minestrata m = Mines.line(0);
        Check.fails("junction 3", Check.BOUNDS, () -> m.isFull(3));
        Check.fails("junction least", Check.BOUNDS, () -> m.isFull(MIN));
        Check.is("no source", m.isFull(2), false);
        m.step('s', 2, 1);
        Check.is("no flow", m.isFull(2), true);
        m.step('f', 0, 1);
        Check.is("a flow", m.isFull(2), false);
        m.step('s', 0, 20);
        m.step('f', 0, 0);
        m.step('s', 2, 0);
        Check.is("never at the surface", m.isFull(0), false);
        Check.is("nor does it come from there", m.isFull(2), false);
        m.addJunction(false, 0);
        m.addJunction(false, 0);
        m.addRoad(3, 4, 1, true);
        m.addRoad(3, 4, 2, false);
        m.step('s', 4, 1);
        Check.is("still air", m.isFull(3), false);
        Check.is("still air", m.isFull(4), true);
        m.step('f', 2, 3);
        Check.is("the source", m.isFull(4), true);
        Check.is("all that hang together", m.isFull(3), true);
        m.addRoad(3, 2, 1, false);
        Check.is("a road without a flow joins not", m.isFull(2), false);
        Check.is("nor helps", m.isFull(3), true);
        m.step('s', 4, 0);
        Check.is("no source", m.isFull(3), false);
    }

    private static void promise16() {
        Minestrata m = Mines.line(0);
        Check.fails("junction 3", Check.BOUNDS, () -> m.isGood(3));
        Check.fails("junction -1", Check.BOUNDS, () -> m.isGood(-1));
        Check.is("no gas", m.isGood(2), true);
        m.come(0);
        m.step('s', 2, 1);
        Check.fails("a bad place, looked at by this call", Check.UNSUPPORTED, () -> m.walk(0, 0));
        m.setLimit(9998);
        Check.is("full", m.isGood(2), false);
        m.step('n', 1, 9);
        Check.is("1/3", m.gas(2), 333);
        m.setLimit(333);
        Check.is("a little more than the limit", m.isGood(2), false);
        m.setLimit(334);
        Check.is("less", m.isGood(2), true);
        m.step('n', 1, 15);
        m.setLimit(200);
        Check.is("just the limit", m.isGood(2), true);
        m.setLimit(0);
        m.step('s', 0, 20);
        Check.is("the surface always", m.isGood(0), true);
        m.step('s', 2, 0);
        Check.is("none is at most 0", m.isGood(2), true);
    }

    private static void promise17() {
        Minestrata m = Mines.line(9);
        Check.fails("junction 3", Check.BOUNDS, () -> m.reading(3));
        Check.fails("junction -1", Check.BOUNDS, () -> m.reading(-1));
        Check.fails("none", Check.NO_ELEMENT, () -> m.reading(2));
        m.setSensor(2, -50);
        m.setSensor(1, 50);
        m.step('s', 2, 1);
        Check.is("rounded down", m.reading(2), 333);
        m.shift();
        Check.is("drift", m.reading(2), 283);
        Check.is("drift at the surface", m.reading(1), 50);
        for (int i = 0; i < 6; i++) {
            m.shift();
        }
        Check.is("no less than 0", m.reading(2), 0);
        Check.is("350", m.reading(1), 350);
        m.step('n', 1, 0);
        Check.is("a full one", m.reading(2), 9999 - 350);
        m.setSensor(2, 50);
        m.shift();
        Check.is("more than 9999", m.reading(2), 10049);
    }

    private static void promise18() {
        Minestrata m = Mines.line(9);
        Check.fails("junction 3", Check.BOUNDS, () -> m.hasPower(3));
        Check.fails("junction -1", Check.BOUNDS, () -> m.hasPower(-1));
        m.step('s', 2, 20);
        m.shift();
        Check.is("no sensor", m.hasPower(2), true);
        m.setSensor(2, 0);
        Check.is("till the shift", m.hasPower(2), true);
        m.shift();
        Check.is("off", m.hasPower(2), false);
        m.step('s', 2, 0);
        m.setLimit(9998);
        m.setSensor(2, 0);
        Check.is("for the shift", m.hasPower(2), false);
        m.step('f', 1, 50);
        m.step('f', 0, 3);
        Check.is("no pressure by the first junction", m.flow(1), -2000);
        Check.is("the other fan runs", m.flow(0), -2000);
        m.shift();
        Check.is("on", m.hasPower(2), true);
        Check.is("the fan runs", m.flow(1), 14666);
    }

    private static void promise19() {
        Minestrata m = Mines.pair();
        m.addJunction(false, 0);
        m.addRoad(0, 2, 1, false);
        Check.fails("junction 3", Check.BOUNDS, () -> m.come(3));
        Check.fails("junction -1", Check.BOUNDS, () -> m.come(-1));
        Check.fails("one way", Check.UNSUPPORTED, () -> m.come(2));
        Check.is("two ways", m.come(1), 0);
        Check.is("the surface", m.come(0), 1);
        Check.is("where", m.whereIs(0), 1);
        for (int i = 2; i < 12; i++) {
            Check.is("number", m.come(0), i);
        }
        Check.fails("a thirteenth", Check.STATE, () -> m.come(0));
        Check.fails("a thirteenth below", Check.STATE, () -> m.come(1));
        Check.fails("a thirteenth unsafe", Check.UNSUPPORTED, () -> m.come(2));
        Check.fails("a thirteenth nowhere", Check.BOUNDS, () -> m.come(3));
        Check.is("twelve", m.people(), 12);
        Minestrata gas = Mines.pair();
        gas.setLimit(9);
        gas.step('f', 0, 20);
        gas.step('s', 1, 1);
        Check.fails("not good", Check.UNSUPPORTED, () -> gas.come(1));
    }

    private static void promise20() {
        Minestrata m = Mines.pair();
        m.addJunction(false, 0);
        m.addRoad(2, 1, 1, true);
        m.come(0);
        Check.fails("person 1", Check.BOUNDS, () -> m.walk(1, 0));
        Check.fails("person -1", Check.BOUNDS, () -> m.walk(-1, 0));
        Check.fails("road 3", Check.BOUNDS, () -> m.walk(0, 3));
        Check.fails("road -1", Check.BOUNDS, () -> m.walk(0, -1));
        Check.fails("not from here", Check.UNSUPPORTED, () -> m.walk(0, 2));
        m.step('b', 0, 1);
        Check.fails("blocked", Check.UNSUPPORTED, () -> m.walk(0, 0));
        m.step('b', 0, 0);
        m.step('d', 0, 1);
        Check.is("by a closed door", m.walk(0, 0), true);
        Check.is("there", m.whereIs(0), 1);
        m.step('s', 2, 1);
        Check.fails("not good", Check.UNSUPPORTED, () -> m.walk(0, 2));
        Check.is("stays", m.whereIs(0), 1);
        m.step('s', 2, 0);
        Check.is("one way from there", m.walk(0, 2), false);
        Check.is("there", m.whereIs(0), 2);
        Check.is("back", m.walk(0, 2), true);
        Check.is("up", m.walk(0, 1), true);
        Check.is("there", m.whereIs(0), 0);
    }

    private static void promise21() {
        Minestrata m = Mines.pair();
        Check.fails("nobody", Check.BOUNDS, () -> m.whereIs(0));
        m.come(1);
        m.come(0);
        Check.is("0", m.whereIs(0), 1);
        Check.is("1", m.whereIs(1), 0);
        Check.fails("person 2", Check.BOUNDS, () -> m.whereIs(2));
        Check.fails("person -1", Check.BOUNDS, () -> m.whereIs(-1));
    }

    /** Both ways of finding who is safe. */
    private static void promises22And23() {
        Minestrata m = new Minestrata();
        m.addJunction(true, 0);
        for (int i = 1; i <= 4; i++) {
            m.addJunction(false, 0);
        }
        m.addRoad(0, 1, 1, false);
        m.addRoad(0, 2, 1, false);
        m.addRoad(1, 3, 1, false);
        m.addRoad(3, 2, 1, true);
        m.addRoad(1, 2, 1, false);
        m.addRoad(3, 4, 1, false);
        m.addRoad(4, 1, 1, false);
        m.come(3);
        m.come(0);
        Check.fails("isSafe 2", Check.BOUNDS, () -> m.isSafe(2));
        Check.fails("isSafe -1", Check.BOUNDS, () -> m.isSafe(-1));
        Check.fails("isSafeAnew 2", Check.BOUNDS, () -> m.isSafeAnew(2));
        Check.fails("isSafeAnew -1", Check.BOUNDS, () -> m.isSafeAnew(-1));
        safe(m, 0, true);
        safe(m, 1, true);
        Check.is("another way round", m.step('b', 3, 1), '.');
        safe(m, 0, true);
        Check.is("no road to spare", m.step('b', 4, 1), 'w');
        m.step('b', 3, 0);
        m.walk(0, 5);
        safe(m, 0, true);
        m.walk(0, 5);
        m.walk(0, 3);
        m.walk(0, 1);
        m.step('b', 1, 1);
        m.walk(0, 0);
        safe(m, 0, false);
        safe(m, 1, true);
        Check.is("who is unsafe refuses all", m.step('n', 0, 0), 'w');
        Check.is("but what makes safe", m.step('b', 1, 0), '.');
        safe(m, 0, true);
        m.setLimit(0);
        m.step('s', 4, 1);
        safe(m, 0, true);
    }

    private static void safe(Minestrata m, int person, boolean due) {
        Check.is("isSafe(" + person + ")", m.isSafe(person), due);
        Check.is("isSafeAnew(" + person + ")", m.isSafeAnew(person), due);
    }

    /** Junction 2 is bad, and every road there leads to it as its second end, then as its first one. */
    private static void promises22And23Bad() {
        for (int turn = 0; turn < 2; turn++) {
            Minestrata m = new Minestrata();
            m.addJunction(true, 0);
            m.addJunction(false, 0);
            m.addJunction(false, 0);
            m.addRoad(0, 1, 1, false);
            m.addRoad(turn == 0 ? 1 : 2, turn == 0 ? 2 : 1, 1, false);
            m.addRoad(turn == 0 ? 0 : 2, turn == 0 ? 2 : 0, 1, true);
            m.come(1);
            Check.is("with isSafeAnew first", m.isSafeAnew(0), true);
            m.walk(0, 0);
            m.step('s', 2, 1);
            m.walk(0, 0);
            Check.is("with isSafeAnew first", m.isSafeAnew(0), false);
            safe(m, 0, false);
            m.setLimit(9998);
            m.shift();
            Check.is("it is full", m.isFull(2), true);
        }
        Minestrata m = Mines.pair();
        m.come(1);
        m.setSensor(0, 0);
        m.step('b', 0, 0);
        Check.is("after a step, isSafeAnew first", m.isSafeAnew(0), true);
        m.setLimit(0);
        m.step('f', 0, 50);
        m.walk(0, 0);
        m.step('s', 1, 20);
        m.setLimit(800);
        m.walk(0, 0);
        m.setLimit(799);
        Check.is("with isSafeAnew first", m.isSafeAnew(0), false);
    }

    /** A shift may leave people in gas: then the junction is not good, whatever ways there are. */
    private static void promises22And23Gas() {
        Minestrata m = Mines.pair();
        m.step('f', 0, 20);
        m.setLimit(100);
        m.step('s', 1, 1);
        m.come(1);
        safe(m, 0, true);
        m.setSensor(0, 50);
        m.setSensor(0, 50);
        m.shift();
        m.shift();
        safe(m, 0, true);
        m.shift();
        Check.is("power off", m.hasPower(0), false);
        safe(m, 0, false);
        Check.is("refuses all", m.step('d', 1, 0), 'g');
        m.setRight(0);
        m.shift();
        safe(m, 0, true);
        m.setLimit(99);
        safe(m, 0, false);
    }

    private static void promise24() {
        Minestrata m = new Minestrata();
        m.addJunction(false, 0);
        m.addJunction(true, 0);
        m.addJunction(true, 0);
        m.addJunction(false, 0);
        Check.fails("junction 4", Check.BOUNDS, () -> m.ways(4));
        Check.fails("junction -1", Check.BOUNDS, () -> m.ways(-1));
        Check.is("none", m.ways(0), 0);
        Check.is("the surface", m.ways(1), 99);
        m.addRoad(0, 1, 1, true);
        Check.is("one", m.ways(0), 1);
        m.addRoad(2, 0, 1, false);
        Check.is("two", m.ways(0), 2);
        m.addRoad(0, 3, 1, false);
        Check.is("two", m.ways(0), 2);
        m.addRoad(3, 1, 1, false);
        m.addRoad(3, 1, 1, false);
        Check.is("three", m.ways(0), 3);
        Check.is("three from there, by two and one", m.ways(3), 3);
        m.step('d', 0, 1);
        Check.is("closed doors let people through", m.ways(0), 3);
        m.step('b', 0, 1);
        Check.is("blocked", m.ways(0), 2);
        m.step('b', 0, 0);
        m.step('s', 3, 1);
        Check.is("not over a bad one", m.ways(0), 2);
        Check.is("not from a bad one", m.ways(3), 0);
        m.step('s', 3, 0);
        for (int i = 5; i < 14; i++) {
            m.addRoad(0, 1, 1, false);
        }
        Check.is("twelve", m.ways(0), 12);
    }

    /** The first way that is found must be taken back in part. */
    private static void promise24TakeBack() {
        Minestrata m = new Minestrata();
        m.addJunction(false, 0);
        m.addJunction(false, 0);
        m.addJunction(false, 0);
        m.addJunction(true, 0);
        m.addJunction(false, 0);
        m.addJunction(false, 0);
        m.addRoad(0, 1, 1, false);
        m.addRoad(1, 2, 1, false);
        m.addRoad(2, 3, 1, false);
        m.addRoad(1, 4, 1, false);
        m.addRoad(4, 5, 1, false);
        m.addRoad(5, 3, 1, false);
        m.addRoad(0, 5, 1, false);
        m.addJunction(false, 0);
        m.addRoad(5, 6, 1, false);
        m.addRoad(6, 2, 1, false);
        Check.is("two", m.ways(0), 2);
        Check.is("three roads, but two to the surface", m.ways(5), 2);
        Check.is("1", m.ways(1), 2);
        m.addRoad(3, 6, 1, false);
        Check.is("three now", m.ways(5), 3);
        Check.is("two still", m.ways(0), 2);
    }

    private static void promise25() {
        Minestrata m = Mines.stopes(50, 10);
        Check.fails("stope 2", Check.BOUNDS, () -> m.tons(2));
        Check.fails("stope -1", Check.BOUNDS, () -> m.tons(-1));
        Check.is("at first", m.tons(0), 10);
        m.step('o', 0, 3);
        Check.is("less", m.tons(0), 7);
        m.step('o', 0, 7);
        Check.is("none", m.tons(0), 0);
        Check.is("lost by a collapse", m.tons(1), 0);
    }

    private static void promise26() {
        Minestrata m = Mines.stopes(50, 90, 90, 90, 90);
        Check.fails("stope 5", Check.BOUNDS, () -> m.load(5));
        Check.fails("stope -1", Check.BOUNDS, () -> m.load(-1));
        m.join(1, 2);
        m.join(2, 3);
        m.join(1, 3);
        Check.is("at first", m.load(0), 10);
        m.step('o', 0, 10);
        int[] due = {0, 13, 13, 12, 12};
        for (int i = 0; i < 5; i++) {
            Check.is("load " + i, m.load(i), due[i]);
        }
        m.step('o', 1, 10);
        Check.is("not to an empty one", m.load(0), 0);
        Check.is("the remainder", m.load(2), 20);
        Check.is("the rest", m.load(3), 18);
        Check.is("no neighbour", m.load(4), 12);
        m.step('o', 4, 10);
        Check.is("lost", m.load(4), 0);
        Check.is("not to an empty neighbour", m.load(0), 0);
        m.step('c', 0, 0);
        m.step('o', 2, 10);
        Check.is("not to one that is not set", m.load(0), 0);
        Check.is("all", m.load(3), 38);
        m.shift();
        m.step('o', 3, 10);
        Check.is("to one that is set", m.load(0), 38);
    }

    /** A filled one bears any load; loads that meet an empty mine are lost. */
    private static void promise26Filled() {
        Minestrata m = Mines.stopes(50, 99, 99);
        m.step('o', 0, 10);
        Check.is("five each", m.load(1), 15);
        m.step('c', 0, 0);
        m.shift();
        m.step('o', 1, 10);
        Check.is("15", m.load(0), 15);
        m.step('o', 2, 10);
        Check.is("30", m.load(0), 30);
        Check.is("state", m.stateOf(0), 's');
        for (int i = 3; i < 8; i++) {
            m.addStope(1, 1, 0, 99);
            m.join(i, 0);
        }
        for (int i = 3; i < 8; i++) {
            m.step('o', i, 1);
        }
        Check.is("80", m.load(0), 80);
        Check.is("stands", m.stateOf(0), 's');
        m.step('c', 1, 0);
        m.shift();
        Check.is("an empty load is not moved back", m.load(1), 0);
    }

    private static void promise27() {
        Minestrata m = Mines.stopes(50, 14, 15);
        Check.fails("stope 3", Check.BOUNDS, () -> m.stateOf(3));
        Check.fails("stope -1", Check.BOUNDS, () -> m.stateOf(-1));
        Check.is("ore", m.stateOf(0), 'o');
        m.step('o', 0, 9);
        Check.is("still ore", m.stateOf(0), 'o');
        m.step('o', 0, 1);
        Check.is("empty", m.stateOf(0), 'e');
        Check.is("more than its strength", m.stateOf(1), 'x');
        Check.is("as much as its strength", m.stateOf(2), 'o');
        Check.is("the load of the collapsed is lost", m.load(2), 15);
        m.step('c', 1, 0);
        Check.is("a collapsed one filled", m.stateOf(1), 'c');
        m.step('c', 0, 0);
        m.shift();
        Check.is("set", m.stateOf(1), 's');
        Check.is("set", m.stateOf(0), 's');
        Check.is("roads stay blocked", m.isBlocked(0), true);
    }

    /** The lowest first, then all are looked at anew. */
    private static void promise27Order() {
        Minestrata m = Mines.stopes(90, 90, 14, 14);
        m.join(2, 3);
        m.join(1, 2);
        m.step('o', 0, 10);
        Check.is("load", m.load(1), 14);
        Check.is("stand", m.stateOf(2), 'o');
        m.step('o', 1, 10);
        Check.is("2 goes", m.stateOf(2), 'x');
        Check.is("3 follows", m.stateOf(3), 'x');
        Minestrata n = Mines.stopes(90, 14, 14);
        n.join(1, 2);
        n.addStope(1, 10, 0, 99);
        n.join(2, 3);
        n.step('o', 0, 10);
        Check.is("both", n.stateOf(1), 'x');
        Check.is("both", n.stateOf(2), 'x');
        Check.is("30 went by 1 to 2 and 3", n.load(3), 40);
    }

    private static void promise28() {
        Minestrata m = Mines.stopes(50, 10);
        Check.fails("stope 2", Check.BOUNDS, () -> m.pile(2));
        Check.fails("stope -1", Check.BOUNDS, () -> m.pile(-1));
        Check.is("none", m.pile(1), 0);
        m.step('o', 1, 4);
        m.step('o', 0, 10);
        Check.is("all", m.pile(0), 10);
        Check.is("a collapse takes none from the pile", m.pile(1), 4);
        m.deliver(3, 0, 999);
        Check.is("delivered from the lowest", m.pile(0), 7);
        Check.is("not from the highest", m.pile(1), 4);
    }

    private static void promise29Arguments() {
        Minestrata m = Mines.piles(20, 500);
        Check.fails("0 tons", Check.ARGUMENT, () -> m.deliver(0, 1, 2));
        Check.fails("21 tons", Check.ARGUMENT, () -> m.deliver(21, 1, 2));
        Check.fails("least -1", Check.ARGUMENT, () -> m.deliver(1, -1, 2));
        Check.fails("least greater", Check.ARGUMENT, () -> m.deliver(1, 3, 2));
        Check.fails("greatest 1000", Check.ARGUMENT, () -> m.deliver(1, 1, 1000));
        Check.fails("both most", Check.ARGUMENT, () -> m.deliver(1, MAX, MAX));
        Check.is("20 tons", m.deliver(20, 500, 500), 0);
        Check.fails("no tons left", Check.UNSUPPORTED, () -> m.deliver(1, 0, 999));
        Check.fails("no tons left, wrong grade", Check.ARGUMENT, () -> m.deliver(1, 0, 1000));
        Minestrata none = new Minestrata();
        Check.fails("no stopes", Check.UNSUPPORTED, () -> none.deliver(1, 0, 0));
        Minestrata few = Mines.piles(2, 5, 3, 5);
        Check.fails("six of five", Check.UNSUPPORTED, () -> few.deliver(6, 0, 999));
        Check.is("five of five", few.deliver(5, 0, 999), 0);
    }

    private static void promise29Choice() {
        taken(Mines.piles(10, 100, 10, 300, 10, 200), 4, 200, 200, 0, 2, 2, 0);
        taken(Mines.piles(10, 100, 10, 300, 10, 200), 5, 200, 200, 0, 2, 2, 1);
        taken(Mines.piles(10, 100, 10, 300), 5, 200, 200, 100, 3, 2);
        taken(Mines.piles(10, 300, 10, 100), 5, 200, 200, 100, 3, 2);
        taken(Mines.piles(10, 300, 1, 100), 5, 200, 200, 300, 4, 1);
        taken(Mines.piles(10, 100, 10, 900), 3, 0, 99, 3, 3, 0);
        taken(Mines.piles(10, 100, 10, 900), 3, 901, 950, 3, 0, 3);
        taken(Mines.piles(1, 100, 10, 900, 10, 0), 3, 0, 0, 0, 0, 0, 3);
        taken(Mines.piles(10, 0, 10, 0, 10, 0), 15, 0, 999, 0, 10, 5, 0);
        taken(Mines.piles(10, 500, 10, 500, 10, 500), 20, 0, 999, 0, 10, 10, 0);
        taken(Mines.piles(20, 0, 20, 999), 20, 999, 999, 0, 0, 20);
        taken(Mines.piles(19, 999, 1, 999), 20, 999, 999, 0, 19, 1);
        taken(Mines.piles(20, 0), 20, 999, 999, 19980, 20);
        taken(Mines.piles(20, 999), 20, 0, 0, 19980, 20);
        taken(Mines.piles(5, 10, 0, 20, 5, 30), 4, 20, 20, 0, 2, 0, 2);
        taken(Mines.piles(3, 0, 3, 1, 3, 64, 3, 63, 3, 128, 3, 127, 3, 999, 3, 998), 20, 0, 999, 0, 3, 3, 3, 3, 3, 3, 2, 0);
        taken(Mines.piles(3, 0, 3, 1, 3, 64, 3, 63, 3, 128, 3, 127, 3, 999, 3, 998), 8, 998, 998, 1737, 0, 0, 0, 0, 2, 0, 3, 3);
    }

    private static void taken(Minestrata m, int tons, int least, int greatest, int penalty, int... due) {
        Check.is("penalty", m.deliver(tons, least, greatest), penalty);
        for (int i = 0; i < due.length; i++) {
            Check.is("taken from " + i + " for " + tons + " of " + least + " to " + greatest, m.delivered(i), due[i]);
        }
    }

    private static void promise30() {
        Minestrata m = Mines.piles(5, 100, 5, 200);
        Check.fails("stope 2", Check.BOUNDS, () -> m.delivered(2));
        Check.fails("stope -1", Check.BOUNDS, () -> m.delivered(-1));
        Check.is("none", m.delivered(0), 0);
        m.deliver(4, 150, 150);
        Check.is("2", m.delivered(0), 2);
        Check.is("2", m.delivered(1), 2);
        Check.fails("too many", Check.UNSUPPORTED, () -> m.deliver(7, 150, 150));
        Check.is("as before", m.delivered(0), 2);
        m.deliver(1, 200, 200);
        Check.is("the last one", m.delivered(0), 0);
        Check.is("the last one", m.delivered(1), 1);
        m.addStope(1, 5, 5, 50);
        Check.is("a new stope", m.delivered(2), 0);
        m.step('o', 0, 1);
        Check.is("steps change nothing", m.delivered(1), 1);
    }

    private static void promise31() {
        Minestrata m = Mines.pair();
        m.addJunction(false, 0);
        m.addRoad(2, 0, 1, false);
        m.addRoad(1, 2, 1, false);
        m.addStope(1, 1, 1, 50);
        m.addStope(2, 1, 1, 19);
        m.addStope(1, 1, 1, 19);
        m.join(0, 1);
        Check.fails("road 4", Check.BOUNDS, () -> m.isBlocked(4));
        Check.fails("road -1", Check.BOUNDS, () -> m.isBlocked(-1));
        Check.is("free", m.isBlocked(0), false);
        m.step('b', 0, 1);
        Check.is("blocked", m.isBlocked(0), true);
        m.step('d', 1, 1);
        Check.is("closed is not blocked", m.isBlocked(1), false);
        m.step('o', 0, 1);
        Check.is("collapse", m.stateOf(1), 'x');
        Check.is("not of its junction", m.isBlocked(1), false);
        Check.is("of its junction", m.isBlocked(2), true);
        Check.is("of its junction", m.isBlocked(3), true);
        Check.is("air as it is now", m.flow(3), 0);
        m.addRoad(2, 0, 1, false);
        Check.is("a new road", m.isBlocked(4), false);
        m.step('b', 2, 0);
        Check.is("freed", m.isBlocked(2), false);
    }

    private static void promise32() {
        Minestrata m = Mines.pair();
        m.come(1);
        Check.is("none", m.refused(), 0);
        m.step('b', 0, 1);
        Check.is("one", m.refused(), 1);
        m.step('f', 0, 1);
        Check.is("done ones do not count", m.refused(), 1);
        Check.fails("wrong", Check.BOUNDS, () -> m.step('f', 5, 1));
        Check.is("wrong ones do not count", m.refused(), 1);
        m.step('b', 1, 1);
        Check.is("two", m.refused(), 2);
    }

    private static void promise33() {
        Minestrata m = Mines.pair();
        Check.is("none", m.people(), 0);
        m.come(1);
        m.come(0);
        Check.fails("no more", Check.BOUNDS, () -> m.come(5));
        Check.is("two", m.people(), 2);
        m.walk(0, 0);
        Check.is("still two", m.people(), 2);
    }

    private static void promise34() {
        Minestrata m = Mines.piles(60, 0);
        Check.is("none", m.penalties(), 0L);
        m.deliver(20, 999, 999);
        Check.is("one", m.penalties(), 19980L);
        m.deliver(20, 0, 0);
        Check.is("none added", m.penalties(), 19980L);
        m.deliver(20, 1, 1);
        Check.is("the sum", m.penalties(), 20000L);
    }

    private static void promise35() {
        Minestrata m = new Minestrata();
        Check.fails("no junctions", Check.ARITHMETIC, m::goodShare);
        m.addJunction(false, 0);
        Check.is("all", m.goodShare(), 1f);
        m.step('s', 0, 1);
        Check.is("none", m.goodShare(), 0f);
        m.addJunction(true, 0);
        m.addJunction(false, 0);
        Check.is("two of three", m.goodShare(), 2f / 3f);
    }

    private static void promise36() {
        Minestrata m = Mines.stopes(90, 90, 90);
        Minestrata none = new Minestrata();
        Check.fails("no stopes", Check.ARITHMETIC, none::meanLoad);
        m.addStope(1, 5, 5, 50);
        Check.is("at first", m.meanLoad(), 10.0);
        m.step('o', 3, 5);
        m.step('o', 1, 10);
        Check.is("20 and 10", m.meanLoad(), 15.0);
        m.addStope(1, 5, 5, 50);
        Check.is("20, 10 and 10", m.meanLoad(), 40.0 / 3.0);
        m.step('c', 1, 0);
        m.shift();
        m.step('o', 0, 10);
        Check.is("a filled one does not count", m.meanLoad(), 15.0);
        m.step('o', 2, 10);
        m.step('o', 4, 5);
        Check.fails("none has ore", Check.ARITHMETIC, m::meanLoad);
    }

    private static void promise37() {
        Minestrata m = Mines.line(10);
        Check.is("sound", m.isSound(), true);
        m.addRoad(2, 0, 7, true);
        m.addStope(2, 10, 10, 10);
        m.addStope(2, 10, 10, 10);
        m.join(0, 1);
        m.come(2);
        m.come(0);
        m.step('f', 2, -13);
        Check.is("sound", m.isSound(), true);
        Check.is("refused", m.step('o', 0, 10), 'w');
        Check.is("sound", m.isSound(), true);
        m.walk(0, 0);
        m.step('o', 0, 10);
        Check.is("sound after a collapse", m.isSound(), true);
        m.setSensor(0, 50);
        m.setLimit(0);
        m.shift();
        Check.is("sound without power", m.isSound(), true);
    }

    public static void main(String[] args) {
        promise1();
        promise2();
        promise3();
        promise4();
        promise5();
        promise6();
        promise7();
        promise8();
        promise9Values();
        promise9Possible();
        promise9Changes();
        promise9Refusal();
        promise9Undo();
        promise10();
        promise11();
        promise11AllAtOnce();
        promise12();
        promise12Exact();
        promise13();
        promise14();
        promise14Round();
        promise14RoundGas();
        promise15();
        promise16();
        promise17();
        promise18();
        promise19();
        promise20();
        promise21();
        promises22And23();
        promises22And23Bad();
        promises22And23Gas();
        promise24();
        promise24TakeBack();
        promise25();
        promise26();
        promise26Filled();
        promise27();
        promise27Order();
        promise28();
        promise29Arguments();
        promise29Choice();
        promise30();
        promise31();
        promise32();
        promise33();
        promise34();
        promise35();
        promise36();
        promise37();
        Check.end("PromiseTest");
    }
}
