import java.util.function.Consumer;

/** The sentences of 'Steps of the plan' that name a boundary, each on both its sides. */
public final class StepSentencesTest {
    private StepSentencesTest() { }

    /** Person 0 at the surface, person 1 at junction 1, to which two roads with doors and one without lead. */
    private static Minestrata manned() {
        Minestrata m = Mines.pair();
        m.addRoad(1, 0, 1, false);
        m.addStope(1, 10, 100, 99);
        m.addStope(1, 10, 100, 14);
        m.come(0);
        m.come(1);
        return m;
    }

    /** Refused by a person, for a reason, and nothing has changed but that. */
    private static void refused(String what, Minestrata m, char kind, int number, int value, int person, char reason) {
        String before = withoutRefusals(m);
        int so = m.refused();
        Check.is(what, m.step(kind, number, value), reason);
        Check.is(what + ": the person", m.refusedBy(), person);
        Check.is(what + ": one more", m.refused(), so + 1);
        Check.is(what + ": undone", withoutRefusals(m), before);
    }

    private static String withoutRefusals(Minestrata m) {
        return Snapshot.of(m).replaceAll("refused \\d+, by \\w+", "");
    }

    private static void done(String what, Minestrata m, char kind, int number, int value) {
        int so = m.refused();
        Check.is(what, m.step(kind, number, value), '.');
        Check.fails(what + ": by nobody", Check.NO_ELEMENT, m::refusedBy);
        Check.is(what + ": not refused", m.refused(), so);
    }

    /** Each kind of step changes what it names, and no other thing. */
    private static void oneThing() {
        Minestrata m = Mines.net("siis", 0, 1, 1, 2, 2, 3);
        m.addStope(1, 2, 100, 99);
        m.addStope(2, 2, 100, 99);
        m.step('n', 0, 12);
        Check.is("flow of 4", m.flow(1), 4000);
        done("fan", m, 'f', 1, 6);
        Check.is("flow of 6", m.flow(2), 6000);
        done("draught", m, 'n', 3, 9);
        Check.is("flow of 3", m.flow(0), 3000);
        Check.is("the other draught", m.pressure(0), 12000);
        done("source", m, 's', 1, 3);
        Check.is("gas", m.gas(1), 1000);
        Check.is("gas of the next", m.gas(2), 1000);
        done("another source", m, 's', 2, 3);
        Check.is("gas of the next", m.gas(2), 2000);
        done("door", m, 'd', 1, 1);
        Check.is("not blocked", m.isBlocked(1), false);
        Check.is("no flow", m.flow(1), 0);
        done("block", m, 'b', 2, 1);
        Check.is("blocked", m.isBlocked(2), true);
        Check.is("not the other", m.isBlocked(1), false);
        done("ore", m, 'o', 1, 2);
        Check.is("tons", m.tons(1) + m.pile(1) * 10 + m.tons(0) * 100, 220);
        done("fill", m, 'c', 1, 0);
        Check.is("filled", m.stateOf(1), 'c');
        Check.is("not the other", m.stateOf(0), 'o');
    }

    private static void whoIsNotSafe() {
        Minestrata m = manned();
        done("two ways are left", m, 'b', 0, 1);
        refused("one way is left", m, 'b', 1, 1, 1, 'w');
        done("the way is free again", m, 'b', 0, 0);
        done("another one", m, 'b', 1, 1);
        m.walk(1, 0);
        done("nobody is below", m, 'b', 0, 1);
        done("nor does gas matter", m, 's', 1, 20);
        done("whatever becomes of the last way", m, 'b', 2, 1);
    }

    /** All that comes of taking ore: a stope collapses, the next one, and a road is blocked on which one depends. */
    private static void allThatComes() {
        Minestrata m = Mines.net("siii", 0, 1, 0, 1, 1, 2, 2, 0, 0, 3, 0, 3);
        m.addStope(1, 1, 100, 99);
        m.addStope(3, 1, 100, 19);
        m.addStope(2, 1, 100, 29);
        m.join(0, 1);
        m.join(1, 2);
        m.come(2);
        refused("two stopes collapse", m, 'o', 0, 1, 0, 'w');
        m.walk(0, 3);
        done("nobody is there", m, 'o', 0, 1);
        Check.is("the last one", m.stateOf(2), 'x');
        Check.is("its road", m.isBlocked(2), true);
        Minestrata n = Mines.net("sii", 0, 1, 0, 1, 1, 2, 2, 0);
        n.addStope(1, 1, 100, 99);
        n.addStope(2, 1, 100, 20);
        n.join(0, 1);
        n.come(2);
        done("20 with 20", n, 'o', 0, 1);
        Check.is("both are safe", n.isSafe(0), true);
    }

    /** Air that a collapse cuts off leaves gas. */
    private static void allThatComesOfAir() {
        Minestrata m = Mines.net("siii", 0, 1, 1, 2, 2, 0, 3, 0, 3, 1, 1, 0);
        m.step('f', 0, 50);
        m.step('s', 1, 3);
        m.addStope(3, 1, 100, 99);
        m.addStope(3, 1, 100, 19);
        m.setLimit(m.gas(1) + 1);
        m.come(1);
        m.join(0, 1);
        refused("ways of air are cut off", m, 'o', 0, 1, 0, 'g');
        m.step('s', 1, 0);
        done("but no gas", m, 'o', 0, 1);
    }

    /** Person 0 at the surface, 1 and 3 at junction 1, 2 and 4 at junction 2, with two roads to each. */
    private static Minestrata five() {
        Minestrata m = Mines.net("sii", 0, 1, 0, 1, 0, 2, 0, 2);
        m.come(0);
        m.come(1);
        m.come(2);
        m.come(1);
        m.come(2);
        return m;
    }

    private static void lowestPerson() {
        refused("1 and 3", five(), 'b', 0, 1, 1, 'w');
        refused("2 and 4", five(), 'b', 2, 1, 2, 'w');
        refused("2 and 4, in gas", five(), 's', 2, 1, 2, 'g');
        Minestrata m = five();
        m.walk(1, 0);
        refused("3 alone", m, 's', 1, 1, 3, 'g');
        m.walk(3, 0);
        done("nobody", m, 's', 1, 1);
        refused("2 and 4 still", m, 'b', 3, 1, 2, 'w');
        m.walk(2, 2);
        refused("4 alone", m, 'b', 3, 1, 4, 'w');
    }

    private static void lastPerson() {
        Minestrata m = Mines.net("sii", 0, 1, 0, 1, 0, 2, 0, 2);
        for (int i = 0; i < 12; i++) {
            m.come(i < 11 ? 0 : 2);
        }
        done("not of 11", m, 'b', 0, 1);
        refused("of 11", m, 'b', 2, 1, 11, 'w');
        m.walk(11, 2);
        done("all are at the surface", m, 'b', 2, 1);
    }

    private static void reason() {
        Minestrata m = manned();
        done("a fan", m, 'f', 0, 30);
        done("gas", m, 's', 1, 2);
        Check.is("just the limit", m.gas(1), 100);
        refused("a little less air", m, 'f', 0, 29, 1, 'g');
        refused("more gas", m, 's', 1, 3, 1, 'g');
        done("a little more air", m, 'f', 0, 31);
        done("just the limit", m, 'f', 0, 30);
        done("no gas", m, 's', 1, 0);
        done("two ways", m, 'b', 1, 1);
        refused("one way, good", m, 'b', 2, 1, 1, 'w');
        done("gas again", m, 's', 1, 1);
        refused("one way, and not good", m, 'b', 2, 1, 1, 'g');
    }

    /** Each kind of step is undone, those first by which somebody gets unsafe. */
    private static void undone() {
        Minestrata m = manned();
        m.step('f', 0, 30);
        m.step('s', 1, 2);
        m.setSensor(1, 3);
        m.setSensor(0, -3);
        m.shift();
        m.step('o', 1, 3);
        refused("a door", m, 'd', 0, 1, 1, 'g');
        refused("a fan", m, 'f', 0, 0, 1, 'g');
        refused("a source", m, 's', 1, 20, 1, 'g');
        m.join(0, 1);
        refused("the last of the ore", m, 'o', 0, 10, 1, 'g');
        Check.is("the collapse too", m.stateOf(1), 'o');
        Check.is("and its roads", m.isBlocked(0) || m.isBlocked(1) || m.isBlocked(2), false);
        Minestrata n = Mines.net("sis", 0, 1, 1, 0, 1, 2);
        n.step('n', 2, 30);
        n.step('s', 1, 2);
        Check.is("just the limit", n.gas(1), 100);
        n.come(1);
        refused("a draught", n, 'n', 2, 29, 0, 'g');
        n.step('s', 1, 0);
        n.step('b', 0, 1);
        refused("a blocked road", n, 'b', 1, 1, 0, 'w');
    }

    /** Person 0 has walked to a junction with one way; stope 1 is empty. */
    private static Minestrata unsafe() {
        Minestrata m = Mines.net("sii", 0, 1, 0, 1, 1, 2);
        m.addStope(1, 10, 100, 99);
        m.addStope(1, 1, 100, 99);
        m.step('o', 1, 1);
        m.come(1);
        m.walk(0, 2);
        return m;
    }

    /** Who is unsafe already refuses each step, also one that has no part in it, but one that makes safe. */
    private static void undoneForWhoIsUnsafe() {
        refused("a door", unsafe(), 'd', 0, 1, 0, 'w');
        refused("a fan", unsafe(), 'f', 0, 9, 0, 'w');
        refused("a blocked road", unsafe(), 'b', 0, 1, 0, 'w');
        refused("a source", unsafe(), 's', 0, 9, 0, 'w');
        refused("a draught", unsafe(), 'n', 0, 9, 0, 'w');
        refused("some ore", unsafe(), 'o', 0, 1, 0, 'w');
        refused("all ore", unsafe(), 'o', 0, 10, 0, 'w');
        refused("filling", unsafe(), 'c', 1, 0, 0, 'w');
        refused("no change at all", unsafe(), 'd', 0, 0, 0, 'w');
        Minestrata m = unsafe();
        m.addRoad(0, 2, 1, true);
        done("safe by a new road", m, 'c', 1, 0);
        Minestrata n = Mines.net("sii", 0, 1, 0, 1, 1, 2, 0, 2);
        n.step('b', 3, 1);
        n.come(1);
        n.walk(0, 2);
        refused("one way", n, 'f', 3, 1, 0, 'w');
        done("the step that makes safe", n, 'b', 3, 0);
    }

    private static void noSteps() {
        Minestrata m = Mines.net("sii", 0, 1, 0, 1, 1, 2);
        m.step('f', 0, 20);
        m.step('s', 1, 1);
        m.come(1);
        refused("a step", m, 'b', 1, 1, 0, 'g');
        m.setSensor(0, 50);
        m.come(0);
        Check.is("nor is who comes asked", m.refusedBy(), 0);
        Check.is("who walks to one way is not refused", m.walk(0, 2), false);
        Check.is("but is there", m.whereIs(0), 2);
        m.walk(0, 2);
        m.shift();
        m.shift();
        Check.is("a shift without power is not refused", m.shift(), 3);
        Check.is("the power is off", m.hasPower(0), false);
        Check.is("who is unsafe", m.isSafe(0), false);
        Check.is("by whom the last step was refused", m.refusedBy(), 0);
        Check.is("refused so often", m.refused(), 1);
        Check.fails("what throws is no step", Check.BOUNDS, () -> m.step('b', 9, 1));
        Check.is("by the same", m.refusedBy(), 0);
    }

    private static void comeToSafePlaces() {
        Minestrata m = Mines.net("sii", 0, 1, 0, 1, 1, 2);
        Check.fails("one way", Check.UNSUPPORTED, () -> m.come(2));
        Check.is("nobody came", m.people(), 0);
        Check.is("two ways", m.come(1), 0);
        m.addRoad(2, 0, 1, true);
        Check.is("two ways now", m.come(2), 1);
        Minestrata gas = Mines.pair();
        gas.step('f', 0, 20);
        gas.step('s', 1, 1);
        gas.setLimit(99);
        Check.fails("more than the limit", Check.UNSUPPORTED, () -> gas.come(1));
        gas.setLimit(100);
        Check.is("just the limit", gas.come(1), 0);
        gas.setLimit(0);
        gas.addJunction(true, 0);
        Check.is("the surface, without any way", gas.come(2), 1);
        Minestrata none = Mines.net("i");
        Check.fails("no way", Check.UNSUPPORTED, () -> none.come(0));
    }

    private static Consumer<Minestrata> step(char kind, int number, int value) {
        return m -> m.step(kind, number, value);
    }

    /** The least and the greatest value of each kind. */
    private static void values() {
        Object[][] kinds = {{'d', 0, 1}, {'f', -50, 50}, {'b', 0, 1}, {'s', 0, 20}, {'n', -50, 50}, {'o', 1, 60}};
        for (Object[] row : kinds) {
            char kind = (char) row[0];
            int least = (int) row[1];
            int most = (int) row[2];
            for (int value : new int[] {least, most}) {
                Minestrata m = Mines.pair();
                m.addStope(1, 60, 1, 99);
                Check.is(kind + " " + value, m.step(kind, 0, value), '.');
            }
            Check.failsInVain(kind + " out of range", Check.ARGUMENT, StepSentencesTest::manned, step(kind, 0, least - 1),
                    step(kind, 0, most + 1), step(kind, 0, Integer.MIN_VALUE), step(kind, 0, Integer.MAX_VALUE));
        }
    }

    private static void noMeaning() {
        for (int value : new int[] {0, 1, -1, 61, Integer.MIN_VALUE, Integer.MAX_VALUE}) {
            Minestrata m = Mines.stopes(99);
            m.step('o', 0, 10);
            Check.is("c with " + value, m.step('c', 0, value), '.');
            Check.is("filled", m.stateOf(0), 'c');
        }
    }

    private static void kinds() {
        String all = "dfbsnoc";
        for (int kind = 0; kind < 300; kind++) {
            char letter = (char) kind;
            boolean isKind = all.indexOf(letter) >= 0;
            Minestrata m = Mines.pair();
            Check.fails("kind " + kind, isKind ? Check.BOUNDS : Check.ARGUMENT, () -> m.step(letter, 99, 1));
        }
        Minestrata m = Mines.pair();
        Check.fails("the greatest char", Check.ARGUMENT, () -> m.step((char) 65535, 0, 0));
    }

    public static void main(String[] args) {
        Check.sentence("A step changes one thing: a door, a fan, a source, whether a road is blocked, taking ore, filling, or a "
                + "draught.", StepSentencesTest::oneThing);
        Check.sentence("It is tried, with all that comes of it", StepSentencesTest::allThatComes);
        Check.sentence("with all that comes of it", StepSentencesTest::allThatComesOfAir);
        Check.sentence("if then someone who is not at the surface is not safe", StepSentencesTest::whoIsNotSafe);
        Check.sentence("it is undone, and refused", StepSentencesTest::undone);
        Check.sentence("someone who is not at the surface is not safe, it is undone, and refused",
                StepSentencesTest::undoneForWhoIsUnsafe);
        Check.sentence("by the person with the lowest number of those", StepSentencesTest::lowestPerson);
        Check.sentence("the person with the lowest number of those", StepSentencesTest::lastPerson);
        Check.sentence("'g' if the junction is not good, 'w' otherwise.", StepSentencesTest::reason);
        Check.sentence("A shift, and people who walk or come, are no steps", StepSentencesTest::noSteps);
        Check.sentence("a person may not come to where it would not be safe.", StepSentencesTest::comeToSafePlaces);
        Check.sentence("0 or 1, 1 for a closed door and a blocked road; the pressure or draught; units; 1 to 60 tons",
                StepSentencesTest::values);
        Check.sentence("of no meaning for c", StepSentencesTest::noMeaning);
        Check.sentence("'d' the door of a road, 'f' its fan, 'b' whether it is blocked, 's' the source of a junction, 'n' its "
                + "draught, 'o' tons of ore from a stope, 'c' to fill a stope", StepSentencesTest::kinds);
        Check.end("StepSentencesTest");
    }
}
