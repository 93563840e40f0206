/** The sentences of 'People' that name a boundary, each on both its sides. */
public final class PeopleSentencesTest {
    private PeopleSentencesTest() { }

    private static void twelvePeople() {
        Minestrata m = Mines.pair();
        for (int i = 0; i < 11; i++) {
            Check.is("number", m.come(i % 2), i);
        }
        Check.fails("no twelfth yet", Check.BOUNDS, () -> m.whereIs(11));
        Check.is("the twelfth", m.come(1), 11);
        Check.is("the twelfth is there", m.whereIs(11), 1);
        Check.fails("a thirteenth below", Check.STATE, () -> m.come(1));
        Check.fails("a thirteenth at the surface", Check.STATE, () -> m.come(0));
        m.walk(0, 0);
        Check.fails("whoever walks", Check.STATE, () -> m.come(0));
        Check.is("twelve", m.people(), 12);
        Check.fails("no thirteenth", Check.BOUNDS, () -> m.whereIs(12));
    }

    private static void notBlocked() {
        Minestrata m = Mines.net("sii", 0, 1, 1, 2, 0, 2);
        Check.is("free", m.ways(2), 2);
        m.step('b', 0, 1);
        Check.is("blocked far off", m.ways(2), 1);
        m.step('b', 2, 1);
        Check.is("both blocked", m.ways(2), 0);
        m.step('b', 0, 0);
        Check.is("one is free", m.ways(2), 1);
        m.step('b', 2, 0);
        Check.is("both are free", m.ways(2), 2);
    }

    private static void openOrClosed() {
        Minestrata m = Mines.net("sii", 0, 1, 1, 2, 0, 2);
        m.come(2);
        for (int r = 0; r < 3; r++) {
            Check.is("close", m.step('d', r, 1), '.');
        }
        Check.is("all closed", m.ways(2), 2);
        Check.is("safe", m.isSafe(0) && m.isSafeAnew(0), true);
        Check.is("others may come", m.come(2), 1);
        Check.is("and walk", m.walk(0, 1), true);
        Check.is("blocked and closed", m.step('b', 2, 1), 'w');
    }

    private static void eitherDirection() {
        int[][] ends = {{0, 1, 1, 2, 0, 2}, {1, 0, 1, 2, 2, 0}, {0, 1, 2, 1, 2, 0}, {1, 0, 2, 1, 0, 2}};
        for (int[] roads : ends) {
            Minestrata m = Mines.net("sii", roads);
            Check.is("ways from 1", m.ways(1), 2);
            Check.is("ways from 2", m.ways(2), 2);
            m.come(2);
            Check.is("safe", m.isSafe(0), true);
            Check.is("safe, found anew", m.isSafeAnew(0), true);
            Check.is("walk from 2 to 1", m.walk(0, 1), true);
            Check.is("at 1", m.whereIs(0), 1);
            Check.is("walk from 1 to 2", m.walk(0, 1), true);
            Check.is("at 2", m.whereIs(0), 2);
        }
    }

    /** Junction 2, on one of two ways from junction 1, has gas just at the limit or more. */
    private static void overGoodJunctions() {
        Minestrata m = Mines.net("sii", 0, 1, 1, 2, 2, 0);
        m.step('f', 2, 30);
        m.step('s', 2, 1);
        Check.is("gas", m.gas(2), 100);
        Check.is("just the limit", m.ways(1), 2);
        m.setLimit(99);
        Check.is("more than the limit", m.ways(1), 1);
        m.setLimit(100);
        m.step('f', 2, 31);
        Check.is("less gas", m.ways(1), 2);
        m.step('f', 2, 29);
        Check.is("more gas", m.ways(1), 1);
        m.step('f', 2, 0);
        Check.is("full", m.ways(1), 1);
        m.step('s', 2, 0);
        Check.is("no gas", m.ways(1), 2);
    }

    private static void safe(String what, Minestrata m, int person, boolean due) {
        Check.is(what + ": isSafeAnew", m.isSafeAnew(person), due);
        Check.is(what + ": isSafe", m.isSafe(person), due);
    }

    private static void whoIsAtTheSurface() {
        Minestrata m = Mines.net("si", 0, 1, 0, 1);
        m.come(0);
        m.come(1);
        m.walk(1, 0);
        m.step('b', 0, 1);
        m.step('b', 1, 1);
        m.step('s', 0, 20);
        m.setLimit(0);
        safe("at the surface, without a way", m, 0, true);
        safe("who walked there", m, 1, true);
        Minestrata alone = Mines.net("s");
        alone.come(0);
        safe("without a road", alone, 0, true);
    }

    private static void theJunctionIsGood() {
        Minestrata m = Mines.pair();
        m.step('f', 0, 20);
        m.step('s', 1, 1);
        m.come(1);
        safe("just the limit", m, 0, true);
        m.setLimit(99);
        safe("more than the limit", m, 0, false);
        Check.is("as often", m.ways(1), 0);
        m.setLimit(100);
        safe("just the limit again", m, 0, true);
    }

    private static void twoWays() {
        Minestrata m = Mines.net("sis", 0, 1, 0, 1, 1, 2);
        m.come(1);
        m.come(1);
        safe("three ways", m, 0, true);
        m.step('b', 0, 1);
        safe("two ways, to two junctions", m, 0, true);
        m.step('b', 0, 0);
        m.step('b', 2, 1);
        safe("two ways, to the same junction", m, 0, true);
        Check.is("one way is too few", m.step('b', 0, 1), 'w');
        m.addJunction(false, 0);
        m.addRoad(1, 3, 1, false);
        Check.is("a place with one way", m.walk(1, 3), false);
        safe("one way", m, 1, false);
    }

    /** Ways that meet at junction 2, by two roads on either side or by one. */
    private static void noRoadInCommon() {
        Minestrata m = Mines.net("sii", 1, 2, 1, 2, 2, 0, 2, 0);
        m.come(1);
        Check.is("a junction in common", m.ways(1), 2);
        safe("a junction in common", m, 0, true);
        m.addRoad(2, 0, 1, false);
        m.addJunction(false, 0);
        m.addRoad(3, 1, 1, false);
        m.addRoad(1, 3, 1, false);
        Check.is("three roads behind two", m.ways(1), 2);
        m.walk(0, 5);
        safe("two, two and three roads", m, 0, true);
        m.walk(0, 5);
        m.walk(0, 0);
        m.step('b', 0, 1);
        Check.is("a road in common", m.ways(1), 1);
        Check.is("a road in common, who walks there", m.walk(0, 1), false);
        safe("a road in common", m, 0, false);
        m.step('b', 0, 0);
        safe("none in common", m, 0, true);
    }

    private static void walkNotBlocked() {
        Minestrata m = Mines.pair();
        m.come(0);
        m.step('b', 0, 1);
        m.step('d', 1, 1);
        Check.fails("blocked", Check.UNSUPPORTED, () -> m.walk(0, 0));
        Check.is("stays", m.whereIs(0), 0);
        Check.is("not blocked, a closed door", m.walk(0, 1), false);
        Check.is("there", m.whereIs(0), 1);
        Check.fails("blocked, back", Check.UNSUPPORTED, () -> m.walk(0, 0));
        Check.is("back", m.walk(0, 1), true);
        m.step('b', 0, 0);
        Check.is("free", m.walk(0, 0), true);
    }

    private static void walkToGood() {
        Minestrata m = Mines.pair();
        m.step('f', 0, 20);
        m.step('s', 1, 1);
        m.come(0);
        m.setLimit(99);
        Check.fails("more than the limit", Check.UNSUPPORTED, () -> m.walk(0, 0));
        Check.is("stays", m.whereIs(0), 0);
        m.setLimit(100);
        Check.is("just the limit", m.walk(0, 0), true);
        m.setLimit(0);
        m.step('s', 0, 20);
        Check.is("from a bad one to the surface", m.walk(0, 1), true);
        Check.is("there", m.whereIs(0), 0);
        m.step('f', 0, 0);
        m.setLimit(9998);
        Check.fails("full", Check.UNSUPPORTED, () -> m.walk(0, 0));
    }

    public static void main(String[] args) {
        Check.sentence("At most 12 people are numbered from 0, each at a junction.", PeopleSentencesTest::twelvePeople);
        Check.sentence("A way of good air goes by roads that are not blocked", PeopleSentencesTest::notBlocked);
        Check.sentence("open doors or closed ones", PeopleSentencesTest::openOrClosed);
        Check.sentence("in either direction", PeopleSentencesTest::eitherDirection);
        Check.sentence("and over good junctions.", PeopleSentencesTest::overGoodJunctions);
        Check.sentence("A person who is not at the surface", PeopleSentencesTest::whoIsAtTheSurface);
        Check.sentence("is safe if the junction is good", PeopleSentencesTest::theJunctionIsGood);
        Check.sentence("and two ways of good air lead from it to the surface", PeopleSentencesTest::twoWays);
        Check.sentence("which have no road in common.", PeopleSentencesTest::noRoadInCommon);
        Check.sentence("People walk along a road that is not blocked", PeopleSentencesTest::walkNotBlocked);
        Check.sentence("to a junction that is good.", PeopleSentencesTest::walkToGood);
        Check.end("PeopleSentencesTest");
    }
}
