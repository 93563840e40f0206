/** What the promises say of their answers, on both sides where there are two. */
public final class AnswerSentencesTest {
    private static final int MIN = Integer.MIN_VALUE;
    private static final int MAX = Integer.MAX_VALUE;

    private AnswerSentencesTest() { }

    private static void draughtOfNoMeaning() {
        Minestrata m = new Minestrata();
        int[] draughts = {-51, 51, MIN, MAX, 0};
        for (int i = 0; i < draughts.length; i++) {
            Check.is("not at the surface, draught " + draughts[i], m.addJunction(false, draughts[i]), i);
            Check.is("has no part in its pressure", m.pressure(i), 0);
        }
        m.addJunction(true, 3);
        m.addRoad(3, 5, 1, false);
        Check.is("nor here", m.pressure(3), 3000);
    }

    private static void limit() {
        Minestrata m = new Minestrata();
        for (int wrong : new int[] {-1, MIN, 9999, MAX}) {
            Check.fails("limit " + wrong, Check.ARGUMENT, () -> m.setLimit(wrong));
        }
        Check.is("before, at first", m.setLimit(0), 100);
        Check.is("the least before", m.setLimit(9998), 0);
        Check.is("the greatest before", m.setLimit(7), 9998);
        Check.fails("a wrong one", Check.ARGUMENT, () -> m.setLimit(-1));
        Check.is("is not the one before", m.setLimit(7), 7);
    }

    private static void sensorDrift() {
        Minestrata m = Mines.net("si");
        for (int wrong : new int[] {-51, MIN, 51, MAX}) {
            Check.fails("drift " + wrong, Check.ARGUMENT, () -> m.setSensor(1, wrong));
        }
        Check.fails("none was put there", Check.NO_ELEMENT, () -> m.reading(1));
        Check.is("the greatest", m.setSensor(1, 50), true);
        m.shift();
        Check.is("50", m.reading(1), 50);
        m.step('s', 1, 1);
        Check.is("the least", m.setSensor(1, -50), false);
        m.shift();
        Check.is("-50", m.reading(1), 9949);
    }

    private static void newNeighbours() {
        Minestrata m = Mines.piles(0, 1, 0, 1, 0, 1);
        Check.is("they were not", m.join(0, 1), true);
        Check.is("they were", m.join(0, 1), false);
        Check.is("they were, the other way", m.join(1, 0), false);
        Check.is("others were not", m.join(2, 1), true);
        Check.is("nor these", m.join(2, 0), true);
        m.step('o', 1, 60);
        Check.is("empty ones are still", m.join(1, 2), false);
        Check.is("load", m.load(0) * 100 + m.load(2), 1515);
    }

    private static void lastStep() {
        Minestrata m = Mines.net("si", 0, 1, 0, 1);
        Check.fails("there was none", Check.NO_ELEMENT, m::refusedBy);
        m.come(1);
        m.step('b', 0, 1);
        Check.is("refused", m.refusedBy(), 0);
        Check.is("asked again", m.refusedBy(), 0);
        m.step('f', 0, 1);
        Check.fails("done", Check.NO_ELEMENT, m::refusedBy);
        m.step('s', 1, 20);
        m.step('b', 1, 1);
        Check.is("refused again", m.refusedBy(), 0);
        Check.is("three in all", m.refused(), 3);
    }

    private static void shifts() {
        Minestrata m = Mines.stopes(99, 99);
        m.setSensor(0, 50);
        m.setSensor(1, -50);
        m.step('o', 0, 10);
        m.step('c', 0, 0);
        for (int i = 1; i <= 400; i++) {
            Check.is("shifts", m.shift(), i);
        }
        Check.is("drift of all shifts", m.reading(0), 20000);
        Check.is("drift of all shifts, below 0", m.reading(1), 0);
        Check.is("off", m.hasPower(0), false);
        Check.is("set", m.stateOf(0), 's');
    }

    private static void shiftOfAFullMine() {
        Minestrata m = Mines.crowd(9, 14, 8, 12);
        for (int j = 0; j < 9; j++) {
            m.setSensor(j, j * 5);
        }
        m.setLimit(35);
        Check.is("the first", m.shift(), 1);
        for (int j = 0; j < 9; j++) {
            Check.is("drift at " + j, m.reading(j), j * 5);
            Check.is("power at " + j, m.hasPower(j), j <= 7);
        }
    }

    private static void safeThere() {
        Minestrata m = Mines.net("sii", 0, 1, 0, 1, 1, 2);
        m.come(0);
        Check.is("two ways", m.walk(0, 0), true);
        Check.is("one way", m.walk(0, 2), false);
        Check.is("two ways again", m.walk(0, 2), true);
        m.step('s', 0, 20);
        m.setLimit(0);
        Check.is("the surface", m.walk(0, 1), true);
    }

    private static void fromWhereThePersonIs() {
        Minestrata m = Mines.net("siis", 0, 1, 1, 2, 3, 2, 0, 3);
        m.come(0);
        Check.fails("from 1 to 2", Check.UNSUPPORTED, () -> m.walk(0, 1));
        Check.fails("from 3 to 2", Check.UNSUPPORTED, () -> m.walk(0, 2));
        Check.is("from its first end", m.walk(0, 3), true);
        Check.is("at 3", m.whereIs(0), 3);
        Check.is("from its second end", m.walk(0, 3), true);
        Check.is("at 0", m.whereIs(0), 0);
        m.walk(0, 0);
        Check.is("from 1 to 2 now", m.walk(0, 1), true);
    }

    private static void manyWays() {
        Minestrata m = Mines.net("sisi");
        Check.is("no road", m.ways(1), 0);
        for (int i = 1; i <= 14; i++) {
            m.addRoad(i % 2 == 0 ? 1 : 0, i % 2 == 0 ? 2 : 1, 1, true);
            Check.is("roads", m.ways(1), i);
        }
        Check.is("the surface", m.ways(0), 99);
        Check.is("the other surface", m.ways(2), 99);
        Check.is("no road to 3", m.ways(3), 0);
        m.setLimit(0);
        m.step('s', 1, 1);
        m.step('s', 0, 1);
        Check.is("not good", m.ways(1), 0);
        Check.is("the surface is", m.ways(0), 99);
    }

    /** A first way by the shortest roads uses up a road that both ways need in part. */
    private static void greatestNumberOfWays() {
        Minestrata m = Mines.net("iiiiiis", 0, 1, 1, 2, 2, 6, 1, 4, 4, 5, 5, 6, 0, 3, 3, 2);
        Check.is("0 to 1, 4, 5 and 0 to 3, 2", m.ways(0), 2);
        m.step('b', 4, 1);
        Check.is("both by 2", m.ways(0), 1);
        m.addRoad(2, 6, 1, false);
        Check.is("two from 2", m.ways(0), 2);
        Check.is("four roads at 2, two of them to the surface", m.ways(2), 2);
        m.step('b', 4, 0);
        Check.is("three", m.ways(2), 3);
        Check.is("three roads at 1", m.ways(1), 3);
        m.step('s', 3, 1);
        Check.is("but 3 is full", m.ways(1), 2);
        Check.is("and one from 0", m.ways(0), 1);
    }

    /** From junction 3 two roads lead to 2, from there one to 0 and one to 1, from there two to 0. */
    private static void foundAnew() {
        for (int r = 0; r < 7; r++) {
            Minestrata m = Mines.net("siii", 0, 1, 0, 1, 1, 2, 2, 0, 2, 3, 3, 2, 0, 1);
            m.step('b', r, 1);
            m.come(0);
            Check.is("at the surface, without " + r, m.isSafeAnew(0), true);
            if (r == 3) {
                m.walk(0, 0);
                m.walk(0, 2);
            } else {
                m.walk(0, 3);
            }
            m.walk(0, r == 4 ? 5 : 4);
            Check.is("there", m.whereIs(0), 3);
            boolean due = r < 2 || r == 6;
            Check.is("without " + r, m.isSafeAnew(0), due);
            Check.is("by two ways, without " + r, m.isSafe(0), due);
        }
        Minestrata m = Mines.net("si", 0, 1, 0, 1);
        m.step('f', 0, 20);
        m.step('s', 1, 1);
        m.come(1);
        Check.is("just the limit", m.isSafeAnew(0), true);
        m.setLimit(99);
        Check.is("not good", m.isSafeAnew(0), false);
    }

    private static void states() {
        Minestrata m = Mines.stopes(50, 14);
        Check.is("it has ore", m.stateOf(0), 'o');
        m.step('o', 0, 9);
        Check.is("one ton", m.stateOf(0), 'o');
        m.step('o', 0, 1);
        Check.is("it is empty", m.stateOf(0), 'e');
        Check.is("empty by a collapse", m.stateOf(1), 'x');
        m.step('c', 0, 0);
        m.step('c', 1, 0);
        Check.is("filled, and not set", m.stateOf(0), 'c');
        Check.is("filled, and not set, after a collapse", m.stateOf(1), 'c');
        m.shift();
        Check.is("filled and set", m.stateOf(0), 's');
        Check.is("filled and set, after a collapse", m.stateOf(1), 's');
    }

    private static void lastDelivery() {
        Minestrata m = Mines.piles(9, 100, 9, 200);
        Check.is("there was none", m.delivered(0) + m.delivered(1), 0);
        m.deliver(3, 200, 200);
        Check.is("none from 0", m.delivered(0), 0);
        Check.is("3 from 1", m.delivered(1), 3);
        m.deliver(2, 100, 100);
        Check.is("2 from 0", m.delivered(0), 2);
        Check.is("none of the last one", m.delivered(1), 0);
        m.addStope(1, 1, 1, 50);
        Check.is("a stope that came later", m.delivered(2), 0);
    }

    private static void shareOfGood() {
        Minestrata m = new Minestrata();
        Check.fails("there are none", Check.ARITHMETIC, m::goodShare);
        m.addJunction(false, 0);
        Check.is("one of one", m.goodShare(), 1f);
        m.step('s', 0, 1);
        Check.is("none of one", m.goodShare(), 0f);
        for (int i = 1; i < 9; i++) {
            m.addJunction(i % 2 == 0, 0);
            Check.is("all but one", m.goodShare(), (float) i / (float) (i + 1));
        }
        m.step('s', 0, 0);
        Check.is("all of nine", m.goodShare(), 1f);
    }

    private static void meanLoad() {
        Minestrata m = Mines.pair();
        Check.fails("there are none", Check.ARITHMETIC, m::meanLoad);
        Minestrata all = Mines.stopes(99, 99, 99, 99, 99, 99, 99, 99);
        Check.is("10 each of eight", all.meanLoad(), 10.0);
        all.step('o', 7, 10);
        Check.is("80 on seven", all.meanLoad(), 80.0 / 7.0);
        for (int i = 0; i < 7; i++) {
            m.addStope(1, 1, 1, 99);
            Check.is("10 each", m.meanLoad(), 10.0);
        }
        m.join(0, 1);
        m.step('o', 0, 1);
        Check.is("70 on six", m.meanLoad(), 70.0 / 6.0);
        m.step('o', 2, 1);
        Check.is("60 on five", m.meanLoad(), 12.0);
        m.step('c', 0, 0);
        m.shift();
        m.join(0, 3);
        m.step('o', 3, 1);
        Check.is("not those that are filled: 50 on four, 10 on 0", m.meanLoad(), 50.0 / 4.0);
        for (int i : new int[] {1, 4, 5, 6}) {
            Check.is("one more", m.meanLoad() >= 10.0, true);
            m.step('o', i, 1);
        }
        Check.fails("none has ore", Check.ARITHMETIC, m::meanLoad);
    }

    private static void sound() {
        Minestrata m = Mines.stopes(10, 10, 10);
        m.addRoad(1, 0, 7, false);
        m.step('f', 0, -13);
        Check.is("as much load as strength", m.isSound(), true);
        m.come(1);
        m.come(0);
        m.step('b', 0, 1);
        m.step('b', 1, 1);
        Check.is("safe", m.isSound(), true);
        m.walk(0, 1);
        m.step('b', 0, 1);
        m.walk(0, 1);
        Check.is("two ways still", m.isSound(), true);
        m.setLimit(0);
        m.setSensor(0, 50);
        m.shift();
        Check.is("without power", m.isSound(), true);
        m.walk(0, 1);
        m.step('o', 0, 10);
        Check.is("after collapses", m.isSound(), true);
    }

    public static void main(String[] args) {
        Check.sentence("its draught, -50 to 50, of no meaning otherwise", AnswerSentencesTest::draughtOfNoMeaning);
        Check.sentence("the limit in thousandths, 0 to 9998", AnswerSentencesTest::limit);
        Check.sentence("its drift, -50 to 50", AnswerSentencesTest::sensorDrift);
        Check.sentence("Returns true if they were not.", AnswerSentencesTest::newNeighbours);
        Check.sentence("if the last step was done, or there was none", AnswerSentencesTest::lastStep);
        Check.sentence("Begins the next shift: sensors drift, power is looked at, filling sets.", AnswerSentencesTest::shifts);
        Check.sentence("Begins the next shift", AnswerSentencesTest::shiftOfAFullMine);
        Check.sentence("Returns true if the person is safe there.", AnswerSentencesTest::safeThere);
        Check.sentence("if the road does not lead from where the person is", AnswerSentencesTest::fromWhereThePersonIs);
        Check.sentence("Returns the number of ways; 0 if it is not good, 99 at the surface.", AnswerSentencesTest::manyWays);
        Check.sentence("the greatest number of ways of good air to the surface of which no two have a road in common",
                AnswerSentencesTest::greatestNumberOfWays);
        Check.sentence("Returns the same, found by leaving out each road by itself.", AnswerSentencesTest::foundAnew);
        Check.sentence("'o' it has ore, 'e' it is empty, 'x' empty by a collapse, 'c' filled, and not set, 's' filled and set.",
                AnswerSentencesTest::states);
        Check.sentence("Returns the number of tons, 0 if there was none.", AnswerSentencesTest::lastDelivery);
        Check.sentence("Returns the share of the junctions that are good.", AnswerSentencesTest::shareOfGood);
        Check.sentence("Returns the mean load of the stopes that have ore.", AnswerSentencesTest::meanLoad);
        Check.sentence("Returns whether all is sound", AnswerSentencesTest::sound);
        Check.end("AnswerSentencesTest");
    }
}
