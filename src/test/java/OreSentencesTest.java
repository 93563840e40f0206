/** The sentences of 'Ore' that name a boundary, each on both its sides. */
public final class OreSentencesTest {
    private static final int MIN = Integer.MIN_VALUE;
    private static final int MAX = Integer.MAX_VALUE;

    private OreSentencesTest() { }

    /** Delivers, and looks at the penalty and at what comes from each pile, of which there is then so much less. */
    private static void delivers(Minestrata m, int tons, int least, int greatest, int penalty, int... due) {
        String contract = tons + " tons of " + least + " to " + greatest;
        int[] before = new int[due.length];
        for (int i = 0; i < due.length; i++) {
            before[i] = m.pile(i);
        }
        long so = m.penalties();
        Check.is("penalty for " + contract, m.deliver(tons, least, greatest), penalty);
        Check.is("penalties after " + contract, m.penalties(), so + penalty);
        for (int i = 0; i < due.length; i++) {
            Check.is("from pile " + i + " for " + contract, m.delivered(i), due[i]);
            Check.is("pile " + i + " after " + contract, m.pile(i), before[i] - due[i]);
        }
    }

    private static void hauled() {
        Minestrata m = Mines.net("siii", 0, 1, 2, 1, 2, 3);
        m.addStope(3, 9, 1, 99);
        m.addJunction(false, 0);
        m.addStope(4, 9, 1, 99);
        Check.is("three roads, in either direction", m.step('o', 0, 1), '.');
        Check.fails("no road", Check.UNSUPPORTED, () -> m.step('o', 1, 1));
        for (int r = 0; r < 3; r++) {
            m.step('b', r, 1);
            Check.fails("blocked road " + r, Check.UNSUPPORTED, () -> m.step('o', 0, 1));
            m.step('b', r, 0);
            Check.is("free road " + r, m.step('o', 0, 1), '.');
        }
        for (int r = 0; r < 3; r++) {
            m.step('d', r, 1);
        }
        Check.is("doors are closed", m.step('o', 0, 1), '.');
        m.step('b', 1, 1);
        m.addRoad(0, 2, 1, false);
        Check.is("another way", m.step('o', 0, 1), '.');
        Check.is("tons", m.tons(0), 3);
        Check.is("tons that could not be taken", m.tons(1), 9);
        Minestrata last = Mines.crowd(9, 13, 0, 0);
        last.addStope(8, 9, 1, 99);
        Check.fails("no road there", Check.UNSUPPORTED, () -> last.step('o', 0, 1));
        last.addRoad(8, 0, 1, false);
        Check.is("by the fourteenth road", last.step('o', 0, 1), '.');
        Minestrata cut = Mines.net("iis", 2, 1, 1, 0);
        cut.addStope(0, 9, 1, 99);
        Check.is("from junction 0", cut.step('o', 0, 1), '.');
        cut.step('b', 0, 1);
        Check.fails("from junction 0, no more", Check.UNSUPPORTED, () -> cut.step('o', 0, 1));
    }

    private static void goodOrNot() {
        Minestrata m = Mines.net("siii", 0, 1, 1, 2);
        m.addStope(2, 9, 1, 99);
        m.addStope(3, 9, 1, 99);
        m.setLimit(0);
        m.step('s', 1, 1);
        Check.is("over a full one", m.isFull(1), true);
        Check.is("over a full one", m.step('o', 0, 1), '.');
        m.step('s', 2, 1);
        Check.is("from a full one", m.step('o', 0, 1), '.');
        m.step('s', 0, 20);
        Check.is("to a surface with a source", m.step('o', 0, 1), '.');
        Check.fails("from a good one without a way", Check.UNSUPPORTED, () -> m.step('o', 1, 1));
    }

    private static void soManyTons() {
        Minestrata m = Mines.pair();
        m.addStope(1, 60, 1, 99);
        m.addStope(1, 59, 1, 99);
        Check.fails("60 of 59", Check.UNSUPPORTED, () -> m.step('o', 1, 60));
        Check.is("59 of 59", m.step('o', 1, 59), '.');
        Check.is("60 of 60", m.step('o', 0, 60), '.');
        Check.fails("1 of 0", Check.UNSUPPORTED, () -> m.step('o', 0, 1));
    }

    private static void ownPile() {
        Minestrata m = Mines.pair();
        m.addStope(1, 60, 1, 99);
        m.addStope(1, 60, 1, 99);
        Check.is("none at first", m.pile(1), 0);
        m.step('o', 1, 60);
        Check.is("all of it", m.pile(1), 60);
        Check.is("not on the other", m.pile(0), 0);
        m.step('c', 1, 0);
        m.shift();
        Check.is("it stays there", m.pile(1), 60);
        m.step('o', 0, 7);
        m.step('o', 0, 8);
        Check.is("twice", m.pile(0), 15);
    }

    private static void tonsToDeliver() {
        for (int wrong : new int[] {0, -1, MIN, 21, MAX}) {
            Minestrata m = Mines.piles(30, 5);
            Check.fails(wrong + " tons", Check.ARGUMENT, () -> m.deliver(wrong, 0, 999));
        }
        delivers(Mines.piles(30, 5), 1, 0, 999, 0, 1);
        delivers(Mines.piles(30, 5), 20, 0, 999, 0, 20);
    }

    private static void grades() {
        int[][] wrong = {{-1, 0}, {MIN, MAX}, {-1, -1}, {5, 4}, {999, 998}, {0, 1000}, {1000, 1000}, {0, MAX}, {MAX, MIN}};
        for (int[] pair : wrong) {
            Minestrata m = Mines.piles(1, 5);
            Check.fails(pair[0] + " to " + pair[1], Check.ARGUMENT, () -> m.deliver(1, pair[0], pair[1]));
        }
        delivers(Mines.piles(2, 5), 2, 0, 999, 0, 2);
        delivers(Mines.piles(2, 5), 2, 5, 5, 0, 2);
        delivers(Mines.piles(2, 5), 2, 0, 0, 10, 2);
        delivers(Mines.piles(2, 5), 2, 999, 999, 1988, 2);
    }

    private static void notSoManyTons() {
        Minestrata m = Mines.piles(2, 5, 0, 9, 3, 5);
        Check.fails("6 of 5", Check.UNSUPPORTED, () -> m.deliver(6, 0, 999));
        delivers(m, 5, 0, 999, 0, 2, 0, 3);
        Check.fails("1 of 0", Check.UNSUPPORTED, () -> m.deliver(1, 0, 999));
        Minestrata stopes = Mines.stopes(99);
        Check.fails("ore that is not taken does not count", Check.UNSUPPORTED, () -> stopes.deliver(1, 0, 999));
        Check.fails("no stope", Check.UNSUPPORTED, () -> new Minestrata().deliver(1, 0, 999));
    }

    private static void wholeTons() {
        delivers(Mines.piles(1, 0, 9, 3), 1, 1, 1, 1, 1, 0);
        delivers(Mines.piles(1, 0, 9, 3), 1, 2, 2, 1, 0, 1);
        delivers(Mines.piles(1, 0, 9, 3), 2, 1, 1, 1, 1, 1);
        delivers(Mines.piles(1, 0, 9, 3), 3, 1, 1, 3, 1, 2);
        delivers(Mines.piles(2, 0, 9, 3), 3, 1, 1, 0, 2, 1);
    }

    /** What was delivered is no more on the piles; what is taken later is. */
    private static void oneAfterTheOther() {
        Minestrata m = Mines.piles(1, 300, 9, 100);
        delivers(m, 1, 300, 300, 0, 1, 0);
        delivers(m, 1, 300, 300, 200, 0, 1);
        delivers(m, 3, 150, 200, 150, 0, 3);
        m.step('o', 0, 2);
        delivers(m, 3, 200, 250, 0, 2, 1);
        delivers(m, 3, 200, 250, 300, 0, 3);
        Check.is("one is left", m.pile(1), 1);
    }

    /** One ton of a grade, or one of each of two, for contracts that just hold it or just do not. */
    private static void eachSideOfAGrade() {
        for (int grade : new int[] {1, 2, 62, 63, 64, 65, 70, 127, 128, 129, 640, 998}) {
            Minestrata m = Mines.piles(60, grade);
            delivers(m, 1, 0, grade, 0, 1);
            delivers(m, 1, grade, 999, 0, 1);
            delivers(m, 1, grade / 2, grade + 1, 0, 1);
            delivers(m, 1, grade - 1, grade, 0, 1);
            delivers(m, 1, 0, grade - 1, 1, 1);
            delivers(m, 1, grade + 1, 999, 1, 1);
            for (int other : new int[] {0, 1, 2, 62, 63, 64, 65, 127, 128, 999}) {
                int half = (grade + other) / 2;
                delivers(Mines.piles(1, grade, 1, other), 2, half, half, (grade + other) % 2, 1, 1);
            }
        }
    }

    /** The contract counts for the mean: so many tons times the grade, or one more or less than that. */
    private static void withinTheContract() {
        delivers(Mines.piles(9, 100, 1, 101), 10, 100, 100, 1, 9, 1);
        delivers(Mines.piles(9, 100, 1, 99), 10, 100, 100, 1, 9, 1);
        delivers(Mines.piles(9, 100, 1, 100), 10, 100, 100, 0, 9, 1);
        delivers(Mines.piles(9, 100, 1, 101), 10, 100, 101, 0, 9, 1);
        delivers(Mines.piles(9, 100, 1, 99), 10, 99, 100, 0, 9, 1);
        delivers(Mines.piles(9, 100, 1, 99), 10, 0, 99, 9, 9, 1);
        delivers(Mines.piles(9, 100, 1, 101), 10, 101, 999, 9, 9, 1);
        delivers(Mines.piles(19, 999, 1, 998), 20, 999, 999, 1, 19, 1);
        delivers(Mines.piles(19, 0, 1, 1), 20, 0, 0, 1, 19, 1);
    }

    private static void leastAmount() {
        delivers(Mines.piles(3, 0, 3, 100), 3, 60, 60, 20, 1, 2);
        delivers(Mines.piles(3, 0, 3, 100), 3, 50, 50, 50, 2, 1);
        delivers(Mines.piles(3, 0, 3, 100), 3, 51, 51, 47, 1, 2);
        delivers(Mines.piles(3, 0, 3, 100), 3, 49, 49, 47, 2, 1);
        delivers(Mines.piles(3, 0, 3, 100), 3, 49, 51, 47, 2, 1);
        delivers(Mines.piles(3, 0, 3, 100), 3, 49, 52, 44, 1, 2);
        delivers(Mines.piles(3, 100, 3, 0), 3, 49, 52, 44, 2, 1);
        delivers(Mines.piles(20, 0, 20, 999), 20, 999, 999, 0, 0, 20);
        delivers(Mines.piles(20, 999, 20, 0), 20, 0, 0, 0, 0, 20);
    }

    private static void highestPileLeast() {
        delivers(Mines.piles(9, 100, 9, 100), 5, 100, 100, 0, 5, 0);
        delivers(Mines.piles(3, 100, 9, 100), 5, 100, 100, 0, 3, 2);
        delivers(Mines.piles(9, 100, 9, 100, 9, 100), 5, 100, 100, 0, 5, 0, 0);
        delivers(Mines.piles(1, 100, 3, 100, 9, 100), 5, 100, 100, 0, 1, 3, 1);
        delivers(Mines.piles(9, 0, 9, 200, 9, 100), 4, 100, 100, 0, 2, 2, 0);
        delivers(Mines.piles(9, 0, 9, 200, 9, 100), 5, 100, 100, 0, 2, 2, 1);
        delivers(Mines.piles(9, 200, 9, 0, 9, 100), 5, 100, 100, 0, 2, 2, 1);
        delivers(Mines.piles(9, 90, 9, 110), 1, 100, 100, 10, 1, 0);
        delivers(Mines.piles(9, 110, 9, 90), 1, 100, 100, 10, 1, 0);
    }

    /** Of those with as few tons from the highest pile, the next one decides, then the one before it. */
    private static void thenTheNextOne() {
        delivers(Mines.piles(9, 300, 9, 0, 9, 100, 9, 200), 4, 150, 150, 0, 2, 2, 0, 0);
        delivers(Mines.piles(1, 300, 9, 0, 9, 100, 9, 200), 4, 150, 150, 0, 1, 0, 3, 0);
        delivers(Mines.piles(1, 300, 9, 0, 2, 100, 9, 200), 4, 150, 150, 0, 1, 1, 1, 1);
        delivers(Mines.piles(1, 300, 9, 0, 9, 300, 9, 200), 4, 150, 150, 0, 1, 2, 1, 0);
        delivers(Mines.piles(9, 50, 9, 60, 9, 70, 9, 80), 3, 60, 70, 0, 0, 3, 0, 0);
        delivers(Mines.piles(9, 50, 9, 60, 9, 70, 9, 80), 3, 61, 70, 0, 0, 2, 1, 0);
        delivers(Mines.piles(9, 50, 9, 60, 9, 70, 9, 80), 3, 0, 60, 0, 3, 0, 0, 0);
        delivers(Mines.piles(9, 50, 9, 60, 9, 70, 9, 80), 3, 56, 60, 0, 1, 2, 0, 0);
    }

    private static void penaltyTimesTons() {
        delivers(Mines.piles(20, 0), 1, 999, 999, 999, 1);
        delivers(Mines.piles(20, 0), 20, 999, 999, 19980, 20);
        delivers(Mines.piles(20, 999), 20, 0, 0, 19980, 20);
        delivers(Mines.piles(20, 500), 7, 501, 999, 7, 7);
        delivers(Mines.piles(20, 500), 7, 0, 499, 7, 7);
        delivers(Mines.piles(20, 500), 7, 500, 999, 0, 7);
        delivers(Mines.piles(20, 500), 7, 0, 500, 0, 7);
        Minestrata m = Mines.piles(60, 0);
        delivers(m, 20, 999, 999, 19980, 20);
        delivers(m, 20, 0, 0, 0, 20);
        delivers(m, 20, 5, 9, 100, 20);
        Check.is("the sum", m.penalties(), 20080L);
    }

    /** With all eight piles: the greatest number of sums there is. */
    private static void eightPiles() {
        int[] all = {20, 1, 20, 2, 20, 4, 20, 8, 20, 16, 20, 32, 20, 64, 20, 999};
        delivers(Mines.piles(all), 20, 999, 999, 0, 0, 0, 0, 0, 0, 0, 0, 20);
        delivers(Mines.piles(all), 20, 64, 64, 0, 0, 0, 0, 0, 0, 0, 20, 0);
        delivers(Mines.piles(all), 1, 33, 33, 1, 0, 0, 0, 0, 0, 1, 0, 0);
        delivers(Mines.piles(all), 20, 0, 0, 20, 20, 0, 0, 0, 0, 0, 0, 0);
        delivers(Mines.piles(all), 20, 1, 1, 0, 20, 0, 0, 0, 0, 0, 0, 0);
    }

    public static void main(String[] args) {
        Check.sentence("Ore that is taken is hauled to the surface, if a way by roads that are not blocked leads there",
                OreSentencesTest::hauled);
        Check.sentence("over junctions good or not; otherwise it cannot be taken.", OreSentencesTest::goodOrNot);
        Check.sentence("the stope has not so many tons", OreSentencesTest::soManyTons);
        Check.sentence("It lies on the pile of its stope.", OreSentencesTest::ownPile);
        Check.sentence("the tons, 1 to 20", OreSentencesTest::tonsToDeliver);
        Check.sentence("or the least grade is less than 0, or greater than the greatest one, or this than 999",
                OreSentencesTest::grades);
        Check.sentence("if the piles have not so many tons", OreSentencesTest::notSoManyTons);
        Check.sentence("whole tons from the piles", OreSentencesTest::wholeTons);
        Check.sentence("To deliver some tons: whole tons from the piles", OreSentencesTest::oneAfterTheOther);
        Check.sentence("within the contract", OreSentencesTest::eachSideOfAGrade);
        Check.sentence("the mean grade of all is not within the contract", OreSentencesTest::withinTheContract);
        Check.sentence("such that the amount by which the mean grade of all is not within the contract is least",
                OreSentencesTest::leastAmount);
        Check.sentence("and of those with the least number of tons from the pile with the highest number",
                OreSentencesTest::highestPileLeast);
        Check.sentence("then from the next one, and so on", OreSentencesTest::thenTheNextOne);
        Check.sentence("the penalty is this amount times the tons, a whole number.", OreSentencesTest::penaltyTimesTons);
        Check.sentence("To deliver some tons", OreSentencesTest::eightPiles);
        Check.end("OreSentencesTest");
    }
}
