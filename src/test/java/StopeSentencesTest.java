/** The sentences of 'Stopes' that name a boundary, each on both its sides. */
public final class StopeSentencesTest {
    private static final int MIN = Integer.MIN_VALUE;
    private static final int MAX = Integer.MAX_VALUE;

    private StopeSentencesTest() { }

    /** Stopes of one ton at junction 1 with these strengths. */
    private static Minestrata small(int... strengths) {
        Minestrata m = Mines.pair();
        for (int strength : strengths) {
            m.addStope(1, 1, 100, strength);
        }
        return m;
    }

    private static void join(Minestrata m, int... pairs) {
        for (int i = 0; i < pairs.length; i += 2) {
            m.join(pairs[i], pairs[i + 1]);
        }
    }

    private static void loads(String what, Minestrata m, int... due) {
        for (int i = 0; i < due.length; i++) {
            Check.is(what + ", load " + i, m.load(i), due[i]);
        }
    }

    private static void states(String what, Minestrata m, String due) {
        for (int i = 0; i < due.length(); i++) {
            Check.is(what + ", state " + i, m.stateOf(i), due.charAt(i));
        }
    }

    private static void eightStopes() {
        Minestrata m = Mines.pair();
        for (int i = 0; i < 7; i++) {
            Check.is("number", m.addStope(1, 1 + i, 100, 50), i);
        }
        Check.fails("no eighth yet", Check.BOUNDS, () -> m.tons(7));
        Check.is("the eighth", m.addStope(1, 8, 100, 50), 7);
        Check.is("the eighth is there", m.tons(7), 8);
        Check.is("and has neighbours", m.join(7, 0), true);
        Check.fails("a ninth", Check.STATE, () -> m.addStope(1, 1, 100, 50));
        Check.is("the eighth gives ore", m.step('o', 7, 8), '.');
        Check.fails("an empty one makes no room", Check.STATE, () -> m.addStope(1, 1, 100, 50));
        Check.fails("no ninth", Check.BOUNDS, () -> m.tons(8));
    }

    private static void notAtTheSurface() {
        Minestrata m = Mines.net("sis");
        Check.fails("surface 0", Check.ARGUMENT, () -> m.addStope(0, 1, 1, 50));
        Check.fails("surface 2", Check.ARGUMENT, () -> m.addStope(2, 1, 1, 50));
        Check.is("inside", m.addStope(1, 1, 1, 50), 0);
    }

    private static void tonsOfOre() {
        Minestrata m = Mines.pair();
        for (int wrong : new int[] {0, -1, MIN, 61, MAX}) {
            Check.fails("tons " + wrong, Check.ARGUMENT, () -> m.addStope(1, wrong, 1, 50));
        }
        Check.is("one", m.addStope(1, 1, 1, 50), 0);
        Check.is("sixty", m.addStope(1, 60, 1, 50), 1);
        Check.is("1", m.tons(0), 1);
        Check.is("60", m.tons(1), 60);
    }

    private static void grade() {
        Minestrata m = Mines.pair();
        for (int wrong : new int[] {-1, MIN, 1000, MAX}) {
            Check.fails("grade " + wrong, Check.ARGUMENT, () -> m.addStope(1, 1, wrong, 50));
        }
        Check.is("the least", m.addStope(1, 1, 0, 50), 0);
        Check.is("the greatest", m.addStope(1, 1, 999, 50), 1);
        m.step('o', 0, 1);
        m.step('o', 1, 1);
        Check.is("999, of which none is lost", m.deliver(1, 999, 999), 0);
        Check.is("0", m.deliver(1, 0, 0), 0);
    }

    private static void strength() {
        Minestrata m = Mines.pair();
        for (int wrong : new int[] {9, 0, -10, MIN, 100, MAX}) {
            Check.fails("strength " + wrong, Check.ARGUMENT, () -> m.addStope(1, 1, 1, wrong));
        }
        Check.is("the least", m.addStope(1, 1, 1, 10), 0);
        Check.is("the greatest", m.addStope(1, 1, 1, 99), 1);
        Check.is("both stand", m.stateOf(0) == 'o' && m.stateOf(1) == 'o', true);
    }

    private static void loadAtFirst() {
        Minestrata m = small(10, 99);
        loads("at first", m, 10, 10);
        m.addStope(1, 60, 999, 50);
        loads("a third", m, 10, 10, 10);
        Check.is("sound with a load of 10 and a strength of 10", m.isSound(), true);
    }

    private static void twoAndTwo() {
        Minestrata m = small(99, 99, 99, 99);
        Check.is("0 and 1", m.join(0, 1), true);
        Check.is("1 and 2", m.join(1, 2), true);
        m.step('o', 0, 1);
        loads("only to its own neighbour", m, 0, 20, 10, 10);
        m.step('o', 2, 1);
        loads("joined the other way", m, 0, 30, 0, 10);
        m.step('o', 1, 1);
        loads("0 and 2 are empty, 3 is no neighbour", m, 0, 0, 0, 10);
    }

    private static void wholeTons() {
        Minestrata m = Mines.stopes(99, 99);
        Check.is("one", m.step('o', 0, 1), '.');
        Check.is("nine are left", m.tons(0), 9);
        Check.is("all but one", m.step('o', 0, 8), '.');
        states("one is left", m, "oo");
        loads("one is left", m, 10, 10);
        Check.fails("two of one", Check.UNSUPPORTED, () -> m.step('o', 0, 2));
        Check.is("the last one", m.step('o', 0, 1), '.');
        states("none is left", m, "eo");
        loads("none is left", m, 0, 20);
        Check.fails("one of none", Check.UNSUPPORTED, () -> m.step('o', 0, 1));
    }

    private static void whoBears() {
        Minestrata m = small(99, 99, 99, 10, 99, 99, 99, 99);
        join(m, 4, 3, 2, 6);
        m.step('o', 4, 1);
        m.step('b', 0, 0);
        m.step('o', 1, 1);
        m.step('o', 2, 1);
        m.step('o', 5, 1);
        m.step('c', 1, 0);
        m.shift();
        m.step('c', 2, 0);
        join(m, 0, 1, 0, 2, 0, 3, 0, 4, 0, 5, 0, 6);
        states("before", m, "oscxeeoo");
        loads("before", m, 10, 0, 0, 0, 0, 0, 20, 10);
        m.step('o', 0, 1);
        loads("to the filled and set one, and the one with ore", m, 0, 5, 0, 0, 0, 0, 25, 10);
        states("after", m, "escxeeoo");
    }

    /** The load of 10 of one of the stopes goes to so many others. */
    private static void equalParts() {
        int[][] due = {
            {}, {20}, {15, 15}, {14, 13, 13}, {13, 13, 12, 12}, {12, 12, 12, 12, 12}, {12, 12, 12, 12, 11, 11},
            {12, 12, 12, 11, 11, 11, 11},
        };
        for (int many = 0; many < due.length; many++) {
            for (int own = 0; own <= many; own++) {
                Minestrata m = Mines.pair();
                for (int i = 0; i <= many; i++) {
                    m.addStope(1, 1, 0, 99);
                }
                for (int i = many; i >= 0; i--) {
                    if (i != own) {
                        m.join(i, own);
                    }
                }
                m.step('o', own, 1);
                for (int i = 0; i <= many; i++) {
                    int want = i == own ? 0 : due[many][i < own ? i : i - 1];
                    Check.is("load " + i + " from " + own + " to " + many, m.load(i), want);
                }
            }
        }
    }

    private static void isLost() {
        Minestrata m = small(99, 99, 99);
        join(m, 0, 1);
        m.step('o', 2, 1);
        loads("no neighbour", m, 10, 10, 0);
        m.step('o', 0, 1);
        loads("one with ore", m, 0, 20, 0);
        m.step('o', 1, 1);
        loads("an empty one", m, 0, 0, 0);
        m.step('c', 0, 0);
        m.shift();
        loads("nor is it found again", m, 0, 0, 0);
        Minestrata n = small(99, 14);
        join(n, 0, 1);
        n.step('o', 0, 1);
        loads("of a collapsed one", n, 0, 0);
    }

    /** Of a load of 10, parts of 5 and 5, or of 2, 2, 2, 1, 1, 1, 1 come to loads of 10. */
    private static void moreThanItsStrength() {
        Minestrata m = small(99, 14, 15);
        join(m, 0, 1, 0, 2);
        m.step('o', 0, 1);
        states("15 with 14, 15 with 15", m, "exo");
        loads("15 with 14, 15 with 15", m, 0, 0, 15);
        Minestrata n = small(99, 12, 11, 13, 10, 11, 12, 10);
        join(n, 0, 1, 0, 2, 0, 3, 0, 4, 0, 5, 0, 6, 0, 7);
        n.step('o', 0, 1);
        states("12 and 11", n, "eoxoxoox");
        loads("12 and 11", n, 0, 12, 0, 12, 0, 11, 11, 0);
        Minestrata all = small(99, 99, 99, 99, 99, 99, 79, 80);
        for (int i = 0; i < 5; i++) {
            all.join(i, i + 1);
        }
        join(all, 5, 6, 5, 7);
        for (int i = 0; i < 6; i++) {
            all.step('o', i, 1);
        }
        loads("60 go to two", all, 0, 0, 0, 0, 0, 0, 40, 40);
        all.join(6, 7);
        Check.is("40 with 79", all.stateOf(6), 'o');
        all.step('o', 6, 1);
        states("80 with 80", all, "eeeeeeeo");
        loads("80 with 80", all, 0, 0, 0, 0, 0, 0, 0, 80);
    }

    private static void lowestOfAll() {
        Minestrata m = small(19, 99, 20);
        join(m, 0, 1, 1, 2, 0, 2);
        m.step('o', 1, 1);
        loads("15 with 19 and 20", m, 15, 0, 15);
        m.addStope(1, 1, 1, 99);
        join(m, 3, 0, 3, 2);
        m.step('o', 3, 1);
        states("20 with 19, then 40 with 20", m, "xexe");
        loads("all is lost", m, 0, 0, 0, 0);
        Check.is("roads", m.isBlocked(0), true);
    }

    private static void roadsOfAFullMine() {
        Minestrata m = Mines.crowd(9, 14, 0, 12);
        m.addStope(1, 1, 1, 99);
        m.addStope(1, 1, 1, 10);
        m.join(0, 1);
        for (int p = 0; p < 12; p++) {
            if (m.whereIs(p) == 1) {
                m.walk(p, p);
            }
        }
        Check.is("by the fourteenth road", m.step('o', 0, 1), '.');
        for (int r = 0; r < 14; r++) {
            Check.is("blocked " + r, m.isBlocked(r), true);
        }
    }

    private static void lowestFirst() {
        Minestrata m = small(90, 14, 14, 99);
        join(m, 0, 1, 0, 2, 1, 2, 2, 3);
        m.step('o', 0, 1);
        states("both have 15", m, "exxo");
        loads("1 gives 15 to 2, which gives 30 to 3", m, 0, 0, 0, 40);
        Minestrata n = small(90, 14, 14, 99);
        join(n, 0, 1, 0, 2, 1, 2, 1, 3);
        n.step('o', 0, 1);
        states("both have 15", n, "exxo");
        loads("1 gives 8 and 7 to 2 and 3, the 23 of 2 are lost", n, 0, 0, 0, 17);
    }

    /** When 3 has collapsed, 1 has too much as well, and goes before 4. */
    private static void lookedAtAnew() {
        Minestrata m = small(99, 24, 99, 14, 14, 99);
        join(m, 0, 3, 0, 4, 3, 1, 1, 4, 4, 5);
        m.step('o', 0, 1);
        states("3, 1, then 4", m, "exoxxo");
        loads("15 to 1, 25 to 4, 40 to 5", m, 0, 0, 10, 0, 0, 50);
        Minestrata n = small(99, 25, 99, 14, 14, 99);
        join(n, 0, 3, 0, 4, 3, 1, 1, 4, 4, 5);
        n.step('o', 0, 1);
        states("1 has 25 and stands at first, then has 33", n, "exoxxo");
        loads("15 to 1, 8 and 7 to 1 and 5, 33 are lost", n, 0, 0, 10, 0, 0, 17);
    }

    private static void oreIsLost() {
        Minestrata m = Mines.stopes(99, 14, 99);
        m.join(1, 2);
        m.step('o', 1, 3);
        Check.is("before", m.tons(1), 7);
        m.step('o', 0, 10);
        Check.is("its ore is lost", m.tons(1), 0);
        Check.is("not what lies on the pile", m.pile(1), 3);
        states("it is empty", m, "exo");
        loads("its load of 15 goes over", m, 0, 0, 30);
        m.step('b', 0, 0);
        Check.fails("no ore to take", Check.UNSUPPORTED, () -> m.step('o', 1, 1));
        m.step('o', 2, 10);
        loads("it takes no load", m, 0, 0, 0);
    }

    private static void goesOverLikewise() {
        Minestrata m = small(99, 19, 99, 99, 99);
        join(m, 0, 1, 1, 4, 1, 3, 1, 2);
        m.step('o', 0, 1);
        loads("20 in parts of 7, 7 and 6", m, 0, 0, 17, 17, 16);
        Minestrata n = small(99, 20, 99, 99, 99);
        join(n, 0, 1, 1, 4, 1, 3, 1, 2);
        n.step('o', 0, 1);
        loads("20 with 20", n, 0, 20, 10, 10, 10);
    }

    private static void roadsAreBlocked() {
        Minestrata m = Mines.net("siis", 0, 1, 1, 2, 2, 1, 2, 3, 0, 2, 1, 3, 0, 3);
        m.addStope(2, 1, 1, 99);
        m.addStope(1, 1, 1, 19);
        m.addStope(2, 1, 1, 20);
        m.join(0, 2);
        m.step('d', 5, 1);
        m.step('o', 0, 1);
        for (int r = 0; r < 7; r++) {
            Check.is("20 with 20, road " + r, m.isBlocked(r), false);
        }
        m.join(1, 2);
        m.step('o', 2, 1);
        boolean[] due = {true, true, true, false, false, true, false};
        for (int r = 0; r < 7; r++) {
            Check.is("at junction 1, road " + r, m.isBlocked(r), due[r]);
        }
        Check.is("no air comes there", m.flow(0), 0);
        m.addRoad(1, 0, 1, false);
        Check.is("a new road is free", m.isBlocked(7), false);
        m.step('b', 1, 0);
        m.shift();
        Check.is("freed for good", m.isBlocked(1), false);
    }

    private static void filled() {
        Minestrata m = small(10, 99, 99);
        join(m, 0, 1, 0, 2);
        Check.fails("not with ore", Check.UNSUPPORTED, () -> m.step('c', 0, 0));
        m.step('o', 0, 1);
        Check.is("an empty one", m.step('c', 0, 0), '.');
        m.shift();
        Check.is("with a load of 0", m.load(0), 0);
        Check.is("without ore", m.tons(0), 0);
        Check.fails("none to take", Check.UNSUPPORTED, () -> m.step('o', 0, 1));
        m.step('o', 1, 1);
        Check.is("takes some again", m.load(0), 15);
        Check.is("more than its strength of 10, as it has 99", m.stateOf(0), 's');
        Check.is("no road is blocked", m.isBlocked(0), false);
        Check.is("sound", m.isSound(), true);
        Check.fails("not twice", Check.UNSUPPORTED, () -> m.step('c', 0, 0));
    }

    /** As much as a mine can have comes to a filled stope. */
    private static void neverCollapses() {
        Minestrata m = small(10, 99, 99, 99, 99, 99, 99, 99);
        m.step('o', 0, 1);
        m.step('c', 0, 0);
        m.shift();
        for (int i = 1; i < 8; i++) {
            m.join(0, i);
            m.step('o', i, 1);
            Check.is("load", m.load(0), 10 * i);
            Check.is("state", m.stateOf(0), 's');
        }
    }

    private static void fromTheNextShift() {
        Minestrata m = small(99, 99, 99, 99);
        join(m, 0, 1, 0, 2, 0, 3);
        m.step('o', 0, 1);
        loads("before", m, 0, 14, 13, 13);
        m.step('c', 0, 0);
        states("filled", m, "cooo");
        m.step('o', 1, 1);
        loads("till then nothing goes over to it", m, 0, 0, 13, 13);
        m.shift();
        states("set", m, "seoo");
        loads("nor as it is set", m, 0, 0, 13, 13);
        m.step('o', 2, 1);
        loads("then it does", m, 13, 0, 0, 13);
        m.step('c', 1, 0);
        states("filled in a later shift", m, "sceo");
        m.shift();
        m.shift();
        states("set once", m, "sseo");
    }

    private static void collapsedIsFilled() {
        Minestrata m = small(99, 14, 99);
        join(m, 0, 1, 0, 2, 1, 2);
        m.step('o', 0, 1);
        states("collapsed", m, "exo");
        Check.is("can be filled", m.step('c', 1, 0), '.');
        states("filled", m, "eco");
        m.shift();
        states("set", m, "eso");
        m.step('b', 0, 0);
        m.step('o', 2, 1);
        loads("bears more than its strength was", m, 0, 30, 0);
        states("stands", m, "ese");
    }

    public static void main(String[] args) {
        Check.sentence("At most 8 stopes are numbered from 0", StopeSentencesTest::eightStopes);
        Check.sentence("each at a junction that is not at the surface", StopeSentencesTest::notAtTheSurface);
        Check.sentence("with tons of ore, 1 to 60", StopeSentencesTest::tonsOfOre);
        Check.sentence("a grade from 0 to 999", StopeSentencesTest::grade);
        Check.sentence("a strength from 10 to 99", StopeSentencesTest::strength);
        Check.sentence("and a load, 10 at first.", StopeSentencesTest::loadAtFirst);
        Check.sentence("Stopes can be neighbours, two and two.", StopeSentencesTest::twoAndTwo);
        Check.sentence("Ore is taken from a stope by a whole number of tons. When none is left, it is empty",
                StopeSentencesTest::wholeTons);
        Check.sentence("its load goes over to those of its neighbours that have ore, or are filled and set",
                StopeSentencesTest::whoBears);
        Check.sentence("in equal parts, the remainder by 1 each to those with the lowest numbers, and its own is 0",
                StopeSentencesTest::equalParts);
        Check.sentence("if there are none, it is lost.", StopeSentencesTest::isLost);
        Check.sentence("A stope with a load greater than its strength collapses", StopeSentencesTest::moreThanItsStrength);
        Check.sentence("the lowest number first", StopeSentencesTest::lowestOfAll);
        Check.sentence("the lowest number first, then it is looked at anew", StopeSentencesTest::lowestFirst);
        Check.sentence("then it is looked at anew", StopeSentencesTest::lookedAtAnew);
        Check.sentence("its ore is lost, it is empty", StopeSentencesTest::oreIsLost);
        Check.sentence("its load goes over likewise", StopeSentencesTest::goesOverLikewise);
        Check.sentence("and all roads of its junction are blocked.", StopeSentencesTest::roadsAreBlocked);
        Check.sentence("all roads of its junction are blocked.", StopeSentencesTest::roadsOfAFullMine);
        Check.sentence("An empty stope can be filled: it is a neighbour with a load of 0 that can take some again, with a "
                + "strength of 99, and without ore", StopeSentencesTest::filled);
        Check.sentence("a filled one never collapses.", StopeSentencesTest::neverCollapses);
        Check.sentence("Filling is set from the next shift on: till then nothing goes over to it.",
                StopeSentencesTest::fromTheNextShift);
        Check.sentence("One that is empty by a collapse can be filled, too.", StopeSentencesTest::collapsedIsFilled);
        Check.end("StopeSentencesTest");
    }
}
