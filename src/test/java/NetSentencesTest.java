/** The sentences of 'Net' that name a boundary, each on both its sides. */
public final class NetSentencesTest {
    private static final int MIN = Integer.MIN_VALUE;
    private static final int MAX = Integer.MAX_VALUE;

    private NetSentencesTest() { }

    private static void nineJunctions() {
        for (int last = 0; last < 2; last++) {
            Minestrata m = new Minestrata();
            for (int i = 0; i < 8; i++) {
                Check.is("number", m.addJunction(i % 3 == 0, 0), i);
            }
            Check.is("air with eight", m.pressure(7), 0);
            Check.fails("no ninth yet", Check.BOUNDS, () -> m.gas(8));
            Check.is("the ninth", m.addJunction(last == 0, 7), 8);
            Check.is("the ninth is there", m.pressure(8), last == 0 ? 7000 : 0);
            Check.fails("a tenth inside", Check.STATE, () -> m.addJunction(false, 0));
            Check.fails("a tenth at the surface", Check.STATE, () -> m.addJunction(true, 0));
            Check.fails("no tenth", Check.BOUNDS, () -> m.gas(9));
        }
    }

    private static void surfaceOrNot() {
        Minestrata m = new Minestrata();
        m.addJunction(true, 8);
        m.addJunction(false, 8);
        Check.is("at the surface", m.ways(0), 99);
        Check.is("its draught", m.pressure(0), 8000);
        Check.is("not at the surface", m.ways(1), 0);
        Check.is("no draught", m.pressure(1), 0);
    }

    private static void fourteenRoads() {
        Minestrata m = Mines.net("sis");
        for (int i = 0; i < 13; i++) {
            Check.is("number", m.addRoad(i % 3, (i + 1) % 3, 1, false), i);
        }
        Check.fails("no fourteenth yet", Check.BOUNDS, () -> m.flow(13));
        Check.is("the fourteenth", m.addRoad(0, 2, 5, true), 13);
        Check.is("the fourteenth has a fan", m.step('f', 13, 10), '.');
        Check.is("the fourteenth carries air", m.flow(13), 2000);
        Check.fails("a fifteenth", Check.STATE, () -> m.addRoad(0, 1, 1, false));
        Check.fails("no fifteenth", Check.BOUNDS, () -> m.isBlocked(14));
    }

    private static void toAnotherJunction() {
        Minestrata m = Mines.net("si");
        Check.fails("0 to itself", Check.ARGUMENT, () -> m.addRoad(0, 0, 1, false));
        Check.fails("1 to itself", Check.ARGUMENT, () -> m.addRoad(1, 1, 1, false));
        Check.is("0 to 1", m.addRoad(0, 1, 1, false), 0);
        Check.is("1 to 0", m.addRoad(1, 0, 1, false), 1);
        Check.is("the same again", m.addRoad(0, 1, 1, false), 2);
    }

    private static void resistance() {
        Minestrata m = Mines.net("ss");
        m.step('n', 0, 20);
        for (int wrong : new int[] {0, -1, MIN, 21, MAX}) {
            Check.fails("resistance " + wrong, Check.ARGUMENT, () -> m.addRoad(0, 1, wrong, false));
        }
        m.addRoad(0, 1, 1, false);
        m.addRoad(0, 1, 20, false);
        m.addRoad(0, 1, 19, false);
        Check.is("resistance 1", m.flow(0), 20000);
        Check.is("resistance 20", m.flow(1), 1000);
        Check.is("resistance 19", m.flow(2), 1052);
    }

    private static void fan() {
        Minestrata m = Mines.net("ss", 0, 1);
        Check.is("0 at first", m.flow(0), 0);
        Check.is("the greatest", m.step('f', 0, 50), '.');
        for (int wrong : new int[] {51, MAX, -51, MIN}) {
            Check.fails("fan " + wrong, Check.ARGUMENT, () -> m.step('f', 0, wrong));
        }
        Check.is("50", m.flow(0), 50000);
        Check.is("the least", m.step('f', 0, -50), '.');
        Check.is("-50", m.flow(0), -50000);
        m.step('f', 0, 0);
        Check.is("0 again", m.flow(0), 0);
    }

    private static void door() {
        Minestrata m = new Minestrata();
        m.addJunction(true, 6);
        m.addJunction(true, 0);
        m.addRoad(0, 1, 1, true);
        m.addRoad(0, 1, 2, false);
        Check.is("a door is open at first", m.flow(0), 6000);
        Check.fails("no door to close", Check.UNSUPPORTED, () -> m.step('d', 1, 1));
        Check.fails("no door to open", Check.UNSUPPORTED, () -> m.step('d', 1, 0));
        Check.is("air goes where no door is", m.flow(1), 3000);
        Check.is("a door to close", m.step('d', 0, 1), '.');
        Check.is("closed", m.flow(0), 0);
        Check.is("closed again", m.step('d', 0, 1), '.');
        Check.is("a door to open", m.step('d', 0, 0), '.');
        Check.is("open", m.flow(0), 6000);
    }

    private static void airGoes() {
        Minestrata m = Mines.net("ss", 0, 1);
        m.step('n', 0, 5);
        Check.is("not blocked, open", m.flow(0), 5000);
        m.step('b', 0, 1);
        Check.is("blocked, open", m.flow(0), 0);
        m.step('d', 0, 1);
        Check.is("blocked, closed", m.flow(0), 0);
        m.step('b', 0, 0);
        Check.is("not blocked, closed", m.flow(0), 0);
        m.step('b', 0, 1);
        m.step('d', 0, 0);
        Check.is("opened, but blocked", m.flow(0), 0);
        m.step('b', 0, 0);
        Check.is("neither", m.flow(0), 5000);
    }

    private static void draught() {
        Minestrata m = new Minestrata();
        for (int wrong : new int[] {-51, MIN, 51, MAX}) {
            Check.fails("draught " + wrong, Check.ARGUMENT, () -> m.addJunction(true, wrong));
        }
        Check.is("none was added", m.addJunction(true, -50), 0);
        Check.is("the greatest", m.addJunction(true, 50), 1);
        Check.is("-50", m.pressure(0), -50000);
        Check.is("50", m.pressure(1), 50000);
        for (int wrong : new int[] {-51, MIN, 51, MAX}) {
            Check.fails("draught " + wrong, Check.ARGUMENT, () -> m.step('n', 0, wrong));
        }
        Check.is("as before", m.pressure(0), -50000);
        Check.is("told anew", m.step('n', 0, 50), '.');
        Check.is("50 now", m.pressure(0), 50000);
        m.step('n', 0, -50);
        Check.is("-50 now", m.pressure(0), -50000);
        m.addRoad(0, 1, 1, false);
        Check.is("whatever air comes", m.pressure(1), 50000);
    }

    private static void flowOfARoad() {
        Minestrata m = new Minestrata();
        m.addJunction(true, 7);
        m.addJunction(true, -5);
        m.addRoad(0, 1, 4, false);
        m.addRoad(1, 0, 4, false);
        Check.is("from the first to the second", m.flow(0), 3000);
        Check.is("against its direction", m.flow(1), -3000);
        m.step('f', 0, 8);
        m.step('f', 1, 8);
        Check.is("plus the fan", m.flow(0), 5000);
        Check.is("a fan goes with the road", m.flow(1), -1000);
        m.step('f', 0, -12);
        Check.is("a fan that holds the air", m.flow(0), 0);
        m.step('f', 0, -13);
        Check.is("one more", m.flow(0), -250);
        m.step('f', 0, -11);
        Check.is("one less", m.flow(0), 250);
    }

    private static void balance() {
        Minestrata m = Mines.net("sssi", 0, 3, 3, 1, 2, 3);
        m.step('n', 0, 30);
        Check.is("pressure", m.pressure(3), 10000);
        Check.is("in", m.flow(0), 20000);
        Check.is("out by its first end", m.flow(1), 10000);
        Check.is("out by its second end", m.flow(2), -10000);
        Check.is("sound, though not in balance at the surface", m.isSound(), true);
        m.step('f', 1, 6);
        Check.is("in with a fan", m.flow(0), 22000);
        Check.is("out with a fan", m.flow(1), 14000);
        Check.is("out by the other", m.flow(2), -8000);
    }

    private static void noWayOfAir() {
        Minestrata m = Mines.net("siii", 3, 2, 2, 1, 0, 1);
        m.step('n', 0, 9);
        m.step('f', 0, 7);
        m.step('f', 1, 4);
        Check.is("by the surface: 1", m.pressure(1), 9000);
        Check.is("by the surface: 2", m.pressure(2), 5000);
        Check.is("by the surface: 3", m.pressure(3), -2000);
        m.step('d', 2, 1);
        Check.is("a closed door: the lowest is 1", m.pressure(1), 0);
        Check.is("2 hangs on it, without a flow", m.pressure(2), -4000);
        Check.is("3 hangs on 2", m.pressure(3), -11000);
        m.step('b', 1, 1);
        Check.is("1 alone", m.pressure(1), 0);
        Check.is("a blocked road: the lowest is 2", m.pressure(2), 0);
        Check.is("3 hangs on 2 still", m.pressure(3), -7000);
        m.step('d', 2, 0);
        Check.is("1 by the surface", m.pressure(1), 9000);
        Check.is("2 is not", m.pressure(2), 0);
        Check.is("the surface keeps its draught", m.pressure(0), 9000);
    }

    /** The surface has the greatest number, and the lowest of those inside is 0. */
    private static void noWayOfAirFromTheLowest() {
        Minestrata m = Mines.net("iiis", 3, 1, 1, 0, 2, 0);
        m.step('n', 3, 9);
        m.step('f', 1, 4);
        m.step('f', 2, 7);
        Check.is("by the surface: 0", m.pressure(0), 13000);
        Check.is("by the surface: 2", m.pressure(2), 6000);
        m.step('b', 0, 1);
        Check.is("cut off: 0", m.pressure(0), 0);
        Check.is("cut off: 1", m.pressure(1), -4000);
        Check.is("cut off: 2", m.pressure(2), -7000);
        m.step('d', 1, 1);
        Check.is("alone: 1", m.pressure(1), 0);
        Check.is("with 0: 2", m.pressure(2), -7000);
    }

    private static void noAirNoFlow() {
        Minestrata m = Mines.net("ssi", 0, 1, 0, 2);
        m.step('n', 0, 50);
        m.step('f', 0, 50);
        m.step('f', 1, 50);
        Check.is("air", m.flow(0), 100000);
        Check.is("a road that ends", m.flow(1), 0);
        m.step('d', 0, 1);
        Check.is("closed, with draught and fan", m.flow(0), 0);
        m.step('b', 1, 1);
        Check.is("blocked, with a fan", m.flow(1), 0);
        m.step('d', 0, 0);
        Check.is("open again", m.flow(0), 100000);
    }

    /** Less than a part in 10^9 decides here, and nothing at all where the draughts are the same. */
    private static void exact() {
        Minestrata same = Mines.ladder(49, 49);
        Minestrata more = Mines.ladder(49, 50);
        Minestrata less = Mines.ladder(49, 48);
        for (int j = 1; j <= 7; j++) {
            Check.is("just 49 at " + j, same.pressure(j), 49000);
            Check.is("no flow to " + j, same.flow(j - 1), 0);
        }
        Check.is("a little more than 49", more.pressure(1), 49000);
        Check.is("a little less than 49", less.pressure(1), 48999);
        Check.is("a little less than 0", more.flow(0), -1);
        Check.is("a little more than 0", less.flow(0), 0);
        Check.is("along the row, more than 0", less.flow(7), 0);
        Check.is("along the row, less than 0", more.flow(7), -1);
        Check.is("all in balance", more.isSound() && less.isSound() && same.isSound(), true);
    }

    /** Fourteen roads of 20, 19 or 17: the common divisor and what it divides are the greatest there are. */
    private static void exactWithGreatNumbers() {
        Minestrata m = Mines.net("iss");
        for (int i = 0; i < 14; i++) {
            m.addRoad(i < 13 ? 1 : 2, 0, 20, false);
        }
        m.step('n', 1, 50);
        m.step('n', 2, -50);
        Check.is("600 by 14", m.pressure(0), 42857);
        Check.is("50 less that, by 20", m.flow(0), 357);
        Check.is("-50 less that, by 20", m.flow(13), -4643);
        m.step('n', 1, -50);
        m.step('n', 2, 48);
        Check.is("-602 by 14", m.pressure(0), -43000);
        Check.is("-7 by 20", m.flow(0), -350);
        Check.is("91 by 20", m.flow(13), 4550);
        Minestrata other = Mines.net("iss");
        for (int i = 0; i < 14; i++) {
            other.addRoad(1 + i % 2, 0, i < 7 ? 19 : 17, false);
            other.step('f', i, i % 2 == 0 ? 50 : -50);
        }
        other.step('n', 1, 50);
        other.step('n', 2, -50);
        Check.is("-200 by 252", other.pressure(0), -794);
    }

    private static void greatest() {
        Minestrata m = Mines.net("siiiiiiii");
        for (int i = 0; i < 8; i++) {
            m.addRoad(i, i + 1, 20, false);
            m.step('f', i, 50);
        }
        m.step('n', 0, 50);
        Check.is("eight fans more than a draught of 50", m.pressure(8), 450000);
        for (int i = 0; i < 8; i++) {
            m.step('f', i, -50);
        }
        m.step('n', 0, -50);
        Check.is("as far below 0", m.pressure(8), -450000);
        Minestrata n = Mines.net("ssi", 2, 1);
        for (int i = 1; i < 14; i++) {
            n.addRoad(0, 2, 1, false);
            n.step('f', i, 50);
        }
        n.step('f', 0, 50);
        n.step('n', 0, 50);
        n.step('n', 1, -50);
        Check.is("1200 by 14", n.pressure(2), 85714);
        Check.is("all by one road", n.flow(0), 185714);
        Check.is("a part of it", n.flow(1), 14285);
    }

    private static void roundedDown() {
        Minestrata m = Mines.net("ssi");
        m.addRoad(0, 2, 1, false);
        m.addRoad(2, 1, 2, false);
        m.step('n', 1, 10);
        Check.is("3 1/3", m.pressure(2), 3333);
        Check.is("-3 1/3", m.flow(0), -3334);
        m.step('n', 1, -10);
        Check.is("-3 1/3 as a pressure", m.pressure(2), -3334);
        Check.is("3 1/3 as a flow", m.flow(0), 3333);
        m.step('n', 1, -9);
        Check.is("just -3", m.pressure(2), -3000);
        Check.is("just 3", m.flow(1), 3000);
        m.step('n', 1, 9);
        Check.is("just 3 as a pressure", m.pressure(2), 3000);
        Check.is("just -3 as a flow", m.flow(1), -3000);
        m.step('n', 1, 11);
        Check.is("3 2/3", m.pressure(2), 3666);
        Check.is("-3 2/3", m.flow(1), -3667);
    }

    public static void main(String[] args) {
        Check.sentence("There are at most 9 junctions, numbered from 0", NetSentencesTest::nineJunctions);
        Check.sentence("each at the surface or not", NetSentencesTest::surfaceOrNot);
        Check.sentence("and at most 14 roads, numbered from 0", NetSentencesTest::fourteenRoads);
        Check.sentence("each from a junction to another one", NetSentencesTest::toAnotherJunction);
        Check.sentence("with a resistance from 1 to 20", NetSentencesTest::resistance);
        Check.sentence("a fan with a pressure from -50 to 50, 0 at first", NetSentencesTest::fan);
        Check.sentence("and a door or none, which is open at first", NetSentencesTest::door);
        Check.sentence("A road can be blocked. Air goes through a road that is not blocked and whose door is not closed.",
                NetSentencesTest::airGoes);
        Check.sentence("A junction at the surface has the draught that was told for it, from -50 to 50, as its pressure.",
                NetSentencesTest::draught);
        Check.sentence("The flow of a road, from its first junction to its second one, is the pressure of the first one less "
                + "that of the second one plus that of the fan, divided by the resistance", NetSentencesTest::flowOfARoad);
        Check.sentence("into each junction that is not at the surface comes as much as goes out.", NetSentencesTest::balance);
        Check.sentence("Where no way of air leads to the surface, the lowest junction of those that hang together by air has "
                + "the pressure 0.", NetSentencesTest::noWayOfAir);
        Check.sentence("the lowest junction of those that hang together by air has the pressure 0.",
                NetSentencesTest::noWayOfAirFromTheLowest);
        Check.sentence("A road by which no air goes has the flow 0.", NetSentencesTest::noAirNoFlow);
        Check.sentence("Air obeys both laws of nets at each moment, exactly.", NetSentencesTest::exactWithGreatNumbers);
        Check.sentence("All this is exact", NetSentencesTest::exact);
        Check.sentence("flows and pressures are told in thousandths", NetSentencesTest::greatest);
        Check.sentence("flows and pressures are told in thousandths, rounded down, below 0 as well.",
                NetSentencesTest::roundedDown);
        Check.end("NetSentencesTest");
    }
}
