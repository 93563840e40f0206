/** The sentences of 'Gas' and 'Sensors' that name a boundary, each on both its sides. */
public final class GasSentencesTest {
    private static final int MIN = Integer.MIN_VALUE;
    private static final int MAX = Integer.MAX_VALUE;

    private GasSentencesTest() { }

    /** The pair with a fan on road 0: half its pressure goes through junction 1, which has this source. */
    private static Minestrata blown(int fan, int source) {
        return Mines.blown(source, 1, fan, 1, 0);
    }

    /** Mines whose gas, in thousandths, is 9997.6, just 9998, 9998.1, just 9999, 9999.1, just 10000 and 10000.2. */
    private static Minestrata[] aboutTheMost() {
        return new Minestrata[] {
            Mines.blown(9, 9, 5, 13, -8, 11, -2, 16, -10, 17, -3), Mines.blown(6, 13, 0, 14, 4, 1, 0, 8, 0, 10, 4),
            Mines.blown(16, 18, 5, 4, -4, 8, 5, 11, 8, 9, 8), Mines.blown(11, 13, -8, 15, 7, 12, -8, 11, 5),
            Mines.blown(13, 17, -8, 7, -8, 6, 6, 4, -2), Mines.blown(20, 1, 4, 1, 0), Mines.blown(8, 18, 6, 20, 3, 7, 9, 19, -10),
        };
    }

    /** A ring of the junctions 1, 2 and 3 with a fan of 30, a road from 1 to surface 0, all of resistance 1. */
    private static Minestrata ring() {
        Minestrata m = Mines.net("siii", 1, 2, 2, 3, 3, 1, 0, 1);
        m.step('f', 0, 30);
        return m;
    }

    private static void source() {
        Minestrata m = blown(20, 0);
        Check.is("0 at first", m.gas(1), 0);
        Check.is("the greatest", m.step('s', 1, 20), '.');
        for (int wrong : new int[] {21, MAX, -1, MIN}) {
            Check.fails("source " + wrong, Check.ARGUMENT, () -> m.step('s', 1, wrong));
        }
        Check.is("20 in 10", m.gas(1), 2000);
        Check.is("one", m.step('s', 1, 1), '.');
        Check.is("1 in 10", m.gas(1), 100);
        Check.is("none", m.step('s', 1, 0), '.');
        Check.is("0 in 10", m.gas(1), 0);
        Check.is("each junction has one, at the surface too", m.step('s', 0, 20), '.');
    }

    private static void otherEnd() {
        Minestrata m = Mines.net("sii", 0, 1, 1, 2, 0, 2);
        m.step('f', 0, 15);
        m.step('s', 1, 2);
        Check.is("where its source is", m.gas(1), 400);
        Check.is("where the air comes", m.gas(2), 400);
        m.step('f', 0, -15);
        Check.is("where its source is", m.gas(1), 400);
        Check.is("where the air went", m.gas(2), 0);
        Minestrata n = Mines.net("iiis", 0, 1, 1, 2, 3, 0, 2, 3);
        n.step('f', 0, 20);
        n.step('s', 0, 2);
        Check.is("where its source is", n.gas(0), 400);
        Check.is("by road 0", n.gas(1), 400);
        Check.is("by road 1", n.gas(2), 400);
        n.step('s', 0, 0);
        n.step('f', 0, -20);
        n.step('s', 1, 2);
        Check.is("before its source", n.gas(2), 0);
        Check.is("from junction 1 to junction 0", n.gas(0), 400);
    }

    private static void surfaceHasNone() {
        Minestrata m = Mines.net("sisi", 0, 1, 1, 2, 2, 3, 3, 0);
        m.step('f', 0, 10);
        m.step('f', 2, 10);
        m.step('s', 1, 1);
        m.step('s', 2, 20);
        Check.is("bad air goes up", m.gas(1), 200);
        Check.is("but is not at the surface", m.gas(2), 0);
        Check.is("nor is the surface full", m.isFull(2), false);
        Check.is("nor does it come down again", m.gas(3), 0);
        Minestrata alone = Mines.net("s");
        alone.step('s', 0, 20);
        Check.is("with a source and no road", alone.gas(0), 0);
        Check.is("not full", alone.isFull(0), false);
    }

    /** Into junction 2 come 10 from junction 1 and 20 from the surface; 30 go out. */
    private static void mixed() {
        Minestrata m = Mines.net("siiss", 0, 1, 1, 2, 3, 2, 2, 4);
        m.step('n', 0, 20);
        m.step('n', 3, 20);
        m.step('n', 4, -30);
        Check.is("a part", m.flow(1), 10000);
        Check.is("the rest", m.flow(2), 20000);
        Check.is("out", m.flow(3), 30000);
        m.step('s', 1, 3);
        Check.is("3 in 10", m.gas(1), 300);
        Check.is("10 times 0.3 in 30", m.gas(2), 100);
        m.step('s', 2, 3);
        Check.is("3 and 10 times 0.3 in 30", m.gas(2), 200);
        m.step('s', 1, 0);
        Check.is("3 in 30", m.gas(2), 100);
        m.addRoad(2, 4, 1, false);
        Check.is("3 in 42 6/7, which go out by two roads", m.gas(2), 70);
    }

    private static void noAirGoesOut() {
        Minestrata m = Mines.net("sii", 0, 1);
        Check.is("no source: gas", m.gas(1), 0);
        Check.is("no source: not full", m.isFull(1), false);
        Check.is("no road: gas", m.gas(2), 0);
        m.step('s', 1, 1);
        m.step('s', 2, 1);
        Check.is("a source, no flow: full", m.isFull(1), true);
        Check.is("a source, no road: full", m.isFull(2), true);
        Check.is("told", m.gas(1), 9999);
        m.step('s', 2, 0);
        Check.is("no source again: not full", m.isFull(2), false);
        Check.is("no source again: gas", m.gas(2), 0);
        Minestrata still = Mines.ladder(0, 0);
        Minestrata hardly = Mines.ladder(0, 1);
        still.step('s', 1, 1);
        hardly.step('s', 1, 1);
        Check.is("no air at all: full", still.isFull(1), true);
        Check.is("next to no air: not full", hardly.isFull(1), false);
        Check.is("but more gas than can be told", hardly.gas(1), 9999);
        Check.is("and not good", hardly.isGood(1), false);
    }

    private static void hangTogether() {
        Minestrata m = ring();
        Check.is("the ring has a flow", m.flow(0), 10000);
        for (int j = 1; j <= 3; j++) {
            Check.is("no source: gas " + j, m.gas(j), 0);
            Check.is("no source: full " + j, m.isFull(j), false);
        }
        m.step('s', 3, 1);
        for (int j = 1; j <= 3; j++) {
            Check.is("a source: gas " + j, m.gas(j), 9999);
            Check.is("a source: full " + j, m.isFull(j), true);
        }
        m.addRoad(0, 2, 1, true);
        Check.is("now air comes from the surface", m.flow(4) != 0, true);
        for (int j = 1; j <= 3; j++) {
            Check.is("with the surface: full " + j, m.isFull(j), false);
        }
        m.step('d', 4, 1);
        Check.is("without it", m.isFull(2), true);
        m.step('f', 0, 0);
        Check.is("flows 0: the source", m.isFull(3), true);
        Check.is("flows 0: not the others", m.isFull(2), false);
        Check.is("flows 0: no gas", m.gas(2), 0);
    }

    /** A road without a flow between two rings makes not one of them, nor does one from a source at the surface. */
    private static void hangTogetherByFlows() {
        Minestrata m = Mines.net("siiii", 1, 2, 1, 2, 3, 4, 3, 4, 2, 3, 0, 1);
        m.step('f', 0, 8);
        m.step('f', 2, 8);
        m.step('s', 0, 20);
        Check.is("a source at the surface, no flow there", m.isFull(1), false);
        m.step('s', 1, 1);
        Check.is("the ring with a source", m.isFull(2), true);
        Check.is("the other ring", m.isFull(3), false);
        Check.is("the other ring has none", m.gas(4), 0);
        m.step('s', 1, 0);
        m.step('s', 4, 1);
        Check.is("now this ring", m.isFull(3), true);
        Check.is("not the first", m.isFull(1), false);
    }

    /** The ring with the surface behind it in number; junction 0 has the source. */
    private static void surfaceWithTheGreatestNumber() {
        Minestrata m = Mines.net("iiis", 0, 1, 1, 2, 2, 0, 3, 0, 1, 3);
        m.step('f', 3, 40);
        m.step('s', 0, 1);
        Check.is("in by road 3", m.flow(3), 15000);
        Check.is("by road 0", m.flow(0), 10000);
        Check.is("the other way round", m.flow(2), -5000);
        Check.is("where the source is", m.gas(0), 66);
        Check.is("by road 0 and round", m.gas(1), 66);
        Check.is("between them", m.gas(2), 66);
        m.step('s', 2, 1);
        Check.is("a source between them", m.gas(2), 266);
        Check.is("0.0666 by 10 and 0.2666 by 5, in 15", m.gas(1), 133);
        m.step('b', 3, 1);
        Check.is("no more air", m.isFull(0), true);
        m.step('b', 4, 1);
        Check.is("nor a way of air", m.isFull(0), true);
        Check.is("without a source", m.isFull(1), false);
        m.step('f', 0, 3);
        Check.is("in the ring", m.isFull(1), true);
    }

    /** Seven times two roads in a row, which are together 10, 6, 4, 4, 6, 10 and 10: a flow of 1 by a draught of 50. */
    private static void exactInALongRow() {
        int[] resistances = {20, 20, 18, 9, 12, 6, 20, 5, 15, 10, 20, 20, 20, 20};
        Minestrata m = Mines.net("siiiiiis");
        for (int i = 0; i < 14; i++) {
            m.addRoad(i / 2, i / 2 + 1, resistances[i], false);
        }
        m.step('n', 0, 50);
        int[] sources = {0, 3, 0, 2, 0, 1, 3};
        int sum = 0;
        for (int j = 1; j <= 6; j++) {
            m.step('s', j, sources[j]);
            sum += sources[j];
            Check.is("so far", m.gas(j), 1000 * sum);
        }
        m.setLimit(9000);
        Check.is("just 9", m.isGood(6), true);
        m.setLimit(8999);
        Check.is("more than 8.999", m.isGood(6), false);
        m.step('n', 0, 49);
        Check.is("9 in 0.98", m.gas(6), 9183);
        Check.is("3 in 0.98", m.gas(1), 3061);
        Check.is("sound", m.isSound(), true);
    }

    private static void told() {
        Check.is("1/3", blown(6, 1).gas(1), 333);
        Check.is("2/3", blown(6, 2).gas(1), 666);
        Check.is("just 1", blown(6, 3).gas(1), 1000);
        Check.is("just 1/10", blown(20, 1).gas(1), 100);
        Check.is("2/19", blown(19, 1).gas(1), 105);
        Check.is("2/21", blown(21, 1).gas(1), 95);
        Check.is("a little less than a quarter", Mines.nearQuarter(1, 0).gas(1), 249);
        Check.is("just a quarter", Mines.nearQuarter(0, 0).gas(1), 250);
        Check.is("a little more than a quarter", Mines.nearQuarter(1, 20).gas(1), 250);
    }

    private static void toldAtMost() {
        int[] due = {9997, 9998, 9998, 9999, 9999, 9999, 9999};
        Minestrata[] mines = aboutTheMost();
        for (int i = 0; i < due.length; i++) {
            Minestrata m = mines[i];
            Check.is("gas of mine " + i, m.gas(1), due[i]);
            Check.is("full of mine " + i, m.isFull(1), false);
            m.setSensor(1, 0);
            Check.is("reading of mine " + i, m.reading(1), due[i]);
            m.setLimit(9998);
            Check.is("9997.6 and 9998 are at most 9998, mine " + i, m.isGood(1), i <= 1);
            m.shift();
            Check.is("what reads 9999 is off, mine " + i, m.hasPower(1), due[i] <= 9998);
        }
        Minestrata full = Mines.blown(1);
        Check.is("of a full one", full.gas(1), 9999);
        Check.is("which is full", full.isFull(1), true);
    }

    private static void goodAtSurface() {
        Minestrata m = Mines.net("ss", 0, 1);
        m.setLimit(0);
        m.step('s', 0, 20);
        Check.is("with a source", m.isGood(0), true);
        Check.is("the other one", m.isGood(1), true);
        Minestrata inside = Mines.net("i");
        inside.setLimit(0);
        Check.is("inside, without a source", inside.isGood(0), true);
        inside.step('s', 0, 20);
        Check.is("inside", inside.isGood(0), false);
    }

    private static void notFull() {
        Minestrata m = Mines.net("i");
        m.setLimit(9998);
        Check.is("no gas", m.isGood(0), true);
        m.step('s', 0, 1);
        Check.is("full, at the greatest limit", m.isGood(0), false);
    }

    private static void atMostTheLimit() {
        Minestrata third = blown(6, 1);
        third.setLimit(333);
        Check.is("1/3 is more than 333", third.isGood(1), false);
        third.setLimit(334);
        Check.is("1/3 is less than 334", third.isGood(1), true);
        Minestrata tenth = blown(20, 1);
        tenth.setLimit(100);
        Check.is("1/10 is 100", tenth.isGood(1), true);
        tenth.setLimit(99);
        Check.is("1/10 is more than 99", tenth.isGood(1), false);
        Minestrata none = blown(6, 1);
        none.setLimit(0);
        Check.is("1/3 is more than 0", none.isGood(1), false);
        none.step('s', 1, 0);
        Check.is("0 is 0", none.isGood(1), true);
        Minestrata most = blown(40, 20);
        most.addRoad(0, 1, 1, false);
        most.setLimit(750);
        Check.is("20 in 26 2/3 is 750", most.isGood(1), true);
        most.setLimit(749);
        Check.is("and more than 749", most.isGood(1), false);
    }

    private static void exactly() {
        Minestrata little = Mines.nearQuarter(1, 20);
        little.setLimit(250);
        Check.is("a little more than 250, told as 250", little.isGood(1), false);
        little.setLimit(251);
        Check.is("less than 251", little.isGood(1), true);
        Minestrata just = Mines.nearQuarter(0, 0);
        just.setLimit(250);
        Check.is("just 250", just.isGood(1), true);
        just.setLimit(249);
        Check.is("more than 249", just.isGood(1), false);
        Minestrata less = Mines.nearQuarter(1, 0);
        less.setLimit(250);
        Check.is("a little less than 250", less.isGood(1), true);
        less.setLimit(249);
        Check.is("more than 249, told as 249", less.isGood(1), false);
    }

    private static void limitAtFirst() {
        Check.is("100", new Minestrata().setLimit(0), 100);
        Check.is("just 100", blown(20, 1).isGood(1), true);
        Check.is("105", blown(19, 1).isGood(1), false);
        Check.is("95", blown(21, 1).isGood(1), true);
    }

    private static void oneSensor() {
        Minestrata m = Mines.pair();
        Check.fails("none", Check.NO_ELEMENT, () -> m.reading(1));
        Check.is("the first", m.setSensor(1, 5), true);
        m.shift();
        m.shift();
        Check.is("it drifts", m.reading(1), 10);
        Check.is("another", m.setSensor(1, 7), false);
        Check.is("in place of it", m.reading(1), 0);
        m.shift();
        Check.is("with its own drift", m.reading(1), 7);
        Check.fails("none at the other", Check.NO_ELEMENT, () -> m.reading(0));
        Check.is("one for each junction", m.setSensor(0, -5), true);
    }

    private static void reads() {
        Minestrata m = blown(6, 1);
        m.setSensor(1, -1);
        Check.is("1/3 rounded down", m.reading(1), 333);
        m.step('s', 1, 20);
        Check.is("20 in 3", m.reading(1), 6666);
        m.step('f', 0, 4);
        Check.is("just 10: at most", m.reading(1), 9999);
        Check.is("not full", m.isFull(1), false);
        m.step('f', 0, 0);
        Check.is("a full one", m.reading(1), 9999);
        m.shift();
        Check.is("9999 first, then the drift", m.reading(1), 9998);
        m.step('f', 0, 4);
        Check.is("10 as well", m.reading(1), 9998);
        m.step('f', 0, 5);
        Check.is("just 8", m.reading(1), 7999);
    }

    private static void drift() {
        Minestrata m = blown(20, 1);
        m.setSensor(1, -50);
        m.setSensor(0, 50);
        m.setLimit(9998);
        Check.is("set right", m.reading(1), 100);
        m.shift();
        Check.is("one shift", m.reading(1), 50);
        Check.is("one shift up", m.reading(0), 50);
        m.shift();
        Check.is("just 0", m.reading(1), 0);
        m.shift();
        Check.is("no less than 0", m.reading(1), 0);
        Check.is("three shifts up", m.reading(0), 150);
        m.step('f', 0, 10);
        Check.is("200 less 150", m.reading(1), 50);
        m.setRight(1);
        m.setRight(0);
        Check.is("set right again", m.reading(1), 200);
        m.shift();
        Check.is("since it was set right", m.reading(1), 150);
        Check.is("0 and 50", m.reading(0), 50);
        m.setSensor(1, 50);
        m.step('f', 0, 0);
        m.shift();
        Check.is("above 9999", m.reading(1), 10049);
        m.setSensor(1, 0);
        m.shift();
        Check.is("no drift", m.reading(1), 9999);
    }

    private static void noLessThanZero() {
        Minestrata m = blown(20, 1);
        m.setSensor(1, -33);
        m.shift();
        m.shift();
        m.shift();
        Check.is("1 is left", m.reading(1), 1);
        m.setSensor(1, -34);
        m.shift();
        m.shift();
        m.shift();
        Check.is("-2 is 0", m.reading(1), 0);
        Check.is("what is set right was no less either", m.setRight(1), 0);
        m.setLimit(0);
        m.setSensor(1, -50);
        m.shift();
        m.shift();
        Check.is("0 is not more than the limit 0", m.hasPower(1), true);
    }

    private static void powerOff() {
        Minestrata m = blown(20, 1);
        m.setSensor(1, 1);
        m.setLimit(101);
        m.shift();
        Check.is("as much as the limit", m.hasPower(1), true);
        m.setSensor(1, 1);
        m.setLimit(100);
        m.shift();
        Check.is("one more than the limit", m.hasPower(1), false);
        m.setSensor(1, -1);
        m.shift();
        Check.is("one less", m.hasPower(1), true);
        Check.is("no sensor", m.hasPower(0), true);
        Minestrata full = Mines.net("i");
        full.step('s', 0, 1);
        full.setLimit(9998);
        full.shift();
        Check.is("full, but no sensor", full.hasPower(0), true);
        full.setSensor(0, -1);
        full.shift();
        Check.is("9998 of 9998", full.hasPower(0), true);
        full.setSensor(0, 0);
        full.shift();
        Check.is("9999 of 9998", full.hasPower(0), false);
    }

    private static void fansWithoutPower() {
        Minestrata m = Mines.net("ss", 0, 1, 1, 0);
        m.step('f', 0, 12);
        m.step('f', 1, 7);
        m.setSensor(0, 50);
        m.setLimit(0);
        m.shift();
        Check.is("power is off", m.hasPower(0), false);
        Check.is("its first junction", m.flow(0), 0);
        Check.is("its second junction", m.flow(1), 7000);
        m.step('f', 0, 50);
        Check.is("a new pressure waits", m.flow(0), 0);
        m.setSensor(0, -50);
        m.shift();
        Check.is("power is on", m.flow(0), 50000);
    }

    private static void asAShiftBegins() {
        Minestrata m = blown(20, 1);
        m.setSensor(0, 50);
        m.setLimit(49);
        m.shift();
        Check.is("off, with the air as it was", m.hasPower(0), false);
        Check.is("so the air stands", m.isFull(1), true);
        m.setLimit(9998);
        m.setRight(0);
        m.setSensor(0, 0);
        Check.is("stays off for the shift", m.hasPower(0), false);
        Check.is("the air too", m.flow(0), 0);
        m.shift();
        Check.is("on", m.hasPower(0), true);
        m.setSensor(1, 0);
        m.setLimit(0);
        m.step('s', 1, 20);
        Check.is("stays on for the shift", m.hasPower(1), true);
        m.shift();
        Check.is("till the next", m.hasPower(1), false);
    }

    /** Junction 1 or 2 loses its power first, and with it the fan without which the other one is full. */
    private static void allAtOnce() {
        for (int first = 1; first <= 2; first++) {
            int other = 3 - first;
            Minestrata m = Mines.net("sii", first, other, other, 0, 0, first);
            m.step('f', 0, 30);
            m.step('s', other, 1);
            m.setSensor(first, 50);
            m.setSensor(other, 0);
            m.shift();
            m.shift();
            Check.is("100 of 100", m.hasPower(first), true);
            m.shift();
            Check.is("150 of 100", m.hasPower(first), false);
            Check.is("the other, by the air as it was", m.hasPower(other), true);
            Check.is("it is full now", m.isFull(other), true);
            m.shift();
            Check.is("which is seen as the next shift begins", m.hasPower(other), false);
        }
    }

    private static void setRight() {
        Minestrata m = blown(20, 1);
        m.setSensor(1, 40);
        m.shift();
        Check.is("drifted", m.reading(1), 140);
        Check.is("what it read", m.setRight(1), 140);
        Check.is("reads what there is", m.reading(1), 100);
        m.step('s', 1, 2);
        Check.is("also what there is later", m.setRight(1), 200);
        Check.is("nothing to set right", m.reading(1), 200);
    }

    private static void gasSentences() {
        Check.sentence("Each junction has a source of gas, 0 to 20 units a minute, 0 at first.", GasSentencesTest::source);
        Check.sentence("Air that comes into a junction from a road has what that at the road's other end has",
                GasSentencesTest::otherEnd);
        Check.sentence("that at the surface has none, whatever comes there.", GasSentencesTest::surfaceHasNone);
        Check.sentence("Air at a junction is mixed: its gas is what its source gives and what comes in by roads, by what goes "
                + "out of it", GasSentencesTest::surfaceWithTheGreatestNumber);
        Check.sentence("the gas of a junction is the sum of its source and, over roads by which air comes in, the flow's amount "
                + "times the gas of the other junction, divided by the sum of the amounts of flows by which air goes out.",
                GasSentencesTest::mixed);
        Check.sentence("Gas is exact", GasSentencesTest::exactInALongRow);
        Check.sentence("A junction from which no air goes out has the gas 0 if its source is 0, otherwise it is full",
                GasSentencesTest::noAirGoesOut);
        Check.sentence("junctions that hang together by flows other than 0, none of which is at the surface, are all full if "
                + "one of them has a source; otherwise they have 0.", GasSentencesTest::hangTogether);
        Check.sentence("junctions that hang together by flows other than 0", GasSentencesTest::hangTogetherByFlows);
        Check.sentence("Gas is exact, and told in thousandths, rounded down.", GasSentencesTest::told);
        Check.sentence("the gas in thousandths, rounded down, at most 9999; 9999 if it is full.", GasSentencesTest::toldAtMost);
        Check.sentence("A junction is good if it is at the surface", GasSentencesTest::goodAtSurface);
        Check.sentence("or not full", GasSentencesTest::notFull);
        Check.sentence("is at most the limit", GasSentencesTest::atMostTheLimit);
        Check.sentence("and its gas, exactly, is at most the limit", GasSentencesTest::exactly);
        Check.sentence("the limit, 100 thousandths at first.", GasSentencesTest::limitAtFirst);
    }

    private static void sensorSentences() {
        Check.sentence("A junction can have one sensor.", GasSentencesTest::oneSensor);
        Check.sentence("It reads the gas in thousandths, rounded down, 9999 at most, which a full one has",
                GasSentencesTest::reads);
        Check.sentence("and to this its drift for each shift since it was set right", GasSentencesTest::drift);
        Check.sentence("but no less than 0.", GasSentencesTest::noLessThanZero);
        Check.sentence("Power at a junction with a sensor is off if it reads more than the limit", GasSentencesTest::powerOff);
        Check.sentence("where power is off, fans of roads whose first junction it is have no pressure.",
                GasSentencesTest::fansWithoutPower);
        Check.sentence("Power is looked at as a shift begins, with the air as it was then, all junctions at once",
                GasSentencesTest::allAtOnce);
        Check.sentence("it stays so for the shift.", GasSentencesTest::asAShiftBegins);
        Check.sentence("A sensor that is set right reads what there is.", GasSentencesTest::setRight);
    }

    public static void main(String[] args) {
        gasSentences();
        sensorSentences();
        Check.end("GasSentencesTest");
    }
}
