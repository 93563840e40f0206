/** Small mines that tests start from. */
final class Mines {
    private Mines() { }

    /** Surface 0 with draught 0, surface 1 with the draught told, junction 2 between them; roads 0-2 (1), 2-1 (2). */
    static Minestrata line(int draught) {
        Minestrata m = new Minestrata();
        m.addJunction(true, 0);
        m.addJunction(true, draught);
        m.addJunction(false, 0);
        m.addRoad(0, 2, 1, true);
        m.addRoad(2, 1, 2, true);
        return m;
    }

    /** A surface 0, a junction 1, and two roads between them of resistance 1, both leading from 0 to 1. */
    static Minestrata pair() {
        Minestrata m = new Minestrata();
        m.addJunction(true, 0);
        m.addJunction(false, 0);
        m.addRoad(0, 1, 1, true);
        m.addRoad(0, 1, 1, true);
        return m;
    }

    /** The pair with stopes at junction 1, all neighbours of stope 0, each of 10 tons with its strength. */
    static Minestrata stopes(int... strengths) {
        Minestrata m = pair();
        for (int strength : strengths) {
            m.addStope(1, 10, 100, strength);
        }
        for (int i = 1; i < strengths.length; i++) {
            m.join(0, i);
        }
        return m;
    }

    /** The pair with piles of so many tons and grades. */
    static Minestrata piles(int... tonsAndGrades) {
        Minestrata m = pair();
        for (int i = 0; i < tonsAndGrades.length; i += 2) {
            m.addStope(1, 60, tonsAndGrades[i + 1], 99);
            if (tonsAndGrades[i] > 0) {
                m.step('o', i / 2, tonsAndGrades[i]);
            }
        }
        return m;
    }

    /** Junctions by their letters, 's' at the surface with draught 0, 'i' inside; roads of resistance 1 with doors. */
    static Minestrata net(String junctions, int... ends) {
        Minestrata m = new Minestrata();
        for (char letter : junctions.toCharArray()) {
            m.addJunction(letter == 's', 0);
        }
        for (int i = 0; i < ends.length; i += 2) {
            m.addRoad(ends[i], ends[i + 1], 1, true);
        }
        return m;
    }

    /** Surface 0 and junction 1 with a source, between them roads of these resistances and fans. */
    static Minestrata blown(int source, int... resistancesAndFans) {
        Minestrata m = net("si");
        for (int i = 0; i < resistancesAndFans.length; i += 2) {
            m.addRoad(0, 1, resistancesAndFans[i], true);
            m.step('f', i / 2, resistancesAndFans[i + 1]);
        }
        m.step('s', 1, source);
        return m;
    }

    /** Something of all there is: gas, a sensor, people, stopes, piles, a delivery, a refused step. */
    static Minestrata some() {
        Minestrata m = net("sii", 0, 1, 1, 2, 2, 0);
        m.addRoad(1, 2, 3, false);
        m.step('f', 0, 30);
        m.addStope(1, 5, 100, 50);
        m.addStope(2, 5, 200, 50);
        m.setSensor(1, 4);
        m.step('o', 0, 4);
        m.step('o', 1, 5);
        m.deliver(2, 150, 160);
        m.shift();
        m.come(1);
        m.come(0);
        m.step('b', 2, 1);
        return m;
    }

    /** So many of each at most, all the junctions but 0 inside, and all roads between 0 and 1. */
    static Minestrata crowd(int junctions, int roads, int stopes, int people) {
        Minestrata m = net("siiiiiiii".substring(0, junctions));
        for (int i = 0; i < roads; i++) {
            m.addRoad(i % 2, 1 - i % 2, 1, false);
        }
        for (int i = 0; i < stopes; i++) {
            m.addStope(1 + i % (junctions - 1), 1, 1, 50);
        }
        for (int i = 0; i < people; i++) {
            m.come(i % 2);
        }
        return m;
    }

    /** Nine junctions, fourteen roads, eight stopes and twelve people: no more of any. */
    static Minestrata crowded() {
        return crowd(9, 14, 8, 12);
    }

    /**
     * Junctions 1 to 7 in a row of resistance 20, the last one by road 13 of 20 to surface 8, and each by a road
     * (0 to 6) of resistance 1 to surface 0. One more at surface 8 makes less than 10^-9 more at junction 1.
     */
    static Minestrata ladder(int draught, int far) {
        Minestrata m = new Minestrata();
        m.addJunction(true, draught);
        for (int i = 1; i <= 7; i++) {
            m.addJunction(false, 0);
        }
        m.addJunction(true, far);
        for (int i = 1; i <= 7; i++) {
            m.addRoad(0, i, 1, false);
        }
        for (int i = 1; i <= 7; i++) {
            m.addRoad(i, i + 1, 20, false);
        }
        return m;
    }

    /**
     * Junction 1 takes in and gives out 4 by fans on roads 0 and 1, has a source of 1, and gets less than 10^-6 more
     * from a ladder of the junctions 2 to 6 if the draught of surface 7 is 1. The source told is that of junction 6.
     */
    static Minestrata nearQuarter(int far, int source) {
        Minestrata m = new Minestrata();
        m.addJunction(true, 0);
        for (int i = 1; i <= 6; i++) {
            m.addJunction(false, 0);
        }
        m.addJunction(true, far);
        m.addRoad(0, 1, 1, false);
        m.addRoad(1, 0, 1, false);
        for (int i = 1; i <= 6; i++) {
            m.addRoad(i, i + 1, 20, false);
        }
        for (int i = 2; i <= 6; i++) {
            m.addRoad(i, 0, 1, false);
        }
        m.step('f', 0, 4);
        m.step('f', 1, 4);
        m.step('s', 1, 1);
        m.step('s', 6, source);
        return m;
    }
}
