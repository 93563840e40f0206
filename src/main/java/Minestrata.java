import java.util.NoSuchElementException;

/** A mine as one body: air, gas, sensors, people, stopes, ore, and a plan whose steps leave nobody unsafe. */
public final class Minestrata {
    private static final int MOST_JUNCTIONS = 9;
    private static final int MOST_ROADS = 14;
    private static final int MOST_STOPES = 8;
    private static final int MOST_PEOPLE = 12;
    private static final int MOST_GAS_TOLD = 9999;
    private static final int WAYS_AT_SURFACE = 99;

    private final Net net;
    private final Net netBefore;
    private final Stopes stopes;
    private final Stopes stopesBefore;
    private final Air air;
    private final Gas gases;
    private final Sensors sensors;
    private final Escape escape;
    private Blend blend;
    private final boolean[] good;
    private final int[] place;
    private int persons;
    private int limit;
    private int shifts;
    private int refusals;
    private int refuser;
    private long penaltySum;
    private boolean stale;

    public Minestrata() {
        net = new Net();
        netBefore = new Net();
        stopes = new Stopes();
        stopesBefore = new Stopes();
        air = new Air();
        gases = new Gas();
        sensors = new Sensors();
        escape = new Escape();
        blend = null;
        good = new boolean[MOST_JUNCTIONS];
        place = new int[MOST_PEOPLE];
        limit = 100;
        refuser = -1;
        stale = true;
    }

    public int addJunction(boolean isSurface, int draught) throws IllegalArgumentException, IllegalStateException {
        if (isSurface && !isWithin(draught, -50, 50)) {
            throw new IllegalArgumentException();
        }
        if (net.junctions >= MOST_JUNCTIONS) {
            throw new IllegalStateException();
        }
        stale = true;
        return net.putJunction(isSurface, draught);
    }

    public int addRoad(int first, int second, int resistance, boolean hasDoor)
            throws IndexOutOfBoundsException, IllegalArgumentException, IllegalStateException {
        if (!net.hasJunction(first) || !net.hasJunction(second)) {
            throw new IndexOutOfBoundsException();
        }
        if (first == second || !isWithin(resistance, 1, 20)) {
            throw new IllegalArgumentException();
        }
        if (net.roads >= MOST_ROADS) {
            throw new IllegalStateException();
        }
        stale = true;
        return net.putRoad(first, second, resistance, hasDoor);
    }

    public int addStope(int junction, int tons, int grade, int strength)
            throws IndexOutOfBoundsException, IllegalArgumentException, IllegalStateException {
        if (!net.hasJunction(junction)) {
            throw new IndexOutOfBoundsException();
        }
        if (net.surface[junction] || !isWithin(tons, 1, 60) || !isWithin(grade, 0, 999)
                || !isWithin(strength, 10, 99)) {
            throw new IllegalArgumentException();
        }
        if (stopes.count >= MOST_STOPES) {
            throw new IllegalStateException();
        }
        return stopes.put(junction, tons, grade, strength);
    }

    public boolean join(int stope, int other) throws IndexOutOfBoundsException, IllegalArgumentException {
        if (!stopes.has(stope) || !stopes.has(other)) {
            throw new IndexOutOfBoundsException();
        }
        if (stope == other) {
            throw new IllegalArgumentException();
        }
        return stopes.makeNeighbours(stope, other);
    }

    public int setLimit(int limit) throws IllegalArgumentException {
        if (!isWithin(limit, 0, MOST_GAS_TOLD - 1)) {
            throw new IllegalArgumentException();
        }
        int before = this.limit;
        this.limit = limit;
        return before;
    }

    public boolean setSensor(int junction, int drift) throws IndexOutOfBoundsException, IllegalArgumentException {
        if (!net.hasJunction(junction)) {
            throw new IndexOutOfBoundsException();
        }
        if (!isWithin(drift, -50, 50)) {
            throw new IllegalArgumentException();
        }
        return sensors.put(junction, drift, shifts);
    }

    public int setRight(int junction) throws IndexOutOfBoundsException, NoSuchElementException {
        if (!net.hasJunction(junction)) {
            throw new IndexOutOfBoundsException();
        }
        if (!sensors.present[junction]) {
            throw new NoSuchElementException();
        }
        refresh();
        int before = sensors.read(junction, gases.thousandths[junction], shifts);
        sensors.rightAt[junction] = shifts;
        return before;
    }

    public char step(char kind, int number, int value)
            throws IllegalArgumentException, IndexOutOfBoundsException, UnsupportedOperationException {
        if (!isStepValue(kind, value)) {
            throw new IllegalArgumentException();
        }
        if (!hasStepTarget(kind, number)) {
            throw new IndexOutOfBoundsException();
        }
        if (!canStep(kind, number, value)) {
            throw new UnsupportedOperationException();
        }
        netBefore.copyFrom(net);
        stopesBefore.copyFrom(stopes);
        change(kind, number, value);
        if (isAnyoneBelow()) {
            refresh();
        }
        refuser = firstUnsafe();
        if (refuser < 0) {
            return '.';
        }
        char reason = good[place[refuser]] ? 'w' : 'g';
        net.copyFrom(netBefore);
        stopes.copyFrom(stopesBefore);
        stale = true;
        refusals++;
        return reason;
    }

    public int refusedBy() throws NoSuchElementException {
        if (refuser < 0) {
            throw new NoSuchElementException();
        }
        return refuser;
    }

    public int shift() {
        refresh();
        shifts++;
        for (int j = 0; j < net.junctions; j++) {
            boolean off = sensors.present[j] && sensors.read(j, gases.thousandths[j], shifts) > limit;
            if (net.powerOff[j] != off) {
                net.powerOff[j] = off;
                stale = true;
            }
        }
        stopes.setFillings();
        return shifts;
    }

    public int flow(int road) throws IndexOutOfBoundsException {
        if (!net.hasRoad(road)) {
            throw new IndexOutOfBoundsException();
        }
        refresh();
        return air.flowTold[road];
    }

    public int pressure(int junction) throws IndexOutOfBoundsException {
        if (!net.hasJunction(junction)) {
            throw new IndexOutOfBoundsException();
        }
        refresh();
        return air.pressureTold[junction];
    }

    public int gas(int junction) throws IndexOutOfBoundsException {
        if (!net.hasJunction(junction)) {
            throw new IndexOutOfBoundsException();
        }
        refresh();
        return gases.thousandths[junction];
    }

    public boolean isFull(int junction) throws IndexOutOfBoundsException {
        if (!net.hasJunction(junction)) {
            throw new IndexOutOfBoundsException();
        }
        refresh();
        return gases.full[junction];
    }

    public boolean isGood(int junction) throws IndexOutOfBoundsException {
        if (!net.hasJunction(junction)) {
            throw new IndexOutOfBoundsException();
        }
        refresh();
        return good[junction];
    }

    public int reading(int junction) throws IndexOutOfBoundsException, NoSuchElementException {
        if (!net.hasJunction(junction)) {
            throw new IndexOutOfBoundsException();
        }
        if (!sensors.present[junction]) {
            throw new NoSuchElementException();
        }
        refresh();
        return sensors.read(junction, gases.thousandths[junction], shifts);
    }

    public boolean hasPower(int junction) throws IndexOutOfBoundsException {
        if (!net.hasJunction(junction)) {
            throw new IndexOutOfBoundsException();
        }
        return !net.powerOff[junction];
    }

    public int come(int junction)
            throws IndexOutOfBoundsException, UnsupportedOperationException, IllegalStateException {
        if (!net.hasJunction(junction)) {
            throw new IndexOutOfBoundsException();
        }
        refresh();
        if (!isSafePlace(junction)) {
            throw new UnsupportedOperationException();
        }
        if (persons >= MOST_PEOPLE) {
            throw new IllegalStateException();
        }
        place[persons] = junction;
        persons++;
        return persons - 1;
    }

    public boolean walk(int person, int road) throws IndexOutOfBoundsException, UnsupportedOperationException {
        if (!hasPerson(person) || !net.hasRoad(road)) {
            throw new IndexOutOfBoundsException();
        }
        refresh();
        int there = net.across(road, place[person]);
        if (there < 0 || net.blocked[road] || !good[there]) {
            throw new UnsupportedOperationException();
        }
        place[person] = there;
        return isSafePlace(there);
    }

    public int whereIs(int person) throws IndexOutOfBoundsException {
        if (!hasPerson(person)) {
            throw new IndexOutOfBoundsException();
        }
        return place[person];
    }

    public boolean isSafe(int person) throws IndexOutOfBoundsException {
        if (!hasPerson(person)) {
            throw new IndexOutOfBoundsException();
        }
        refresh();
        return isSafePlace(place[person]);
    }

    public boolean isSafeAnew(int person) throws IndexOutOfBoundsException {
        if (!hasPerson(person)) {
            throw new IndexOutOfBoundsException();
        }
        refresh();
        return escape.isSafeWithoutAnyRoad(net, good, place[person]);
    }

    public int ways(int junction) throws IndexOutOfBoundsException {
        if (!net.hasJunction(junction)) {
            throw new IndexOutOfBoundsException();
        }
        if (net.surface[junction]) {
            return WAYS_AT_SURFACE;
        }
        refresh();
        return escape.countWays(net, good, junction, MOST_ROADS);
    }

    public int tons(int stope) throws IndexOutOfBoundsException {
        if (!stopes.has(stope)) {
            throw new IndexOutOfBoundsException();
        }
        return stopes.tons[stope];
    }

    public int load(int stope) throws IndexOutOfBoundsException {
        if (!stopes.has(stope)) {
            throw new IndexOutOfBoundsException();
        }
        return stopes.load[stope];
    }

    public char stateOf(int stope) throws IndexOutOfBoundsException {
        if (!stopes.has(stope)) {
            throw new IndexOutOfBoundsException();
        }
        return stopes.state[stope];
    }

    public int pile(int stope) throws IndexOutOfBoundsException {
        if (!stopes.has(stope)) {
            throw new IndexOutOfBoundsException();
        }
        return stopes.pile[stope];
    }

    public int deliver(int tons, int least, int greatest)
            throws IllegalArgumentException, UnsupportedOperationException {
        if (!isWithin(tons, 1, Blend.MOST_TONS) || least < 0 || least > greatest || greatest > 999) {
            throw new IllegalArgumentException();
        }
        if (stopes.tonsOnPiles() < tons) {
            throw new UnsupportedOperationException();
        }
        if (blend == null) {
            blend = new Blend();
        }
        int penalty = blend.choose(stopes, tons, least * tons, greatest * tons);
        for (int i = 0; i < stopes.count; i++) {
            stopes.delivered[i] = blend.taken[i];
            stopes.pile[i] -= blend.taken[i];
        }
        penaltySum += penalty;
        return penalty;
    }

    public int delivered(int stope) throws IndexOutOfBoundsException {
        if (!stopes.has(stope)) {
            throw new IndexOutOfBoundsException();
        }
        return stopes.delivered[stope];
    }

    public boolean isBlocked(int road) throws IndexOutOfBoundsException {
        if (!net.hasRoad(road)) {
            throw new IndexOutOfBoundsException();
        }
        return net.blocked[road];
    }

    public int refused() {
        return refusals;
    }

    public int people() {
        return persons;
    }

    public long penalties() {
        return penaltySum;
    }

    public float goodShare() throws ArithmeticException {
        if (net.junctions <= 0) {
            throw new ArithmeticException();
        }
        refresh();
        int sum = 0;
        for (int j = 0; j < net.junctions; j++) {
            sum += good[j] ? 1 : 0;
        }
        return (float) sum / (float) net.junctions;
    }

    public double meanLoad() throws ArithmeticException {
        int sum = 0;
        int number = 0;
        for (int i = 0; i < stopes.count; i++) {
            if (stopes.hasOre(i)) {
                sum += stopes.load[i];
                number++;
            }
        }
        if (number == 0) {
            throw new ArithmeticException();
        }
        return (double) sum / (double) number;
    }

    public boolean isSound() {
        refresh();
        for (int i = 0; i < persons; i++) {
            if (isSafePlace(place[i]) != escape.isSafeWithoutAnyRoad(net, good, place[i])) {
                return false;
            }
        }
        return air.isBalanced(net) && stopes.firstOverloaded() < 0;
    }

    private static boolean isWithin(int value, int least, int greatest) {
        return value >= least && value <= greatest;
    }

    private boolean hasPerson(int person) {
        return person >= 0 && person < persons;
    }

    /** Air and gas are found only when asked for, since many calls may change them before one asks. */
    private void refresh() {
        if (stale) {
            air.find(net);
            gases.find(net, air);
            stale = false;
        }
        for (int j = 0; j < net.junctions; j++) {
            good[j] = net.surface[j] || gases.isAtMost(j, limit);
        }
    }

    /** The answer holds for the air that was found last. */
    private boolean isSafePlace(int junction) {
        return net.surface[junction] || escape.countWays(net, good, junction, 2) >= 2;
    }

    private boolean isAnyoneBelow() {
        for (int i = 0; i < persons; i++) {
            if (!net.surface[place[i]]) {
                return true;
            }
        }
        return false;
    }

    private int firstUnsafe() {
        for (int i = 0; i < persons; i++) {
            if (!isSafePlace(place[i])) {
                return i;
            }
        }
        return -1;
    }

    private static boolean isStepValue(char kind, int value) {
        if (kind == 'd' || kind == 'b') {
            return isWithin(value, 0, 1);
        }
        if (kind == 'f' || kind == 'n') {
            return isWithin(value, -50, 50);
        }
        if (kind == 's') {
            return isWithin(value, 0, 20);
        }
        return kind == 'c' || kind == 'o' && isWithin(value, 1, 60);
    }

    private boolean hasStepTarget(char kind, int number) {
        if (kind == 'd' || kind == 'b' || kind == 'f') {
            return net.hasRoad(number);
        }
        if (kind == 'n' || kind == 's') {
            return net.hasJunction(number);
        }
        return stopes.has(number);
    }

    private boolean canStep(char kind, int number, int value) {
        if (kind == 'd') {
            return net.door[number];
        }
        if (kind == 'n') {
            return net.surface[number];
        }
        if (kind == 'o') {
            return stopes.tons[number] >= value && escape.canHaul(net, stopes.junction[number]);
        }
        return kind != 'c' || stopes.isEmpty(number);
    }

    private void change(char kind, int number, int value) {
        if (kind == 'o') {
            stopes.take(number, value);
            collapse();
        } else if (kind == 'c') {
            stopes.fill(number);
        } else {
            changeNet(kind, number, value);
            stale = true;
        }
    }

    private void changeNet(char kind, int number, int value) {
        if (kind == 'd') {
            net.closed[number] = value == 1;
        } else if (kind == 'b') {
            net.blocked[number] = value == 1;
        } else if (kind == 'f') {
            net.fan[number] = value;
        } else if (kind == 'n') {
            net.draught[number] = value;
        } else {
            net.source[number] = value;
        }
    }

    /** Each collapse ends a stope with ore, so there are at most as many as stopes. */
    private void collapse() {
        for (int turn = 0; turn < MOST_STOPES; turn++) {
            int stope = stopes.firstOverloaded();
            if (stope < 0) {
                return;
            }
            stopes.ruin(stope);
            net.blockAround(stopes.junction[stope]);
            stale = true;
        }
    }

    /** Junctions and roads, with all that the plan and the sensors change in them. */
    private static final class Net {
        int junctions;
        final boolean[] surface = new boolean[MOST_JUNCTIONS];
        final int[] draught = new int[MOST_JUNCTIONS];
        final int[] source = new int[MOST_JUNCTIONS];
        final boolean[] powerOff = new boolean[MOST_JUNCTIONS];
        int roads;
        final int[] first = new int[MOST_ROADS];
        final int[] second = new int[MOST_ROADS];
        final int[] resistance = new int[MOST_ROADS];
        final boolean[] door = new boolean[MOST_ROADS];
        final boolean[] closed = new boolean[MOST_ROADS];
        final boolean[] blocked = new boolean[MOST_ROADS];
        final int[] fan = new int[MOST_ROADS];

        boolean hasJunction(int number) {
            return number >= 0 && number < junctions;
        }

        boolean hasRoad(int number) {
            return number >= 0 && number < roads;
        }

        int putJunction(boolean isSurface, int pressure) {
            if (junctions >= MOST_JUNCTIONS) {
                return -1;
            }
            surface[junctions] = isSurface;
            draught[junctions] = isSurface ? pressure : 0;
            junctions++;
            return junctions - 1;
        }

        int putRoad(int from, int to, int hindrance, boolean hasDoor) {
            if (roads >= MOST_ROADS) {
                return -1;
            }
            first[roads] = from;
            second[roads] = to;
            resistance[roads] = hindrance;
            door[roads] = hasDoor;
            roads++;
            return roads - 1;
        }

        boolean carriesAir(int road) {
            return !blocked[road] && !closed[road];
        }

        /** A fan runs on the power of the first junction of its road. */
        int fanPressure(int road) {
            return powerOff[first[road]] ? 0 : fan[road];
        }

        /** The other end of a road, or -1 if it does not lead from the junction. */
        int across(int road, int junction) {
            if (first[road] == junction) {
                return second[road];
            }
            return second[road] == junction ? first[road] : -1;
        }

        void blockAround(int junction) {
            for (int r = 0; r < roads; r++) {
                if (across(r, junction) >= 0) {
                    blocked[r] = true;
                }
            }
        }

        /** Takes over what a step can change; nothing is added during a step. */
        void copyFrom(Net other) {
            for (int j = 0; j < MOST_JUNCTIONS; j++) {
                draught[j] = other.draught[j];
                source[j] = other.source[j];
            }
            for (int r = 0; r < MOST_ROADS; r++) {
                closed[r] = other.closed[r];
                blocked[r] = other.blocked[r];
                fan[r] = other.fan[r];
            }
        }
    }

    /** The junctions that hang together by chosen roads. */
    private static final class Groups {
        final boolean[] chosen = new boolean[MOST_ROADS];
        final int[] lowest = new int[MOST_JUNCTIONS];
        private final boolean[] atSurface = new boolean[MOST_JUNCTIONS];

        /** The lowest number of a group spreads by one road a turn at least, so as many turns as junctions do. */
        void gather(Net net) {
            for (int j = 0; j < net.junctions; j++) {
                lowest[j] = j;
                atSurface[j] = false;
            }
            for (int turn = 0; turn < net.junctions; turn++) {
                for (int r = 0; r < net.roads; r++) {
                    if (chosen[r]) {
                        int least = Math.min(lowest[net.first[r]], lowest[net.second[r]]);
                        lowest[net.first[r]] = least;
                        lowest[net.second[r]] = least;
                    }
                }
            }
            for (int j = 0; j < net.junctions; j++) {
                if (net.surface[j]) {
                    atSurface[lowest[j]] = true;
                }
            }
        }

        boolean reachesSurface(int junction) {
            return atSurface[lowest[junction]];
        }
    }

    /** Linear equations modulo a prime, the right sides in the column behind the last unknown. */
    private static final class Equations {
        final long[][] row = new long[MOST_JUNCTIONS][MOST_JUNCTIONS + 1];
        private long prime = 2;

        void begin(int unknowns, long modulus) {
            prime = Math.max(modulus, 2);
            for (int i = 0; i < unknowns; i++) {
                for (int k = 0; k <= unknowns; k++) {
                    row[i][k] = 0;
                }
            }
        }

        void add(int equation, int column, long value) {
            row[equation][column] = Math.floorMod(row[equation][column] + value, prime);
        }

        /** Puts the solution into the last column; answers the determinant, 0 if there is no one solution. */
        long solve(int unknowns) {
            long determinant = 1;
            for (int k = 0; k < unknowns; k++) {
                int pivot = pivotFor(k, unknowns);
                if (pivot < 0) {
                    return 0;
                }
                if (pivot != k) {
                    long[] swapped = row[k];
                    row[k] = row[pivot];
                    row[pivot] = swapped;
                    determinant = prime - determinant;
                }
                determinant = determinant * row[k][k] % prime;
                long inverse = Radix.inverse(row[k][k], prime);
                for (int c = k; c <= unknowns; c++) {
                    row[k][c] = row[k][c] * inverse % prime;
                }
                clearColumn(k, unknowns);
            }
            return determinant;
        }

        private int pivotFor(int column, int unknowns) {
            for (int i = column; i < unknowns; i++) {
                if (row[i][column] != 0) {
                    return i;
                }
            }
            return -1;
        }

        private void clearColumn(int k, int unknowns) {
            for (int i = 0; i < unknowns; i++) {
                if (i != k && row[i][k] != 0) {
                    long times = prime - row[i][k];
                    for (int c = k; c <= unknowns; c++) {
                        row[i][c] = (row[i][c] + times * row[k][c]) % prime;
                    }
                }
            }
        }
    }

    /** Primes, and the way from what is left of a number by each of them to its digits in these bases. */
    private static final class Radix {
        /** A determinant here has less than 420 bits, so less than 14 of these primes can divide it. */
        static final int[] PRIMES = {
            2147483647, 2147483629, 2147483587, 2147483579, 2147483563, 2147483549, 2147483543, 2147483497,
            2147483489, 2147483477, 2147483423, 2147483399, 2147483353, 2147483323, 2147483269, 2147483249,
            2147483237, 2147483179, 2147483171, 2147483137, 2147483123, 2147483077, 2147483069, 2147483059,
            2147483053, 2147483033, 2147483029, 2147482951, 2147482949, 2147482943, 2147482937, 2147482921,
        };
        static final int MOST = 32;
        static final int PRIME_BITS = 31;

        int size;
        final long[] prime = new long[MOST];
        private final long[] weight = new long[MOST];

        void add(long number) {
            if (size >= MOST || number < 2) {
                return;
            }
            long product = 1;
            for (int i = 0; i < size; i++) {
                product = product * (prime[i] % number) % number;
            }
            prime[size] = number;
            weight[size] = inverse(product, number);
            size++;
        }

        void findDigits(long[] residue, long[] digit) {
            for (int i = 0; i < size; i++) {
                long lower = 0;
                for (int k = i - 1; k >= 0; k--) {
                    lower = (lower * prime[k] + digit[k]) % prime[i];
                }
                digit[i] = Math.floorMod(residue[i] - lower, prime[i]) * weight[i] % prime[i];
            }
        }

        /** Each division at least halves the remainder after the next, so 64 turns are more than enough. */
        static long inverse(long number, long modulus) {
            if (modulus < 2) {
                return 0;
            }
            long rest = modulus;
            long next = Math.floorMod(number, modulus);
            long factor = 0;
            long nextFactor = 1;
            for (int turn = 0; turn < 64 && next != 0; turn++) {
                long quotient = rest / next;
                long newRest = rest - quotient * next;
                long newFactor = factor - quotient * nextFactor;
                rest = next;
                next = newRest;
                factor = nextFactor;
                nextFactor = newFactor;
            }
            return Math.floorMod(factor, modulus);
        }

        static int bitLength(long value) {
            int bits = 0;
            for (int i = 0; i < 64 && value >> i > 0; i++) {
                bits++;
            }
            return bits;
        }
    }

    /** A quotient of two whole numbers, both known only by what primes leave of them, told in thousandths. */
    private static final class Fraction {
        final long[] above = new long[Radix.MOST];
        final long[] below = new long[Radix.MOST];
        boolean isExact;
        boolean isNegative;
        private final long[] digit = new long[Radix.MOST + 1];
        private final long[] divisor = new long[Radix.MOST];

        void readBelow(Radix radix) {
            radix.findDigits(below, divisor);
        }

        int bitsBelow(Radix radix) {
            int bits = 0;
            for (int i = 0; i < radix.size; i++) {
                if (divisor[i] != 0) {
                    bits = Radix.PRIME_BITS * i + Radix.bitLength(divisor[i]);
                }
            }
            return bits;
        }

        /** Rounds down; the amount counts up to a greatest one. The primes leave room for a sign. */
        int toThousandths(Radix radix, int greatest) {
            isNegative = false;
            isExact = true;
            if (radix.size < 1) {
                return 0;
            }
            radix.findDigits(above, digit);
            int last = radix.size - 1;
            isNegative = digit[last] > radix.prime[last] / 2;
            if (isNegative) {
                for (int i = 0; i < radix.size; i++) {
                    above[i] = Math.floorMod(-above[i], radix.prime[i]);
                }
                radix.findDigits(above, digit);
            }
            scale(radix);
            int amount = quotient(radix, greatest);
            isExact = compare(radix, amount) == 0;
            if (isNegative) {
                return isExact ? -amount : -amount - 1;
            }
            return amount;
        }

        private void scale(Radix radix) {
            long carry = 0;
            for (int i = 0; i < radix.size; i++) {
                long value = digit[i] * 1000 + carry;
                digit[i] = value % radix.prime[i];
                carry = value / radix.prime[i];
            }
            digit[radix.size] = carry;
        }

        private int quotient(Radix radix, int greatest) {
            int low = 0;
            int high = greatest;
            for (int turn = 0; turn < 32 && low < high; turn++) {
                int middle = (low + high + 1) / 2;
                if (compare(radix, middle) <= 0) {
                    low = middle;
                } else {
                    high = middle - 1;
                }
            }
            return low;
        }

        /** Answers -1, 0 or 1 as so many times the divisor is less than, equal to or more than the scaled number. */
        private int compare(Radix radix, int times) {
            int order = 0;
            long carry = 0;
            for (int i = 0; i < radix.size; i++) {
                long value = divisor[i] * times + carry;
                long left = value % radix.prime[i];
                carry = value / radix.prime[i];
                if (left != digit[i]) {
                    order = left < digit[i] ? -1 : 1;
                }
            }
            if (carry != digit[radix.size]) {
                order = carry < digit[radix.size] ? -1 : 1;
            }
            return order;
        }
    }

    /**
     * Pressures and flows. Times their common divisor, the determinant of the net's conductances times all
     * resistances, each is a whole number of less than 72 bits.
     */
    private static final class Air {
        private static final int PRIMES_TO_TELL = 3;
        private static final int MOST_TOLD = 1000000;

        final Radix radix = new Radix();
        final long[] divisor = new long[Radix.MOST];
        final long[][] flowTimes = new long[Radix.MOST][MOST_ROADS];
        final int[] flowTold = new int[MOST_ROADS];
        final int[] flowSign = new int[MOST_ROADS];
        final int[] pressureTold = new int[MOST_JUNCTIONS];
        int divisorBits;
        private final long[][] pressureTimes = new long[Radix.MOST][MOST_JUNCTIONS];
        private final Groups groups = new Groups();
        private final Equations equations = new Equations();
        private final Fraction fraction = new Fraction();
        private final int[] equationOf = new int[MOST_JUNCTIONS];
        private final int[] fixed = new int[MOST_JUNCTIONS];
        private final long[] conductance = new long[MOST_ROADS];
        private int unknowns;
        private int tried;

        void find(Net net) {
            findUnknowns(net);
            radix.size = 0;
            tried = 0;
            if (reach(net, PRIMES_TO_TELL)) {
                tell(net);
            }
        }

        /** Goes on until so many primes serve; one that divides the determinant does not. */
        boolean reach(Net net, int primes) {
            for (int i = tried; i < Radix.PRIMES.length && radix.size < primes; i++) {
                long common = solveModulo(net, Radix.PRIMES[i]);
                if (common != 0) {
                    keep(net, Radix.PRIMES[i], common);
                    radix.add(Radix.PRIMES[i]);
                }
                tried = i + 1;
            }
            return radix.size >= primes;
        }

        /** The sums are whole numbers far smaller than the product of the primes. */
        boolean isBalanced(Net net) {
            for (int j = 0; j < net.junctions; j++) {
                for (int k = 0; k < PRIMES_TO_TELL && k < radix.size; k++) {
                    long sum = 0;
                    for (int r = 0; r < net.roads; r++) {
                        if (net.first[r] == j) {
                            sum -= flowTimes[k][r];
                        } else if (net.second[r] == j) {
                            sum += flowTimes[k][r];
                        }
                    }
                    if (!net.surface[j] && sum % radix.prime[k] != 0) {
                        return false;
                    }
                }
            }
            return true;
        }

        private void findUnknowns(Net net) {
            for (int r = 0; r < net.roads; r++) {
                groups.chosen[r] = net.carriesAir(r);
            }
            groups.gather(net);
            unknowns = 0;
            for (int j = 0; j < net.junctions; j++) {
                boolean isLowestInside = groups.lowest[j] == j && !groups.reachesSurface(j);
                fixed[j] = net.surface[j] ? net.draught[j] : 0;
                equationOf[j] = -1;
                if (!net.surface[j] && !isLowestInside) {
                    equationOf[j] = unknowns;
                    unknowns++;
                }
            }
        }

        /** Answers what the prime leaves of the common divisor, 0 if the prime does not serve. */
        private long solveModulo(Net net, long prime) {
            if (prime < 2 || radix.size >= Radix.MOST) {
                return 0;
            }
            equations.begin(unknowns, prime);
            long resistances = 1;
            for (int r = 0; r < net.roads; r++) {
                conductance[r] = 0;
                if (net.carriesAir(r)) {
                    conductance[r] = Radix.inverse(net.resistance[r], prime);
                    resistances = resistances * net.resistance[r] % prime;
                    balance(r, net.first[r], net.second[r], net.fanPressure(r));
                    balance(r, net.second[r], net.first[r], -net.fanPressure(r));
                }
            }
            return equations.solve(unknowns) * resistances % prime;
        }

        /** Adds to the balance of a junction what goes out of it by a road. */
        private void balance(int road, int junction, int other, int push) {
            int equation = equationOf[junction];
            if (equation < 0) {
                return;
            }
            long by = conductance[road];
            equations.add(equation, equation, by);
            equations.add(equation, unknowns, -by * push);
            if (equationOf[other] >= 0) {
                equations.add(equation, equationOf[other], -by);
            } else {
                equations.add(equation, unknowns, by * fixed[other]);
            }
        }

        private void keep(Net net, long prime, long common) {
            int slot = radix.size;
            long[] pressures = pressureTimes[slot];
            for (int j = 0; j < net.junctions; j++) {
                int equation = equationOf[j];
                long value = equation < 0 ? Math.floorMod((long) fixed[j], prime) : equations.row[equation][unknowns];
                pressures[j] = value * common % prime;
            }
            for (int r = 0; r < net.roads; r++) {
                long drop = pressures[net.first[r]] - pressures[net.second[r]] + net.fanPressure(r) * common;
                flowTimes[slot][r] = Math.floorMod(drop, prime) * conductance[r] % prime;
            }
            divisor[slot] = common;
        }

        private void tell(Net net) {
            for (int k = 0; k < radix.size; k++) {
                fraction.below[k] = divisor[k];
            }
            fraction.readBelow(radix);
            divisorBits = fraction.bitsBelow(radix);
            for (int j = 0; j < net.junctions; j++) {
                for (int k = 0; k < radix.size; k++) {
                    fraction.above[k] = pressureTimes[k][j];
                }
                pressureTold[j] = fraction.toThousandths(radix, MOST_TOLD);
            }
            for (int r = 0; r < net.roads; r++) {
                for (int k = 0; k < radix.size; k++) {
                    fraction.above[k] = flowTimes[k][r];
                }
                flowTold[r] = fraction.toThousandths(radix, MOST_TOLD);
                boolean isZero = flowTold[r] == 0 && fraction.isExact;
                flowSign[r] = isZero ? 0 : fraction.isNegative ? -1 : 1;
            }
        }
    }

    /** Gas, exact: what is told of each junction, and whether it has more than that. */
    private static final class Gas {
        private static final int MOST_SOURCE = 20;

        final int[] thousandths = new int[MOST_JUNCTIONS];
        final boolean[] full = new boolean[MOST_JUNCTIONS];
        private final boolean[] isMore = new boolean[MOST_JUNCTIONS];
        private final boolean[] carries = new boolean[MOST_JUNCTIONS];
        private final int[] equationOf = new int[MOST_JUNCTIONS];
        private final int[] from = new int[MOST_ROADS];
        private final int[] to = new int[MOST_ROADS];
        private final Groups groups = new Groups();
        private final Equations equations = new Equations();
        private final Radix radix = new Radix();
        private final Fraction fraction = new Fraction();
        private final long[][] gasTimes = new long[Radix.MOST][MOST_JUNCTIONS];
        private int unknowns;

        void find(Net net, Air air) {
            findWays(net, air);
            findFull(net);
            findCarriers(net);
            if (unknowns == 0) {
                return;
            }
            int wanted = primesFor(net, air);
            radix.size = 0;
            for (int k = 0; k < Radix.MOST && radix.size < wanted; k++) {
                if (air.reach(net, k + 1)) {
                    solveModulo(net, air, k);
                }
            }
            tell(net);
        }

        boolean isAtMost(int junction, int limit) {
            if (full[junction] || thousandths[junction] > limit) {
                return false;
            }
            return thousandths[junction] < limit || !isMore[junction];
        }

        /** Roads without a flow lead from nowhere. */
        private void findWays(Net net, Air air) {
            for (int r = 0; r < net.roads; r++) {
                int sign = air.flowSign[r];
                groups.chosen[r] = sign != 0;
                from[r] = sign > 0 ? net.first[r] : sign < 0 ? net.second[r] : -1;
                to[r] = sign > 0 ? net.second[r] : sign < 0 ? net.first[r] : -1;
            }
            groups.gather(net);
        }

        private void findFull(Net net) {
            for (int j = 0; j < net.junctions; j++) {
                full[j] = false;
                for (int k = 0; k < net.junctions; k++) {
                    if (groups.lowest[k] == groups.lowest[j] && net.source[k] > 0) {
                        full[j] = !groups.reachesSurface(j);
                    }
                }
                thousandths[j] = full[j] ? MOST_GAS_TOLD : 0;
                isMore[j] = false;
            }
        }

        /** Only where gas comes is it unknown; it comes on by one road a turn at least. */
        private void findCarriers(Net net) {
            for (int j = 0; j < net.junctions; j++) {
                carries[j] = net.source[j] > 0 && !net.surface[j] && !full[j];
            }
            for (int turn = 0; turn < net.junctions; turn++) {
                for (int r = 0; r < net.roads; r++) {
                    if (from[r] >= 0 && to[r] >= 0 && carries[from[r]] && !net.surface[to[r]]) {
                        carries[to[r]] = true;
                    }
                }
            }
            unknowns = 0;
            for (int j = 0; j < net.junctions; j++) {
                equationOf[j] = -1;
                if (carries[j]) {
                    equationOf[j] = unknowns;
                    unknowns++;
                }
            }
        }

        /** No determinant is greater than the product of its diagonal; 30 bits at least are left for the sign. */
        private int primesFor(Net net, Air air) {
            int bits = Radix.bitLength(MOST_SOURCE * MOST_JUNCTIONS);
            for (int j = 0; j < net.junctions; j++) {
                if (carries[j]) {
                    long out = 0;
                    for (int r = 0; r < net.roads; r++) {
                        if (from[r] == j) {
                            out += Math.abs(air.flowTold[r]) / 1000 + 1;
                        }
                    }
                    bits += air.divisorBits + Radix.bitLength(out);
                }
            }
            return bits / (Radix.PRIME_BITS - 1) + 2;
        }

        private void solveModulo(Net net, Air air, int airSlot) {
            long prime = air.radix.prime[airSlot];
            if (prime < 2 || radix.size >= Radix.MOST) {
                return;
            }
            equations.begin(unknowns, prime);
            for (int r = 0; r < net.roads; r++) {
                if (from[r] >= 0 && to[r] >= 0 && equationOf[from[r]] >= 0) {
                    long amount = air.flowSign[r] * air.flowTimes[airSlot][r];
                    equations.add(equationOf[from[r]], equationOf[from[r]], amount);
                    if (equationOf[to[r]] >= 0) {
                        equations.add(equationOf[to[r]], equationOf[from[r]], -amount);
                    }
                }
            }
            for (int j = 0; j < net.junctions; j++) {
                if (equationOf[j] >= 0) {
                    equations.add(equationOf[j], unknowns, net.source[j] * air.divisor[airSlot]);
                }
            }
            long determinant = equations.solve(unknowns);
            if (determinant != 0) {
                for (int i = 0; i < unknowns; i++) {
                    gasTimes[radix.size][i] = equations.row[i][unknowns] * determinant % prime;
                }
                fraction.below[radix.size] = determinant;
                radix.add(prime);
            }
        }

        private void tell(Net net) {
            fraction.readBelow(radix);
            for (int j = 0; j < net.junctions; j++) {
                if (equationOf[j] >= 0) {
                    for (int k = 0; k < radix.size; k++) {
                        fraction.above[k] = gasTimes[k][equationOf[j]];
                    }
                    thousandths[j] = fraction.toThousandths(radix, MOST_GAS_TOLD);
                    isMore[j] = !fraction.isExact;
                }
            }
        }
    }

    /** Sensors, by the numbers of their junctions. */
    private static final class Sensors {
        final boolean[] present = new boolean[MOST_JUNCTIONS];
        final int[] drift = new int[MOST_JUNCTIONS];
        final int[] rightAt = new int[MOST_JUNCTIONS];

        boolean put(int junction, int driftEachShift, int shiftsNow) {
            boolean isNew = !present[junction];
            present[junction] = true;
            drift[junction] = driftEachShift;
            rightAt[junction] = shiftsNow;
            return isNew;
        }

        int read(int junction, int gasTold, int shiftsNow) {
            return Math.max(0, gasTold + drift[junction] * (shiftsNow - rightAt[junction]));
        }
    }

    /** Ways to the surface, for people over good junctions and for ore over any. */
    private static final class Escape {
        private static final int START = MOST_ROADS;

        private final Groups groups = new Groups();
        private final int[] used = new int[MOST_ROADS];
        private final int[] cameBy = new int[MOST_JUNCTIONS];
        private final int[] line = new int[MOST_JUNCTIONS];

        boolean canHaul(Net net, int junction) {
            for (int r = 0; r < net.roads; r++) {
                groups.chosen[r] = !net.blocked[r];
            }
            groups.gather(net);
            return groups.reachesSurface(junction);
        }

        /** There are two ways without a common road just if no one road lies on all ways. */
        boolean isSafeWithoutAnyRoad(Net net, boolean[] good, int junction) {
            if (net.surface[junction]) {
                return true;
            }
            if (!good[junction]) {
                return false;
            }
            for (int out = -1; out < net.roads; out++) {
                for (int r = 0; r < net.roads; r++) {
                    groups.chosen[r] = r != out && !net.blocked[r] && good[net.first[r]] && good[net.second[r]];
                }
                groups.gather(net);
                if (!groups.reachesSurface(junction)) {
                    return false;
                }
            }
            return true;
        }

        /** Counts ways one after the other; a later one may take back the use of a road by an earlier one. */
        int countWays(Net net, boolean[] good, int junction, int most) {
            if (!good[junction]) {
                return 0;
            }
            for (int r = 0; r < net.roads; r++) {
                used[r] = 0;
            }
            for (int found = 0; found < most; found++) {
                int end = search(net, good, junction);
                if (end < 0) {
                    return found;
                }
                useWay(net, end);
            }
            return most;
        }

        /** Answers the junction at the surface that is reached, or -1. */
        private int search(Net net, boolean[] good, int start) {
            for (int j = 0; j < net.junctions; j++) {
                cameBy[j] = -1;
            }
            cameBy[start] = START;
            line[0] = start;
            int waiting = 1;
            for (int i = 0; i < waiting; i++) {
                int here = line[i];
                if (net.surface[here]) {
                    return here;
                }
                for (int r = 0; r < net.roads; r++) {
                    int next = net.blocked[r] ? -1 : net.across(r, here);
                    if (next >= 0 && good[next] && cameBy[next] < 0 && used[r] != direction(net, r, here)
                            && waiting < MOST_JUNCTIONS) {
                        cameBy[next] = r;
                        line[waiting] = next;
                        waiting++;
                    }
                }
            }
            return -1;
        }

        private static int direction(Net net, int road, int here) {
            return net.first[road] == here ? 1 : -1;
        }

        private void useWay(Net net, int end) {
            int here = end;
            for (int turn = 0; turn < MOST_JUNCTIONS; turn++) {
                int road = cameBy[here];
                if (road < 0 || road >= net.roads) {
                    return;
                }
                int before = net.across(road, here);
                if (before < 0) {
                    return;
                }
                used[road] += direction(net, road, before);
                here = before;
            }
        }
    }

    /** Stopes with their neighbours, loads and piles. */
    private static final class Stopes {
        int count;
        final int[] junction = new int[MOST_STOPES];
        final int[] tons = new int[MOST_STOPES];
        final int[] grade = new int[MOST_STOPES];
        final int[] load = new int[MOST_STOPES];
        final char[] state = new char[MOST_STOPES];
        final int[] pile = new int[MOST_STOPES];
        final int[] delivered = new int[MOST_STOPES];
        private final int[] strength = new int[MOST_STOPES];
        private final int[] neighbours = new int[MOST_STOPES];

        boolean has(int number) {
            return number >= 0 && number < count;
        }

        int put(int where, int ore, int oreGrade, int bearing) {
            if (count >= MOST_STOPES) {
                return -1;
            }
            junction[count] = where;
            tons[count] = ore;
            grade[count] = oreGrade;
            strength[count] = bearing;
            load[count] = 10;
            state[count] = 'o';
            count++;
            return count - 1;
        }

        boolean makeNeighbours(int stope, int other) {
            if (areNeighbours(stope, other)) {
                return false;
            }
            neighbours[stope] |= 1 << other;
            neighbours[other] |= 1 << stope;
            return true;
        }

        boolean hasOre(int stope) {
            return state[stope] == 'o';
        }

        boolean isEmpty(int stope) {
            return state[stope] == 'e' || state[stope] == 'x';
        }

        int tonsOnPiles() {
            int sum = 0;
            for (int i = 0; i < count; i++) {
                sum += pile[i];
            }
            return sum;
        }

        void take(int stope, int ore) {
            tons[stope] -= ore;
            pile[stope] += ore;
            if (tons[stope] == 0) {
                state[stope] = 'e';
                passLoadOn(stope);
            }
        }

        /** Its strength is asked of a stope with ore alone, so a filled one needs none. */
        void fill(int stope) {
            state[stope] = 'c';
        }

        void setFillings() {
            for (int i = 0; i < count; i++) {
                if (state[i] == 'c') {
                    state[i] = 's';
                }
            }
        }

        int firstOverloaded() {
            for (int i = 0; i < count; i++) {
                if (hasOre(i) && load[i] > strength[i]) {
                    return i;
                }
            }
            return -1;
        }

        void ruin(int stope) {
            tons[stope] = 0;
            state[stope] = 'x';
            passLoadOn(stope);
        }

        /** Takes over what a step can change; nothing is added during a step. */
        void copyFrom(Stopes other) {
            for (int i = 0; i < MOST_STOPES; i++) {
                tons[i] = other.tons[i];
                load[i] = other.load[i];
                state[i] = other.state[i];
                pile[i] = other.pile[i];
            }
        }

        private boolean areNeighbours(int stope, int other) {
            return (neighbours[stope] >> other & 1) == 1;
        }

        private boolean bears(int stope, int other) {
            return areNeighbours(stope, other) && (hasOre(other) || state[other] == 's');
        }

        private void passLoadOn(int stope) {
            int bearers = 0;
            for (int i = 0; i < count; i++) {
                bearers += bears(stope, i) ? 1 : 0;
            }
            if (bearers > 0) {
                int share = load[stope] / bearers;
                int left = load[stope] % bearers;
                for (int i = 0; i < count; i++) {
                    if (bears(stope, i)) {
                        load[i] += left > 0 ? share + 1 : share;
                        left--;
                    }
                }
            }
            load[stope] = 0;
        }
    }

    /**
     * Chooses the tons of a delivery. For the piles below a number and some tons, a row of bits tells which sums
     * of grades these tons can have.
     */
    private static final class Blend {
        static final int MOST_TONS = 20;
        private static final int MOST_GRADE = 999;
        private static final int WORD = 64;

        final int[] taken = new int[MOST_STOPES];
        private final int[] rowStart = new int[MOST_TONS + 2];
        private final int layerSize;
        private final long[] bits;
        private int lowest;
        private int highest;
        private int penalty;

        Blend() {
            int size = 0;
            for (int t = 0; t <= MOST_TONS; t++) {
                rowStart[t] = size;
                size += t * MOST_GRADE / WORD + 1;
            }
            rowStart[MOST_TONS + 1] = size;
            layerSize = size;
            bits = new long[(MOST_STOPES + 1) * size];
        }

        /** The contract is told for the sum of the grades of all tons; the penalty is what this is off it. */
        int choose(Stopes stopes, int tons, int lowestSum, int highestSum) {
            lowest = lowestSum;
            highest = highestSum;
            mark(stopes, tons);
            findPenalty(stopes.count, tons);
            int left = tons;
            int sum = 0;
            for (int i = stopes.count - 1; i >= 0; i--) {
                taken[i] = fewest(stopes, i, left, sum);
                left -= taken[i];
                sum += taken[i] * stopes.grade[i];
            }
            return penalty;
        }

        private void mark(Stopes stopes, int tons) {
            for (int i = 0; i <= stopes.count; i++) {
                for (int w = 0; w < rowStart[tons + 1]; w++) {
                    bits[i * layerSize + w] = 0;
                }
            }
            bits[0] = 1;
            for (int i = 0; i < stopes.count; i++) {
                for (int t = 0; t <= tons; t++) {
                    for (int x = 0; x <= t && x <= stopes.pile[i]; x++) {
                        addRow(i, t - x, t, x * stopes.grade[i]);
                    }
                }
            }
        }

        /** Adds the sums of fewer tons, moved by the grades of those from the next pile, to those of the tons. */
        private void addRow(int layer, int fewer, int tons, int sum) {
            int start = layer * layerSize + rowStart[fewer];
            int end = layer * layerSize + rowStart[fewer + 1];
            int target = (layer + 1) * layerSize + rowStart[tons] + sum / WORD;
            int targetEnd = (layer + 1) * layerSize + rowStart[tons + 1];
            int move = sum % WORD;
            for (int w = start; w < end; w++) {
                int to = target + w - start;
                if (bits[w] != 0 && to < targetEnd) {
                    bits[to] |= bits[w] << move;
                    if (move > 0 && to + 1 < targetEnd) {
                        bits[to + 1] |= bits[w] >>> WORD - move;
                    }
                }
            }
        }

        private void findPenalty(int layer, int tons) {
            boolean isFound = false;
            for (int amount = 0; amount <= tons * MOST_GRADE && !isFound; amount++) {
                penalty = amount;
                isFound = isReached(layer, tons, 0);
            }
        }

        private int fewest(Stopes stopes, int stope, int left, int sum) {
            for (int x = 0; x < left && x < stopes.pile[stope]; x++) {
                if (isReached(stope, left - x, sum + x * stopes.grade[stope])) {
                    return x;
                }
            }
            return Math.min(left, stopes.pile[stope]);
        }

        /** Whether the piles below can give so many tons that all, with the sum so far, have the penalty. */
        private boolean isReached(int layer, int tons, int sum) {
            if (penalty == 0) {
                return hasSumWithin(layer, tons, lowest - sum, highest - sum);
            }
            return hasSum(layer, tons, lowest - penalty - sum) || hasSum(layer, tons, highest + penalty - sum);
        }

        private boolean hasSum(int layer, int tons, int sum) {
            if (sum < 0 || sum > tons * MOST_GRADE) {
                return false;
            }
            return (bits[layer * layerSize + rowStart[tons] + sum / WORD] >>> sum % WORD & 1) == 1;
        }

        private boolean hasSumWithin(int layer, int tons, int from, int to) {
            int start = layer * layerSize + rowStart[tons];
            int last = Math.min(to, tons * MOST_GRADE);
            int sum = Math.max(from, 0);
            while (sum <= last) {
                if (bits[start + sum / WORD] == 0) {
                    sum += WORD - sum % WORD;
                } else if (hasSum(layer, tons, sum)) {
                    return true;
                } else {
                    sum++;
                }
            }
            return false;
        }
    }
}
