import java.math.BigInteger;
import java.util.ArrayList;
import java.util.List;
import java.util.NoSuchElementException;

/** The document once more, as slow and plain as it can be said: fractions of BigIntegers, and trying all there is. */
final class Model {
    /** An exact fraction. */
    static final class Q {
        static final Q ZERO = new Q(BigInteger.ZERO, BigInteger.ONE);
        final BigInteger n;
        final BigInteger d;

        Q(BigInteger n, BigInteger d) {
            BigInteger g = n.gcd(d);
            if (d.signum() < 0) g = g.negate();
            this.n = n.divide(g);
            this.d = d.divide(g);
        }

        static Q of(long n) { return new Q(BigInteger.valueOf(n), BigInteger.ONE); }
        Q plus(Q o) { return new Q(n.multiply(o.d).add(o.n.multiply(d)), d.multiply(o.d)); }
        Q minus(Q o) { return plus(new Q(o.n.negate(), o.d)); }
        Q times(Q o) { return new Q(n.multiply(o.n), d.multiply(o.d)); }
        Q over(Q o) { return new Q(n.multiply(o.d), d.multiply(o.n)); }
        Q abs() { return new Q(n.abs(), d); }
        int signum() { return n.signum(); }
        int compare(Q o) { return minus(o).signum(); }

        BigInteger floorThousandths() {
            BigInteger[] qr = n.multiply(BigInteger.valueOf(1000)).divideAndRemainder(d);
            return qr[1].signum() < 0 ? qr[0].subtract(BigInteger.ONE) : qr[0];
        }
    }

    static final class J { boolean surface; int draught; int source; boolean sensor; int drift; int since; boolean power = true; }
    static final class R { int a; int b; int r; boolean door; boolean closed; boolean blocked; int fan; }
    static final class S { int at; int tons; int grade; int strength; int load = 10; char state = 'o'; int pile; int delivered; }

    List<J> js = new ArrayList<>();
    List<R> rs = new ArrayList<>();
    List<S> ss = new ArrayList<>();
    boolean[][] near = new boolean[8][8];
    List<Integer> at = new ArrayList<>();
    int limit = 100;
    int shifts;
    int refused;
    int by = -1;
    long penalties;

    Q[] p;
    Q[] f;
    Q[] g;
    boolean[] full;
    boolean known;

    void j(int i) { if (i < 0 || i >= js.size()) throw new IndexOutOfBoundsException(); }
    void r(int i) { if (i < 0 || i >= rs.size()) throw new IndexOutOfBoundsException(); }
    void s(int i) { if (i < 0 || i >= ss.size()) throw new IndexOutOfBoundsException(); }
    void who(int i) { if (i < 0 || i >= at.size()) throw new IndexOutOfBoundsException(); }
    static void in(int v, int lo, int hi) { if (v < lo || v > hi) throw new IllegalArgumentException(); }

    int addJunction(boolean isSurface, int draught) {
        if (isSurface) in(draught, -50, 50);
        if (js.size() == 9) throw new IllegalStateException();
        J n = new J();
        n.surface = isSurface;
        n.draught = draught;
        js.add(n);
        known = false;
        return js.size() - 1;
    }

    int addRoad(int a, int b, int r, boolean door) {
        j(a);
        j(b);
        if (a == b) throw new IllegalArgumentException();
        in(r, 1, 20);
        if (rs.size() == 14) throw new IllegalStateException();
        R n = new R();
        n.a = a;
        n.b = b;
        n.r = r;
        n.door = door;
        rs.add(n);
        known = false;
        return rs.size() - 1;
    }

    int addStope(int junction, int tons, int grade, int strength) {
        j(junction);
        if (js.get(junction).surface) throw new IllegalArgumentException();
        in(tons, 1, 60);
        in(grade, 0, 999);
        in(strength, 10, 99);
        if (ss.size() == 8) throw new IllegalStateException();
        S n = new S();
        n.at = junction;
        n.tons = tons;
        n.grade = grade;
        n.strength = strength;
        ss.add(n);
        return ss.size() - 1;
    }

    boolean join(int a, int b) {
        s(a);
        s(b);
        if (a == b) throw new IllegalArgumentException();
        boolean was = near[a][b];
        near[a][b] = true;
        near[b][a] = true;
        return !was;
    }

    int setLimit(int l) {
        in(l, 0, 9998);
        int was = limit;
        limit = l;
        return was;
    }

    boolean setSensor(int i, int drift) {
        j(i);
        in(drift, -50, 50);
        J n = js.get(i);
        boolean was = n.sensor;
        n.sensor = true;
        n.drift = drift;
        n.since = shifts;
        return !was;
    }

    int reading(int i) {
        j(i);
        J n = js.get(i);
        if (!n.sensor) throw new NoSuchElementException();
        int v = gas(i) + n.drift * (shifts - n.since);
        return v < 0 ? 0 : v;
    }

    int setRight(int i) {
        int v = reading(i);
        js.get(i).since = shifts;
        return v;
    }

    int shift() {
        shifts++;
        boolean[] on = new boolean[js.size()];
        for (int i = 0; i < on.length; i++) on[i] = !js.get(i).sensor || reading(i) <= limit;
        for (int i = 0; i < on.length; i++) js.get(i).power = on[i];
        for (S n : ss) if (n.state == 'c') n.state = 's';
        known = false;
        return shifts;
    }

    /** Solves by elimination over fractions; the matrix holds the right side in its last column. */
    static Q[] solve(Q[][] m) {
        int n = m.length;
        for (int k = 0; k < n; k++) {
            int pivot = k;
            while (m[pivot][k].signum() == 0) pivot++;
            Q[] t = m[k];
            m[k] = m[pivot];
            m[pivot] = t;
            for (int i = 0; i < n; i++) {
                if (i == k || m[i][k].signum() == 0) continue;
                Q times = m[i][k].over(m[k][k]);
                for (int c = k; c <= n; c++) m[i][c] = m[i][c].minus(times.times(m[k][c]));
            }
        }
        Q[] x = new Q[n];
        for (int i = 0; i < n; i++) x[i] = m[i][n].over(m[i][i]);
        return x;
    }

    boolean[] together(int start, boolean[] by) {
        boolean[] in = new boolean[js.size()];
        in[start] = true;
        for (boolean more = true; more; ) {
            more = false;
            for (int i = 0; i < rs.size(); i++) {
                R n = rs.get(i);
                if (by[i] && in[n.a] != in[n.b]) {
                    in[n.a] = true;
                    in[n.b] = true;
                    more = true;
                }
            }
        }
        return in;
    }

    boolean anySurface(boolean[] in) {
        for (int i = 0; i < in.length; i++) if (in[i] && js.get(i).surface) return true;
        return false;
    }

    void know() {
        if (known) return;
        known = true;
        int n = js.size();
        boolean[] open = new boolean[rs.size()];
        for (int i = 0; i < open.length; i++) open[i] = !rs.get(i).blocked && !rs.get(i).closed;
        Q[][] m = new Q[n][n + 1];
        for (Q[] row : m) java.util.Arrays.fill(row, Q.ZERO);
        for (int i = 0; i < n; i++) {
            boolean[] in = together(i, open);
            int low = 0;
            while (!in[low]) low++;
            if (js.get(i).surface || !anySurface(in) && low == i) {
                m[i][i] = Q.of(1);
                m[i][n] = Q.of(js.get(i).surface ? js.get(i).draught : 0);
                continue;
            }
            for (int k = 0; k < rs.size(); k++) {
                R road = rs.get(k);
                if (!open[k] || road.a != i && road.b != i) continue;
                Q c = Q.of(1).over(Q.of(road.r));
                int fan = js.get(road.a).power ? road.fan : 0;
                int other = road.a == i ? road.b : road.a;
                m[i][i] = m[i][i].plus(c);
                m[i][other] = m[i][other].minus(c);
                m[i][n] = m[i][n].plus(c.times(Q.of(road.a == i ? -fan : fan)));
            }
        }
        p = solve(m);
        f = new Q[rs.size()];
        for (int k = 0; k < f.length; k++) {
            R road = rs.get(k);
            int fan = js.get(road.a).power ? road.fan : 0;
            f[k] = open[k] ? p[road.a].minus(p[road.b]).plus(Q.of(fan)).over(Q.of(road.r)) : Q.ZERO;
        }
        knowGas();
    }

    void knowGas() {
        int n = js.size();
        boolean[] blows = new boolean[rs.size()];
        for (int k = 0; k < blows.length; k++) blows[k] = f[k].signum() != 0;
        full = new boolean[n];
        Q[][] m = new Q[n][n + 1];
        for (Q[] row : m) java.util.Arrays.fill(row, Q.ZERO);
        for (int i = 0; i < n; i++) {
            boolean[] in = together(i, blows);
            boolean source = false;
            for (int k = 0; k < n; k++) source |= in[k] && js.get(k).source > 0;
            if (!anySurface(in)) full[i] = source;
            if (js.get(i).surface || !anySurface(in)) {
                m[i][i] = Q.of(1);
                continue;
            }
            m[i][n] = Q.of(js.get(i).source);
            for (int k = 0; k < rs.size(); k++) {
                R road = rs.get(k);
                if (!blows[k] || road.a != i && road.b != i) continue;
                boolean goesOut = (road.a == i) == (f[k].signum() > 0);
                int other = road.a == i ? road.b : road.a;
                if (goesOut) m[i][i] = m[i][i].plus(f[k].abs());
                else m[i][other] = m[i][other].minus(f[k].abs());
            }
        }
        g = solve(m);
    }

    int flow(int i) {
        r(i);
        know();
        return f[i].floorThousandths().intValueExact();
    }

    int pressure(int i) {
        j(i);
        know();
        return p[i].floorThousandths().intValueExact();
    }

    int gas(int i) {
        j(i);
        know();
        return full[i] ? 9999 : g[i].floorThousandths().min(BigInteger.valueOf(9999)).intValueExact();
    }

    boolean isFull(int i) {
        j(i);
        know();
        return full[i];
    }

    boolean isGood(int i) {
        j(i);
        know();
        return js.get(i).surface || !full[i] && g[i].times(Q.of(1000)).compare(Q.of(limit)) <= 0;
    }

    boolean hasPower(int i) {
        j(i);
        return js.get(i).power;
    }

    /** By Menger: as many ways as the fewest roads without which there is none. */
    int ways(int i, int most) {
        j(i);
        if (js.get(i).surface) return 99;
        if (!isGood(i)) return 0;
        int n = rs.size();
        boolean[] good = new boolean[n];
        for (int k = 0; k < n; k++) good[k] = !rs.get(k).blocked && isGood(rs.get(k).a) && isGood(rs.get(k).b);
        int fewest = most;
        for (int cut = 0; cut < 1 << n; cut++) {
            if (Integer.bitCount(cut) >= fewest) continue;
            boolean[] left = new boolean[n];
            for (int k = 0; k < n; k++) left[k] = good[k] && (cut >> k & 1) == 0;
            if (!anySurface(together(i, left))) fewest = Integer.bitCount(cut);
        }
        return fewest;
    }

    boolean safeAt(int i) { return ways(i, 2) >= 2; }

    int come(int i) {
        j(i);
        if (!safeAt(i)) throw new UnsupportedOperationException();
        if (at.size() == 12) throw new IllegalStateException();
        at.add(i);
        return at.size() - 1;
    }

    boolean walk(int person, int road) {
        who(person);
        r(road);
        R n = rs.get(road);
        int here = at.get(person);
        if (n.a != here && n.b != here) throw new UnsupportedOperationException();
        int there = n.a == here ? n.b : n.a;
        if (n.blocked || !isGood(there)) throw new UnsupportedOperationException();
        at.set(person, there);
        return safeAt(there);
    }

    int whereIs(int i) {
        who(i);
        return at.get(i);
    }

    boolean isSafe(int i) {
        who(i);
        return safeAt(at.get(i));
    }

    char step(char kind, int number, int value) {
        if ("dfbsnoc".indexOf(kind) < 0) throw new IllegalArgumentException();
        if (kind == 'd' || kind == 'b') in(value, 0, 1);
        if (kind == 'f' || kind == 'n') in(value, -50, 50);
        if (kind == 's') in(value, 0, 20);
        if (kind == 'o') in(value, 1, 60);
        if (kind == 'd' || kind == 'b' || kind == 'f') r(number);
        else if (kind == 's' || kind == 'n') j(number);
        else s(number);
        if (kind == 'd' && !rs.get(number).door) throw new UnsupportedOperationException();
        if (kind == 'n' && !js.get(number).surface) throw new UnsupportedOperationException();
        if (kind == 'o' && (ss.get(number).tons < value || !hauls(ss.get(number).at))) throw new UnsupportedOperationException();
        if (kind == 'c' && ss.get(number).state != 'e' && ss.get(number).state != 'x') throw new UnsupportedOperationException();
        int[][] before = remember();
        change(kind, number, value);
        known = false;
        by = -1;
        for (int i = 0; i < at.size() && by < 0; i++) if (!isSafe(i)) by = i;
        if (by < 0) return '.';
        char why = isGood(at.get(by)) ? 'w' : 'g';
        bringBack(before);
        known = false;
        refused++;
        return why;
    }

    boolean hauls(int i) {
        boolean[] open = new boolean[rs.size()];
        for (int k = 0; k < open.length; k++) open[k] = !rs.get(k).blocked;
        return anySurface(together(i, open));
    }

    int[][] remember() {
        List<int[]> all = new ArrayList<>();
        for (J n : js) all.add(new int[] {n.draught, n.source});
        for (R n : rs) all.add(new int[] {n.closed ? 1 : 0, n.blocked ? 1 : 0, n.fan});
        for (S n : ss) all.add(new int[] {n.tons, n.load, n.state, n.pile});
        return all.toArray(new int[0][]);
    }

    void bringBack(int[][] all) {
        int k = 0;
        for (J n : js) {
            n.draught = all[k][0];
            n.source = all[k++][1];
        }
        for (R n : rs) {
            n.closed = all[k][0] == 1;
            n.blocked = all[k][1] == 1;
            n.fan = all[k++][2];
        }
        for (S n : ss) {
            n.tons = all[k][0];
            n.load = all[k][1];
            n.state = (char) all[k][2];
            n.pile = all[k++][3];
        }
    }

    void change(char kind, int number, int value) {
        switch (kind) {
            case 'd': rs.get(number).closed = value == 1; break;
            case 'b': rs.get(number).blocked = value == 1; break;
            case 'f': rs.get(number).fan = value; break;
            case 's': js.get(number).source = value; break;
            case 'n': js.get(number).draught = value; break;
            case 'c': ss.get(number).state = 'c'; break;
            default: mine(number, value);
        }
    }

    void mine(int number, int value) {
        S n = ss.get(number);
        n.tons -= value;
        n.pile += value;
        if (n.tons == 0) {
            n.state = 'e';
            handOn(number);
        }
        for (int i = 0; i < ss.size(); ) {
            S c = ss.get(i);
            if (c.state == 'o' && c.load > c.strength) {
                c.tons = 0;
                c.state = 'x';
                handOn(i);
                for (R road : rs) road.blocked |= road.a == c.at || road.b == c.at;
                i = 0;
            } else {
                i++;
            }
        }
    }

    void handOn(int number) {
        List<S> to = new ArrayList<>();
        for (int i = 0; i < ss.size(); i++) {
            char st = ss.get(i).state;
            if (near[number][i] && (st == 'o' || st == 's')) to.add(ss.get(i));
        }
        int load = ss.get(number).load;
        ss.get(number).load = 0;
        for (int i = 0; i < to.size(); i++) to.get(i).load += load / to.size() + (i < load % to.size() ? 1 : 0);
    }

    int refusedBy() {
        if (by < 0) throw new NoSuchElementException();
        return by;
    }

    int tons(int i) { s(i); return ss.get(i).tons; }
    int load(int i) { s(i); return ss.get(i).load; }
    char stateOf(int i) { s(i); return ss.get(i).state; }
    int pile(int i) { s(i); return ss.get(i).pile; }
    int delivered(int i) { s(i); return ss.get(i).delivered; }
    boolean isBlocked(int i) { r(i); return rs.get(i).blocked; }

    private int best;
    private int[] bestTaken;

    int deliver(int tons, int least, int greatest) {
        in(tons, 1, 20);
        if (least < 0 || least > greatest || greatest > 999) throw new IllegalArgumentException();
        int sum = 0;
        for (S n : ss) sum += n.pile;
        if (sum < tons) throw new UnsupportedOperationException();
        best = Integer.MAX_VALUE;
        tryAll(ss.size() - 1, tons, 0, new int[ss.size()], least * tons, greatest * tons);
        for (int i = 0; i < ss.size(); i++) {
            ss.get(i).pile -= bestTaken[i];
            ss.get(i).delivered = bestTaken[i];
        }
        penalties += best;
        return best;
    }

    /** The fewest tons from the highest pile come first, so the first best is the due one. */
    private void tryAll(int i, int left, int sum, int[] taken, int lo, int hi) {
        if (i < 0) {
            int penalty = Math.max(0, Math.max(lo - sum, sum - hi));
            if (left == 0 && penalty < best) {
                best = penalty;
                bestTaken = taken.clone();
            }
            return;
        }
        for (int x = 0; x <= left && x <= ss.get(i).pile; x++) {
            taken[i] = x;
            tryAll(i - 1, left - x, sum + x * ss.get(i).grade, taken, lo, hi);
        }
        taken[i] = 0;
    }

    float goodShare() {
        if (js.isEmpty()) throw new ArithmeticException();
        int n = 0;
        for (int i = 0; i < js.size(); i++) n += isGood(i) ? 1 : 0;
        return (float) n / (float) js.size();
    }

    double meanLoad() {
        int n = 0;
        int sum = 0;
        for (S s : ss) {
            if (s.state == 'o') {
                n++;
                sum += s.load;
            }
        }
        if (n == 0) throw new ArithmeticException();
        return (double) sum / (double) n;
    }
}
