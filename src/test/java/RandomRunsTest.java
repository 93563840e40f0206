import java.util.ArrayList;
import java.util.Collections;
import java.util.List;
import java.util.Random;
import java.util.function.Supplier;

/** Long runs of calls, ordinary and wrong ones, on the class and on the plain model: all answers are the same. */
public final class RandomRunsTest {
    private final Random random;
    private final Minestrata mine = new Minestrata();
    private final Model model = new Model();
    private final List<String> told = new ArrayList<>();
    private final int kind;
    private int wrong;
    static final java.util.Map<String, Integer> SEEN = new java.util.TreeMap<>();

    private RandomRunsTest(long seed, int kind) {
        random = new Random(seed);
        this.kind = kind;
    }

    private static String answer(Supplier<Object> call) {
        try {
            return String.valueOf(call.get());
        } catch (RuntimeException e) {
            return "throws " + e.getClass().getSimpleName();
        }
    }

    private void same(String call, Supplier<Object> got, Supplier<Object> due) {
        String g = answer(got);
        String d = answer(due);
        told.add(call + " -> " + d);
        String name = call.substring(0, call.indexOf('('));
        if (name.equals("step")) name = call.substring(0, 6);
        String key = name + (d.startsWith("throws") ? " " + d : d.matches("[a-z.]|true|false") ? " " + d : "");
        SEEN.merge(key, 1, Integer::sum);
        if (!g.equals(d)) {
            wrong++;
            System.out.println(call + " answered " + g + ", due is " + d);
        }
    }

    private int in(int least, int greatest) { return least + random.nextInt(greatest - least + 1); }
    private boolean once(int times) { return random.nextInt(times) == 0; }

    /** A number that is mostly one of so many, sometimes just beside them. */
    private int of(int many) { return once(40) ? (once(2) ? -1 : many) : many == 0 ? 0 : random.nextInt(many); }
    private int value(int least, int greatest) {
        if (once(40)) return once(2) ? least - 1 : greatest + 1;
        if (once(8)) return once(2) ? least : greatest;
        return in(least, greatest);
    }

    private void junction() {
        boolean s = kind == 3 ? !once(3) : kind == 7 ? model.js.isEmpty() : once(3);
        int d = kind == 2 ? (once(2) ? 0 : in(-50, 50)) : kind == 4 ? 0 : value(-50, 50);
        same("addJunction(" + s + ", " + d + ")", () -> mine.addJunction(s, d), () -> model.addJunction(s, d));
    }

    private void road() {
        int a = of(model.js.size());
        int b = of(model.js.size());
        int r = kind == 2 ? in(13, 20) : kind == 1 ? in(1, 2) : value(1, 20);
        boolean door = once(2);
        same("addRoad(" + a + ", " + b + ", " + r + ", " + door + ")", () -> mine.addRoad(a, b, r, door), () -> model.addRoad(a, b, r, door));
    }

    private void stope() {
        int j = of(model.js.size());
        int t = once(2) ? in(1, 8) : value(1, 60);
        int g = value(0, 999);
        int s = once(2) ? in(10, 20) : value(10, 99);
        same("addStope(" + j + ", " + t + ", " + g + ", " + s + ")", () -> mine.addStope(j, t, g, s), () -> model.addStope(j, t, g, s));
    }

    private void join() {
        int a = of(model.ss.size());
        int b = of(model.ss.size());
        same("join(" + a + ", " + b + ")", () -> mine.join(a, b), () -> model.join(a, b));
    }

    private void step() {
        char k = once(60) ? 'q' : "dfbsnocfs".charAt(random.nextInt(9));
        if (kind == 5) k = "oooocd".charAt(random.nextInt(6));
        int n = of(k == 'd' || k == 'f' || k == 'b' ? model.rs.size() : k == 's' || k == 'n' ? model.js.size() : model.ss.size());
        int v;
        if (k == 'd' || k == 'b') v = once(3) ? value(0, 1) : 0;
        else if (k == 'f' || k == 'n') v = kind == 4 && once(2) ? 0 : value(-50, 50);
        else if (k == 's') v = once(3) ? 0 : once(2) ? 1 : value(0, 20);
        else if (k == 'o') v = n >= 0 && n < model.ss.size() && once(2) && model.ss.get(n).tons > 0 ? model.ss.get(n).tons : once(3) ? value(1, 60) : in(1, 5);
        else v = in(-100, 100);
        char kk = k;
        same("step(" + k + ", " + n + ", " + v + ")", () -> mine.step(kk, n, v), () -> model.step(kk, n, v));
        same("refusedBy()", mine::refusedBy, model::refusedBy);
        same("refused()", mine::refused, () -> model.refused);
    }

    private void makeGas() {
        for (int i = 0; i < model.js.size(); i++) {
            int j = i;
            int v = once(2) ? 0 : in(1, 20);
            same("step(s, " + j + ", " + v + ")", () -> mine.step('s', j, v), () -> model.step('s', j, v));
        }
        for (int i = 0; i < model.rs.size(); i++) {
            int r = i;
            int v = in(-50, 50);
            same("step(f, " + r + ", " + v + ")", () -> mine.step('f', r, v), () -> model.step('f', r, v));
        }
        int l = in(0, 1500);
        same("setLimit(" + l + ")", () -> mine.setLimit(l), () -> model.setLimit(l));
    }

    private void person() {
        if (once(2) || model.at.isEmpty()) {
            int j = of(model.js.size());
            if (once(2) && model.at.size() > 2) return;
            same("come(" + j + ")", () -> mine.come(j), () -> model.come(j));
            return;
        }
        int p = of(model.at.size());
        int r = of(model.rs.size());
        same("walk(" + p + ", " + r + ")", () -> mine.walk(p, r), () -> model.walk(p, r));
        same("whereIs(" + p + ")", () -> mine.whereIs(p), () -> model.whereIs(p));
    }

    private void sensor() {
        int j = of(model.js.size());
        int d = value(-50, 50);
        int l = once(3) ? in(0, 9998) : value(0, 9998) / in(1, 300);
        if (once(3)) same("setSensor(" + j + ", " + d + ")", () -> mine.setSensor(j, d), () -> model.setSensor(j, d));
        else if (once(2)) same("setRight(" + j + ")", () -> mine.setRight(j), () -> model.setRight(j));
        else if (once(2)) same("setLimit(" + l + ")", () -> mine.setLimit(l), () -> model.setLimit(l));
        else same("shift()", mine::shift, model::shift);
    }

    /** Sets the limit to what is told of a junction, so that it decides whether there is a little more. */
    private void narrowLimit() {
        if (model.js.isEmpty()) return;
        int l = Math.max(0, Math.min(9998, model.gas(random.nextInt(model.js.size())) + in(-1, 1)));
        same("setLimit(" + l + ")", () -> mine.setLimit(l), () -> model.setLimit(l));
        look();
    }

    private void look() {
        for (int i = 0; i < model.js.size(); i++) {
            int j = i;
            same("pressure(" + j + ")", () -> mine.pressure(j), () -> model.pressure(j));
            same("gas(" + j + ")", () -> mine.gas(j), () -> model.gas(j));
            same("isFull(" + j + ")", () -> mine.isFull(j), () -> model.isFull(j));
            same("isGood(" + j + ")", () -> mine.isGood(j), () -> model.isGood(j));
        }
        for (int i = 0; i < model.rs.size(); i++) {
            int r = i;
            same("flow(" + r + ")", () -> mine.flow(r), () -> model.flow(r));
        }
    }

    /** One question or some, in any order, so that each is the first after a change at some time. */
    private void lookAtOne() {
        int j = of(model.js.size());
        int r = of(model.rs.size());
        int s = of(model.ss.size());
        int p = of(model.at.size());
        List<Runnable> looks = new ArrayList<>(List.of(
            () -> same("pressure(" + j + ")", () -> mine.pressure(j), () -> model.pressure(j)),
            () -> same("gas(" + j + ")", () -> mine.gas(j), () -> model.gas(j)),
            () -> same("isFull(" + j + ")", () -> mine.isFull(j), () -> model.isFull(j)),
            () -> same("isGood(" + j + ")", () -> mine.isGood(j), () -> model.isGood(j)),
            () -> same("reading(" + j + ")", () -> mine.reading(j), () -> model.reading(j)),
            () -> same("hasPower(" + j + ")", () -> mine.hasPower(j), () -> model.hasPower(j)),
            () -> same("flow(" + r + ")", () -> mine.flow(r), () -> model.flow(r)),
            () -> same("isBlocked(" + r + ")", () -> mine.isBlocked(r), () -> model.isBlocked(r)),
            () -> same("whereIs(" + p + ")", () -> mine.whereIs(p), () -> model.whereIs(p)),
            () -> same("isSafe(" + p + ")", () -> mine.isSafe(p), () -> model.isSafe(p)),
            () -> same("isSafeAnew(" + p + ")", () -> mine.isSafeAnew(p), () -> model.isSafe(p)),
            () -> same("tons(" + s + ")", () -> mine.tons(s), () -> model.tons(s)),
            () -> same("load(" + s + ")", () -> mine.load(s), () -> model.load(s)),
            () -> same("stateOf(" + s + ")", () -> mine.stateOf(s), () -> model.stateOf(s)),
            () -> same("pile(" + s + ")", () -> mine.pile(s), () -> model.pile(s)),
            () -> same("delivered(" + s + ")", () -> mine.delivered(s), () -> model.delivered(s))));
        if (once(6)) looks.add(() -> same("ways(" + j + ")", () -> mine.ways(j), () -> model.ways(j, 15)));
        Collections.shuffle(looks, random);
        for (Runnable look : looks.subList(0, in(1, looks.size()))) look.run();
    }

    /** Where ways cross, one that was found first must make room for another. */
    private void lookAtWays() {
        for (int i = 0; i < model.js.size(); i++) {
            int j = i;
            same("ways(" + j + ")", () -> mine.ways(j), () -> model.ways(j, 15));
            same("come(" + j + ")", () -> mine.come(j), () -> model.come(j));
        }
        for (int i = 0; i < model.at.size(); i++) {
            int p = i;
            same("isSafeAnew(" + p + ")", () -> mine.isSafeAnew(p), () -> model.isSafe(p));
            same("isSafe(" + p + ")", () -> mine.isSafe(p), () -> model.isSafe(p));
        }
    }

    private void lookAtAll() {
        same("people()", mine::people, () -> model.at.size());
        same("penalties()", mine::penalties, () -> model.penalties);
        same("goodShare()", mine::goodShare, model::goodShare);
        same("meanLoad()", mine::meanLoad, model::meanLoad);
        same("isSound()", mine::isSound, () -> true);
    }

    private void deliver() {
        int t = once(3) ? value(1, 20) : in(1, 9);
        int lo = value(0, 999);
        int hi = once(3) ? value(0, 999) : Math.min(999, lo + in(0, once(2) ? 3 : 300));
        same("deliver(" + t + ", " + lo + ", " + hi + ")", () -> mine.deliver(t, lo, hi), () -> model.deliver(t, lo, hi));
        for (int i = 0; i < model.ss.size(); i++) {
            int s = i;
            same("delivered(" + s + ")", () -> mine.delivered(s), () -> model.delivered(s));
        }
    }

    private void run() {
        int js = kind == 2 ? 9 : kind == 7 ? in(4, 9) : in(1, 9);
        int rs = kind == 2 || kind == 3 || kind == 7 ? 20 : in(0, 14);
        for (int i = 0; i < js; i++) junction();
        for (int i = 0; i < rs; i++) road();
        for (int i = in(0, 8); i > 0; i--) stope();
        for (int i = in(0, 12); i > 0; i--) join();
        look();
        if (kind == 6) makeGas();
        if (kind == 6 || kind == 7) lookAtWays();
        int turns = once(10) ? 200 : 60;
        for (int turn = 0; turn < turns; turn++) {
            int what = random.nextInt(20);
            if (what == 0) junction();
            else if (what == 1) road();
            else if (what == 2) stope();
            else if (what == 3) join();
            else if (what < 8) person();
            else if (what < 13) step();
            else if (what < 15) sensor();
            else if (what == 15) narrowLimit();
            else if (what == 16 || kind == 5 && once(3)) deliver();
            else if (what == 17) lookAtAll();
            else lookAtOne();
        }
        look();
    }

    public static void main(String[] args) {
        int runs = args.length > 0 ? Integer.parseInt(args[0]) : 600;
        long seed0 = args.length > 1 ? Long.parseLong(args[1]) : 1;
        int failed = 0;
        for (int i = 0; i < runs && failed < 5; i++) {
            RandomRunsTest test = new RandomRunsTest(seed0 + i, i % 8);
            test.run();
            if (test.wrong > 0) {
                failed++;
                System.out.println("run " + i + ":");
                for (String line : test.told) System.out.println("    " + line);
            }
        }
        if (args.length > 2) System.out.println(SEEN);
        System.out.println(runs + " random runs, " + failed + " failed");
        if (failed > 0) System.exit(1);
    }
}
