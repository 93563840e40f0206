import java.util.function.IntFunction;
import java.util.function.Supplier;

/** All that can be asked of a mine, as a text; what is asked changes nothing. */
final class Snapshot {
    private Snapshot() { }

    static String of(Minestrata m) {
        StringBuilder all = new StringBuilder();
        row(all, "junctions", 10, j -> m.pressure(j) + " " + m.gas(j) + " " + m.isFull(j) + " " + m.isGood(j) + " "
                + m.hasPower(j) + " " + m.ways(j) + " " + one(() -> m.reading(j)));
        row(all, "roads", 15, r -> m.flow(r) + " " + m.isBlocked(r));
        row(all, "stopes", 9, s -> m.tons(s) + " " + m.load(s) + " " + m.stateOf(s) + " " + m.pile(s) + " "
                + m.delivered(s));
        row(all, "people", 13, p -> m.whereIs(p) + " " + m.isSafe(p) + " " + m.isSafeAnew(p));
        int limit = m.setLimit(0);
        m.setLimit(limit);
        all.append("limit ").append(limit).append(", refused ").append(m.refused());
        all.append(", by ").append(one(m::refusedBy)).append(", people ").append(m.people());
        all.append(", penalties ").append(m.penalties()).append(", good ").append(one(m::goodShare));
        all.append(", load ").append(one(m::meanLoad)).append(", sound ").append(m.isSound());
        return all.toString();
    }

    private static void row(StringBuilder all, String name, int most, IntFunction<String> ask) {
        all.append(name);
        String answer = "";
        for (int i = 0; i < most && !answer.equals("IndexOutOfBoundsException"); i++) {
            int number = i;
            answer = one(() -> ask.apply(number));
            all.append(" | ").append(answer);
        }
        all.append("; ");
    }

    private static String one(Supplier<Object> ask) {
        try {
            return String.valueOf(ask.get());
        } catch (RuntimeException e) {
            return e.getClass().getSimpleName();
        }
    }
}
