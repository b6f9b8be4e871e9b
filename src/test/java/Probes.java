import java.util.ArrayList;
import java.util.HashMap;
import java.util.List;
import java.util.Map;

/**
 * Calls that together tell all that an object holds, to see whether a call has changed something. Some of them
 * change what they tell, and an object is good for 512 calls: so each few of them have an object of their own.
 */
final class Probes {
    private static final int CALLS_OF_ONE = 330;
    private static final List<Object[]> ALL = all();
    private static final Map<Edges.Telling, Probes> KNOWN = new HashMap<>();

    private final Edges.Telling told;
    private final long[] answers = new long[ALL.size()];

    private Probes(Edges.Telling told) {
        this.told = told;
        for (int first = 0; first < ALL.size(); first += CALLS_OF_ONE) {
            NationBooks x = book();
            for (int i = first; i < Math.min(first + CALLS_OF_ONE, ALL.size()); i++) {
                answers[i] = probe(x, i);
            }
        }
    }

    static Probes of(Edges.Telling told) {
        if (!KNOWN.containsKey(told)) KNOWN.put(told, new Probes(told));
        return KNOWN.get(told);
    }

    NationBooks book() {
        NationBooks x = new NationBooks();
        told.tell(x);
        return x;
    }

    private static long probe(NationBooks x, int i) {
        Object[] call = ALL.get(i);
        return Edges.ask(x, (String) call[0], (Object[]) call[1]);
    }

    /** The first probe that answers otherwise behind the call; empty, if none does. A finding may change count() 8. */
    String changeBy(String name, Object[] arguments, boolean isFinding) {
        for (int first = 0; first < ALL.size(); first += CALLS_OF_ONE) {
            NationBooks x = book();
            Edges.ask(x, name, arguments);
            for (int i = first; i < Math.min(first + CALLS_OF_ONE, ALL.size()); i++) {
                boolean isLike = probe(x, i) == answers[i] || (isFinding && i == 0);
                if (!isLike) return ALL.get(i)[0] + java.util.Arrays.toString((Object[]) ALL.get(i)[1]);
            }
        }
        return "";
    }

    private static List<Object[]> all() {
        List<Object[]> out = new ArrayList<>();
        // count() 8 first: the calls behind it may have findings of their own.
        add(out, "count", 8);
        add(out, "digest");
        for (int what = 0; what < 8; what++) add(out, "count", what);
        for (int law = 0; law < 4; law++) {
            add(out, "fault", law);
            for (int q = 0; q < 12; q++) add(out, "left", law, q);
            add(out, "repeal", law);
        }
        for (int s = 0; s < 6; s++) {
            for (int q = 0; q < 12; q++) add(out, "off", s, q);
            for (int q = 0; q < 12; q++) add(out, "unstock", s, q);
        }
        for (int row = 0; row < 80; row++) {
            for (int what = 0; what < 5; what++) add(out, "rowIs", row, what);
        }
        for (int i = 0; i < 10; i++) add(out, "trust", i, 1);
        for (int c = 0; c < 6; c++) add(out, "column", c, 0);
        for (int i = 0; i < 48; i++) add(out, "fix", i / 24, i / 6 % 4, i % 6, true);
        for (int i = 0; i < 48; i++) add(out, "price", i / 12, i % 12, 100);
        for (int i = 0; i < 192; i++) add(out, "trade", i / 96, i / 24 % 4, i / 2 % 12, i % 2, -1);
        for (int land = 0; land < 2; land++) add(out, "precise", land, 1);
        for (int i = 0; i < 432; i++) {
            if (i / 72 != i / 12 % 6) add(out, "flow", i / 72, i / 12 % 6, i % 12, 0);
        }
        for (int s = 0; s < 4; s++) {
            for (int i = 0; i < 180; i++) add(out, "get", s, i / 60, i % 60);
            add(out, "lose", s);
        }
        return out;
    }

    private static void add(List<Object[]> out, String name, Object... arguments) {
        out.add(new Object[] {name, arguments});
    }
}
