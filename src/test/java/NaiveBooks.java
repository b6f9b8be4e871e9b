import java.util.ArrayList;
import java.util.Arrays;
import java.util.HashMap;
import java.util.List;
import java.util.Map;
import java.util.TreeMap;
import java.util.regex.Matcher;
import java.util.regex.Pattern;

/**
 * The document read a second time, as plainly as can be: it holds only what was told and reckons every
 * answer anew. Products are taken with multiplyExact, so that a run that overflows is seen.
 */
public final class NaiveBooks {
    private static final long LEAST = Long.MIN_VALUE;
    private static final long BAD_LONG = LEAST + 2, NOT_LONG = LEAST + 3;

    private record Row(int source, int code, int value, int release) { }

    private record Told(long mean, int weight) { }

    private final int[] trust = {1, 1, 1, 1, 1, 1, 1, 1, 1, 1};
    private final List<Row> rows = new ArrayList<>();
    private int asOf = 9;
    private final int[] supply = {1, 1, 1, 0, 0, 0};
    private final boolean[][][] fixed = new boolean[2][4][6];
    private int rule = 0;
    private final int[][] prices = new int[4][12];
    private final Map<List<Integer>, Integer> trades = new HashMap<>();
    private final int[] precision = {1, 1};
    private final Map<List<Integer>, Long> flows = new HashMap<>();
    private final List<TreeMap<Integer, Integer>> stocks = new ArrayList<>();
    private final StringBuilder[] laws = new StringBuilder[4];
    private final Object[] sheets = new Object[4];
    private int finding = 0;
    // Only within one call: a digest asks for the same cells again and again.
    private final Map<List<Integer>, long[]> closings = new HashMap<>();

    public NaiveBooks() {
        for (int[] p : prices) {
            Arrays.fill(p, 100);
        }
        for (int i = 0; i < 6; i++) {
            stocks.add(new TreeMap<>());
        }
        for (int i = 0; i < 4; i++) {
            laws[i] = new StringBuilder();
        }
    }

    private static boolean in(int v, int low, int high) {
        return v >= low && v <= high;
    }

    private static boolean lpc(int land, int product, int column) {
        return in(land, 0, 1) && in(product, 0, 3) && in(column, 0, 5);
    }

    private static boolean lpq(int land, int product, int quarter) {
        return in(land, 0, 1) && in(product, 0, 3) && in(quarter, 0, 11);
    }

    // ---- sources, rows

    public int trust(int source, int t) {
        if (!in(source, 0, 9) || !in(t, 1, 9)) return -2;
        int was = trust[source];
        trust[source] = t;
        return was;
    }

    public int code(int land, int product, int column, int quarter) {
        if (!lpc(land, product, column) || !in(quarter, 0, 11)) return -2;
        return 288 * land + 72 * product + 12 * column + quarter;
    }

    public int annual(int land, int product, int column, int year) {
        if (!lpc(land, product, column) || !in(year, 0, 2)) return -2;
        return 576 + 72 * land + 18 * product + 3 * column + year;
    }

    public int decode(int code, int what) {
        if (!in(code, 0, 719) || !in(what, 0, 4)) return -2;
        for (int land = 0; land < 2; land++) {
            for (int product = 0; product < 4; product++) {
                for (int column = 0; column < 6; column++) {
                    for (int q = 0; q < 12; q++) {
                        if (code(land, product, column, q) == code) {
                            return new int[] {land, product, column, q, 0}[what];
                        }
                    }
                    for (int y = 0; y < 3; y++) {
                        if (annual(land, product, column, y) == code) {
                            return new int[] {land, product, column, y, 1}[what];
                        }
                    }
                }
            }
        }
        throw new IllegalStateException("no such code");
    }

    public int row(int source, int code, int value, int release) {
        if (!in(source, 0, 9) || !in(code, 0, 719) || !in(value, 0, 100000) || !in(release, 0, 9)) return -2;
        if (rows.size() == 80) return -4;
        rows.add(new Row(source, code, value, release));
        return rows.size() - 1;
    }

    /** The numbers of the rows that count, of those told. */
    private List<Integer> counting(int code, List<Integer> known) {
        List<Integer> out = new ArrayList<>();
        for (int s = 0; s < 10; s++) {
            int best = -1;
            for (int i : known) {
                Row r = rows.get(i);
                if (r.source == s && r.code == code && (best < 0 || r.release >= rows.get(best).release)) best = i;
            }
            if (best >= 0) out.add(best);
        }
        return out;
    }

    private List<Integer> upTo(int release) {
        List<Integer> out = new ArrayList<>();
        for (int i = 0; i < rows.size(); i++) {
            if (rows.get(i).release <= release) out.add(i);
        }
        return out;
    }

    private Told told(int code, List<Integer> known) {
        long sum = 0;
        int weight = 0;
        for (int i : counting(code, known)) {
            weight += trust[rows.get(i).source];
            sum += (long) trust[rows.get(i).source] * rows.get(i).value;
        }
        if (weight == 0) return new Told(0, 0);
        long down = sum / weight;
        return new Told(2 * (sum - down * weight) >= weight ? down + 1 : down, weight);
    }

    private Told told(int code) {
        return told(code, upTo(asOf));
    }

    private boolean counts(int row) {
        return counting(rows.get(row).code, upTo(asOf)).contains(row);
    }

    public int rowIs(int row, int what) {
        if (!in(row, 0, rows.size() - 1) || !in(what, 0, 4)) return -1000000;
        Row r = rows.get(row);
        return new int[] {r.source, r.code, r.value, r.release, counts(row) ? 1 : 0}[what];
    }

    public int asOf(int release) {
        if (!in(release, 0, 9)) return -2;
        int was = asOf;
        asOf = release;
        return was;
    }

    public int column(int column, int is) {
        if (!in(column, 0, 5) || !in(is, 0, 1)) return -2;
        int was = supply[column];
        supply[column] = is;
        return was;
    }

    public long said(int code) {
        if (!in(code, 0, 719)) return BAD_LONG;
        Told t = told(code);
        return t.weight == 0 ? NOT_LONG : t.mean;
    }

    public int weight(int code) {
        return in(code, 0, 719) ? told(code).weight : -2;
    }

    // ---- bent, closed

    private static long[] parts(long whole, long[] shares) {
        long sum = Arrays.stream(shares).sum();
        long[] out = new long[shares.length];
        long[] rest = new long[shares.length];
        long left = whole;
        for (int i = 0; i < shares.length; i++) {
            long product = Math.multiplyExact(whole, shares[i]);
            out[i] = Math.floorDiv(product, sum);
            rest[i] = product - out[i] * sum;
            left -= out[i];
        }
        giveLeft(left, out, rest);
        return out;
    }

    private static void giveLeft(long left, long[] out, long[] rest) {
        List<Integer> order = new ArrayList<>();
        for (int i = 0; i < out.length; i++) {
            order.add(i);
        }
        order.sort((a, b) -> rest[a] != rest[b] ? Long.compare(rest[b], rest[a]) : Integer.compare(a, b));
        for (int k = 0; k < left; k++) {
            out[order.get(k)]++;
        }
    }

    private long[] bentYear(int land, int product, int column, int year) {
        Told whole = told(annual(land, product, column, year));
        Told[] quarters = new Told[4];
        int said = 0;
        long sum = 0;
        long[] out = new long[4];
        for (int i = 0; i < 4; i++) {
            quarters[i] = told(code(land, product, column, 4 * year + i));
            said += quarters[i].weight > 0 ? 1 : 0;
            sum += quarters[i].mean;
            out[i] = quarters[i].mean;
        }
        if (whole.weight == 0) return out;
        if (said == 4) {
            long[] shares = sum == 0 ? new long[] {1, 1, 1, 1} : out;
            return parts(whole.mean, shares);
        }
        long[] ones = new long[4 - said];
        Arrays.fill(ones, 1);
        long[] filled = parts(whole.mean - sum, ones);
        int next = 0;
        for (int i = 0; i < 4; i++) {
            if (quarters[i].weight == 0) out[i] = filled[next++];
        }
        return out;
    }

    private long bentAt(int land, int product, int column, int quarter) {
        return bentYear(land, product, column, quarter / 4)[quarter % 4];
    }

    public long bent(int code) {
        if (!in(code, 0, 575)) return BAD_LONG;
        return bentAt(decode(code, 0), decode(code, 1), decode(code, 2), decode(code, 3));
    }

    public long shape(int code) {
        if (!in(code, 576, 719)) return BAD_LONG;
        if (told(code).weight == 0) return NOT_LONG;
        long[] bent = bentYear(decode(code, 0), decode(code, 1), decode(code, 2), decode(code, 3));
        long sum = 0;
        for (int i = 0; i < 4; i++) {
            Told t = told(code(decode(code, 0), decode(code, 1), decode(code, 2), 4 * decode(code, 3) + i));
            if (t.weight == 0) return NOT_LONG;
            sum += Math.abs(bent[i] - t.mean);
        }
        return sum;
    }

    public int fix(int land, int product, int column, boolean is) {
        if (!lpc(land, product, column)) return -2;
        if (fixed[land][product][column] == is) return 0;
        fixed[land][product][column] = is;
        return 1;
    }

    public int rule(int r) {
        if (!in(r, 0, 1)) return -2;
        int was = rule;
        rule = r;
        return was;
    }

    public long gap(int land, int product, int quarter) {
        if (!lpq(land, product, quarter)) return BAD_LONG;
        long sum = 0;
        for (int c = 0; c < 6; c++) {
            sum += (supply[c] == 1 ? 1 : -1) * bentAt(land, product, c, quarter);
        }
        return sum;
    }

    private List<Integer> free(int land, int product) {
        List<Integer> out = new ArrayList<>();
        for (int c = 0; c < 6; c++) {
            if (!fixed[land][product][c]) out.add(c);
        }
        return out;
    }

    private long cost(int land, int product, int column, int quarter) {
        return told(code(land, product, column, quarter)).weight
                + told(annual(land, product, column, quarter / 4)).weight + 1;
    }

    /** By columns: the part of the gap that each takes. */
    private long[] takes(int land, int product, int quarter) {
        long gap = gap(land, product, quarter);
        long[] takes = new long[6];
        List<Integer> free = free(land, product);
        if (free.isEmpty()) return takes;
        if (rule == 0) {
            int best = free.get(0);
            for (int c : free) {
                if (cost(land, product, c, quarter) < cost(land, product, best, quarter)) best = c;
            }
            takes[best] = gap;
            return takes;
        }
        long[] shares = new long[free.size()];
        for (int i = 0; i < shares.length; i++) {
            shares[i] = 2520 / cost(land, product, free.get(i), quarter);
        }
        long[] parts = parts(gap, shares);
        for (int i = 0; i < shares.length; i++) {
            takes[free.get(i)] = parts[i];
        }
        return takes;
    }

    private long closedAt(int land, int product, int column, int quarter) {
        long[] cells = closings.get(List.of(land, product, quarter));
        if (cells == null) {
            cells = new long[6];
            long[] takes = takes(land, product, quarter);
            for (int c = 0; c < 6; c++) {
                cells[c] = bentAt(land, product, c, quarter) + (supply[c] == 1 ? -takes[c] : takes[c]);
            }
            closings.put(List.of(land, product, quarter), cells);
        }
        return cells[column];
    }

    /** To be called ahead of each call. */
    public void forget() {
        closings.clear();
    }

    public long closed(int code) {
        if (!in(code, 0, 575)) return BAD_LONG;
        return closedAt(decode(code, 0), decode(code, 1), decode(code, 2), decode(code, 3));
    }

    private boolean isOpen(int land, int product, int quarter) {
        return free(land, product).isEmpty() && gap(land, product, quarter) != 0;
    }

    public long moved(int land, int product, int quarter) {
        if (!lpq(land, product, quarter)) return BAD_LONG;
        if (isOpen(land, product, quarter)) return NOT_LONG;
        return Arrays.stream(takes(land, product, quarter)).map(Math::abs).sum();
    }

    public long total(int land, int product, int column, int quarter) {
        if (!in(land, -1, 1) || !in(product, -1, 3) || !in(column, 0, 5) || !in(quarter, 0, 11)) return BAD_LONG;
        long sum = 0;
        for (int l = 0; l < 2; l++) {
            for (int p = 0; p < 4; p++) {
                if ((land == -1 || l == land) && (product == -1 || p == product)) {
                    sum += closedAt(l, p, column, quarter);
                }
            }
        }
        return sum;
    }

    public int open() {
        int n = 0;
        for (int l = 0; l < 2; l++) {
            for (int p = 0; p < 4; p++) {
                for (int q = 0; q < 12; q++) {
                    if (isOpen(l, p, q)) n++;
                }
            }
        }
        return n;
    }

    private List<Integer> brokenOnes() {
        List<Integer> out = new ArrayList<>();
        for (int code = 576; code < 720; code++) {
            Told t = told(code);
            if (t.weight == 0) continue;
            long sum = 0;
            for (int i = 0; i < 4; i++) {
                sum += closedAt(decode(code, 0), decode(code, 1), decode(code, 2), 4 * decode(code, 3) + i);
            }
            if (sum != t.mean) out.add(code);
        }
        return out;
    }

    public int broken() {
        return brokenOnes().size();
    }

    public int breaks(int i) {
        if (i < 0) return -2;
        List<Integer> all = brokenOnes();
        return i < all.size() ? all.get(i) : -1;
    }

    // ---- prices

    public int price(int product, int quarter, int p) {
        if (!in(product, 0, 3) || !in(quarter, 0, 11) || !in(p, 10, 1000)) return -2;
        int was = prices[product][quarter];
        prices[product][quarter] = p;
        return was;
    }

    public long volume(int product, int column, int quarter) {
        if (!in(product, 0, 3) || !in(column, 0, 5) || !in(quarter, 0, 11)) return BAD_LONG;
        return Math.floorDiv(100 * total(-1, product, column, quarter), (long) prices[product][quarter]);
    }

    public long atPrices(int product, int column, int quarter, int year) {
        if (!in(product, -1, 3) || !in(column, 0, 5) || !in(quarter, 0, 11) || !in(year, 0, 2)) return BAD_LONG;
        if (product == -1) {
            long sum = 0;
            for (int p = 0; p < 4; p++) {
                sum += atPrices(p, column, quarter, year);
            }
            return sum;
        }
        long mean = 0;
        for (int i = 0; i < 4; i++) {
            mean += prices[product][4 * year + i];
        }
        return Math.multiplyExact(volume(product, column, quarter), mean);
    }

    private static int baseYear(int quarter) {
        return quarter < 4 ? 0 : quarter / 4 - 1;
    }

    private Long growthOrNull(int product, int column, int quarter) {
        long before = atPrices(product, column, quarter - 1, baseYear(quarter));
        long now = atPrices(product, column, quarter, baseYear(quarter));
        return before <= 0 ? null : Math.floorDiv(Math.multiplyExact(now, 1000000L), before);
    }

    public long growth(int product, int column, int quarter) {
        if (!in(product, -1, 3) || !in(column, 0, 5) || !in(quarter, 1, 11)) return BAD_LONG;
        Long g = growthOrNull(product, column, quarter);
        return g == null ? -1 : g;
    }

    private static long cut(long v, long most) {
        return v > most ? most : v < -most ? -most : v;
    }

    public long chain(int product, int column, int quarter) {
        if (!in(product, -1, 3) || !in(column, 0, 5) || !in(quarter, 0, 11)) return BAD_LONG;
        if (quarter == 0) return 1000000;
        long before = chain(product, column, quarter - 1);
        Long g = growthOrNull(product, column, quarter);
        if (g == null) return before;
        return cut(Math.floorDiv(Math.multiplyExact(before, cut(g, 1000000000L)), 1000000L), 10000000L);
    }

    public long part(int product, int column, int quarter) {
        if (!in(product, 0, 3) || !in(column, 0, 5) || !in(quarter, 1, 11)) return BAD_LONG;
        Long g = growthOrNull(-1, column, quarter);
        if (g == null) return NOT_LONG;
        int year = baseYear(quarter);
        long before = atPrices(-1, column, quarter - 1, year);
        long[] out = new long[4];
        long[] rest = new long[4];
        long left = g - 1000000;
        for (int p = 0; p < 4; p++) {
            long rise = atPrices(p, column, quarter, year) - atPrices(p, column, quarter - 1, year);
            long upper = Math.multiplyExact(rise, 1000000L);
            out[p] = Math.floorDiv(upper, before);
            rest[p] = upper - out[p] * before;
            left -= out[p];
        }
        giveLeft(left, out, rest);
        return out[product];
    }

    public long apart(int column, int quarter) {
        if (!in(column, 0, 5) || !in(quarter, 0, 11)) return BAD_LONG;
        long sum = 0;
        for (int p = 0; p < 4; p++) {
            sum += made(p, column, quarter);
        }
        return sum - made(-1, column, quarter);
    }

    private long made(int product, int column, int quarter) {
        long upper = Math.multiplyExact(atPrices(product, column, 0, 0), chain(product, column, quarter));
        return Math.floorDiv(upper, 1000000L);
    }

    // ---- trade, sectors

    public int trade(int land, int product, int quarter, int what, int v) {
        if (!lpq(land, product, quarter) || !in(what, 0, 1) || !in(v, -1, 100000)) return -2;
        List<Integer> key = List.of(land, product, quarter, what);
        Integer was = v == -1 ? trades.remove(key) : trades.put(key, v);
        return was == null ? -1 : was;
    }

    public int precise(int land, int p) {
        if (!in(land, 0, 1) || !in(p, 1, 9)) return -2;
        int was = precision[land];
        precision[land] = p;
        return was;
    }

    public int hidden(int land, int product, int quarter) {
        if (!lpq(land, product, quarter)) return -2000000;
        Integer sold = trades.get(List.of(land, product, quarter, 0));
        Integer bought = trades.get(List.of(1 - land, product, quarter, 1));
        return sold == null || bought == null ? -1000000 : bought - sold;
    }

    public int agreed(int land, int product, int quarter) {
        if (!lpq(land, product, quarter)) return -2;
        Integer sold = trades.get(List.of(land, product, quarter, 0));
        Integer bought = trades.get(List.of(1 - land, product, quarter, 1));
        if (sold == null && bought == null) return 0;
        if (sold == null) return bought;
        if (bought == null) return sold;
        long sum = (long) sold * precision[land] + (long) bought * precision[1 - land];
        long weight = precision[0] + precision[1];
        long down = sum / weight;
        return (int) (2 * (sum % weight) >= weight ? down + 1 : down);
    }

    public long flow(int from, int to, int quarter, int v) {
        if (!in(from, 0, 5) || !in(to, 0, 5) || from == to || !in(quarter, 0, 11) || !in(v, -100000, 100000)) {
            return BAD_LONG;
        }
        return flows.merge(List.of(from, to, quarter), (long) v, Long::sum);
    }

    public long net(int sector, int quarter) {
        if (!in(sector, 0, 5) || !in(quarter, 0, 11)) return BAD_LONG;
        long sum = 0;
        for (Map.Entry<List<Integer>, Long> e : flows.entrySet()) {
            if (e.getKey().get(2) != quarter) continue;
            if (e.getKey().get(1) == sector) sum += e.getValue();
            if (e.getKey().get(0) == sector) sum -= e.getValue();
        }
        return sum;
    }

    public int stock(int sector, int quarter, int v) {
        if (!in(sector, 0, 5) || !in(quarter, 0, 11) || !in(v, -1000000, 1000000)) return -2;
        stocks.get(sector).put(quarter, v);
        return 1;
    }

    public int unstock(int sector, int quarter) {
        if (!in(sector, 0, 5) || !in(quarter, 0, 11)) return -2;
        return stocks.get(sector).remove(quarter) == null ? 0 : 1;
    }

    public long due(int sector, int quarter) {
        if (!in(sector, 0, 5) || !in(quarter, 0, 11)) return BAD_LONG;
        Map.Entry<Integer, Integer> last = stocks.get(sector).lowerEntry(quarter);
        long sum = last == null ? 0 : last.getValue();
        for (int q = last == null ? 0 : last.getKey() + 1; q <= quarter; q++) {
            sum += net(sector, q);
        }
        return sum;
    }

    public long off(int sector, int quarter) {
        if (!in(sector, 0, 5) || !in(quarter, 0, 11)) return BAD_LONG;
        Integer told = stocks.get(sector).get(quarter);
        return told == null ? NOT_LONG : told - due(sector, quarter);
    }

    // ---- laws

    public int type(int law, int b) {
        if (!in(law, 0, 3) || !in(b, 0, 255)) return -2;
        if (laws[law].length() == 60) return -4;
        laws[law].append((char) b);
        return laws[law].length();
    }

    public int repeal(int law) {
        if (!in(law, 0, 3)) return -2;
        int had = laws[law].length();
        laws[law].setLength(0);
        return had;
    }

    private static final String TERM = "(?:[0-9]{1,6}(?:\\*c[0-9]{3})?|c[0-9]{3})";
    private static final String SUM = TERM + "(?:[+-]" + TERM + ")*";
    private static final Pattern WHOLE = Pattern.compile(SUM + "=" + SUM);
    private static final Pattern CELL = Pattern.compile("c([0-9])([0-9])([0-9])");

    /** Whether some whole law begins so: where a match runs into the end, more could come. */
    private static boolean canGoOn(String text) {
        Matcher m = WHOLE.matcher(text);
        return m.matches() || m.hitEnd();
    }

    public int fault(int law) {
        if (!in(law, 0, 3)) return -2;
        String text = laws[law].toString();
        int end = 0;
        while (end < text.length() && canGoOn(text.substring(0, end + 1))) {
            end++;
        }
        Matcher cells = CELL.matcher(text.substring(0, end));
        while (cells.find()) {
            String name = cells.group();
            if (name.charAt(1) > '1' || name.charAt(2) > '3' || name.charAt(3) > '5') return cells.start() + 1;
        }
        return end == text.length() && WHOLE.matcher(text).matches() ? -1 : end;
    }

    private long sumOf(String text, int quarter) {
        long sum = 0;
        for (String signed : text.split("(?=[+-])")) {
            String term = signed.startsWith("+") || signed.startsWith("-") ? signed.substring(1) : signed;
            long product = 1;
            for (String factor : term.split("\\*")) {
                product *= factor.startsWith("c")
                        ? closedAt(factor.charAt(1) - '0', factor.charAt(2) - '0', factor.charAt(3) - '0', quarter)
                        : Long.parseLong(factor);
            }
            sum += signed.startsWith("-") ? -product : product;
        }
        return sum;
    }

    public long left(int law, int quarter) {
        if (!in(law, 0, 3) || !in(quarter, 0, 11)) return BAD_LONG;
        if (fault(law) != -1) return NOT_LONG;
        String[] sides = laws[law].toString().split("=");
        return sumOf(sides[0], quarter) - sumOf(sides[1], quarter);
    }

    public int unkept(int quarter) {
        if (!in(quarter, 0, 11)) return -2;
        int n = 0;
        for (int law = 0; law < 4; law++) {
            if (fault(law) == -1 && left(law, quarter) != 0) n++;
        }
        return n;
    }

    // ---- releases

    public long revision(int code, int from, int to) {
        if (!in(code, 0, 719) || !in(from, 0, 9) || !in(to, 0, 9) || to <= from) return BAD_LONG;
        return told(code, upTo(to)).mean - told(code, upTo(from)).mean;
    }

    private List<long[]> allSteps(int code, int from, int to) {
        List<long[]> out = new ArrayList<>();
        for (int s = from + 1; s <= to; s++) {
            List<Integer> known = upTo(s - 1);
            for (int source = 0; source < 10; source++) {
                List<Integer> more = new ArrayList<>(known);
                boolean has = false;
                for (int i = 0; i < rows.size(); i++) {
                    Row r = rows.get(i);
                    if (r.release == s && r.source == source) {
                        more.add(i);
                        has |= r.code == code;
                    }
                }
                if (has) out.add(new long[] {told(code, more).mean - told(code, known).mean, source, s});
                known = more;
            }
        }
        return out;
    }

    public int steps(int code, int from, int to) {
        if (!in(code, 0, 719) || !in(from, 0, 9) || !in(to, 0, 9) || to <= from) return -2;
        return allSteps(code, from, to).size();
    }

    public long step(int code, int from, int to, int i, int what) {
        if (!in(code, 0, 719) || !in(from, 0, 9) || !in(to, 0, 9) || to <= from || !in(what, 0, 2)) return BAD_LONG;
        List<long[]> all = allSteps(code, from, to);
        return in(i, 0, all.size() - 1) ? all.get(i)[what] : BAD_LONG;
    }

    public long led(int code, boolean closed) {
        if (!in(code, 0, 719) || (closed && code > 575)) return BAD_LONG;
        List<Integer> codes = new ArrayList<>();
        if (!closed) {
            codes.add(code);
        } else {
            int land = decode(code, 0);
            int product = decode(code, 1);
            int year = decode(code, 3) / 4;
            for (int c = 0; c < 6; c++) {
                codes.add(annual(land, product, c, year));
                for (int i = 0; i < 4; i++) {
                    codes.add(code(land, product, c, 4 * year + i));
                }
            }
        }
        long bits = 0;
        for (int i = 0; i < Math.min(63, rows.size()); i++) {
            if (codes.contains(rows.get(i).code) && counts(i)) bits |= 1L << i;
        }
        return bits;
    }

    // ---- sheets

    private int found(int number) {
        finding = number;
        return -10 - number;
    }

    private static int form(Object sheet) {
        return sheet instanceof byte[] ? 0 : sheet instanceof short[] ? 1 : 2;
    }

    private static int length(Object sheet) {
        return java.lang.reflect.Array.getLength(sheet);
    }

    private static void set(Object sheet, int i, int v) {
        if (sheet instanceof byte[] b) b[i] = (byte) v;
        else if (sheet instanceof short[] h) h[i] = (short) v;
        else ((int[]) sheet)[i] = v;
    }

    private static int item(Object sheet, int i) {
        return java.lang.reflect.Array.getInt(sheet, i);
    }

    public int sheet(int s, int form, int n) {
        if (!in(s, 0, 3) || !in(form, 0, 2) || n > 60) return -2;
        if (n < 0) return found(5);
        sheets[s] = form == 0 ? new byte[n] : form == 1 ? new short[n] : new int[n];
        return n;
    }

    public int lose(int s) {
        if (!in(s, 0, 3)) return -2;
        if (sheets[s] == null) return found(1);
        int n = length(sheets[s]);
        sheets[s] = null;
        return n;
    }

    public int put(int s, int form, int i, int v) {
        if (!in(s, 0, 3) || !in(form, 0, 2)) return -2;
        if (sheets[s] == null) return found(1);
        if (form(sheets[s]) != form) return found(3);
        if (i < 0 || i >= length(sheets[s])) return found(2);
        set(sheets[s], i, v);
        return 1;
    }

    public int get(int s, int form, int i) {
        if (!in(s, 0, 3) || !in(form, 0, 2)) return Integer.MIN_VALUE;
        if (sheets[s] == null) {
            found(1);
        } else if (form(sheets[s]) != form) {
            found(3);
        } else if (i < 0 || i >= length(sheets[s])) {
            found(2);
        } else {
            return item(sheets[s], i);
        }
        return Integer.MIN_VALUE;
    }

    public int copy(int s, int i, int t, int j, int n) {
        if (!in(s, 0, 3) || !in(t, 0, 3)) return -2;
        if (sheets[s] == null || sheets[t] == null) return found(1);
        if (form(sheets[s]) != form(sheets[t])) return found(4);
        if (i < 0 || j < 0 || n < 0 || (long) i + n > length(sheets[s]) || (long) j + n > length(sheets[t])) {
            return found(2);
        }
        int[] was = new int[n];
        for (int k = 0; k < n; k++) {
            was[k] = item(sheets[s], i + k);
        }
        for (int k = 0; k < n; k++) {
            set(sheets[t], j + k, was[k]);
        }
        return 1;
    }

    public int read(int s) {
        if (!in(s, 0, 3)) return -2;
        if (sheets[s] == null) return found(1);
        int n = 0;
        while (4 * n + 3 < length(sheets[s])) {
            Object x = sheets[s];
            if (row(item(x, 4 * n), item(x, 4 * n + 1), item(x, 4 * n + 2), item(x, 4 * n + 3)) < 0) break;
            n++;
        }
        return n;
    }

    public int write(int s, int land, int product, int column) {
        if (!in(s, 0, 3) || !lpc(land, product, column)) return -2;
        if (sheets[s] == null) return found(1);
        int n = Math.min(12, length(sheets[s]));
        for (int q = 0; q < n; q++) {
            set(sheets[s], q, (int) closedAt(land, product, column, q));
        }
        return n;
    }

    public int count(int what) {
        switch (what) {
            case 0: return rows.size();
            case 1: {
                int n = 0;
                for (int i = 0; i < rows.size(); i++) {
                    if (counts(i)) n++;
                }
                return n;
            }
            case 2: return asOf;
            case 3: return rule;
            case 4: return Arrays.stream(supply).sum();
            case 5: {
                int n = 48;
                for (int l = 0; l < 2; l++) {
                    for (int p = 0; p < 4; p++) {
                        n -= free(l, p).size();
                    }
                }
                return n;
            }
            case 6: return stocks.stream().mapToInt(TreeMap::size).sum();
            case 7: return Arrays.stream(laws).mapToInt(StringBuilder::length).sum();
            case 8: return finding;
            default: return -2;
        }
    }

    public long digest() {
        List<Long> all = new ArrayList<>();
        for (int what = 0; what <= 7; what++) {
            all.add((long) count(what));
        }
        all.add((long) open());
        all.add((long) broken());
        for (int c = 0; c < 6; c++) {
            for (int q = 0; q < 12; q++) {
                all.add(total(-1, -1, c, q));
            }
        }
        for (int c = 0; c < 6; c++) {
            all.add(chain(-1, c, 11));
        }
        for (int s = 0; s < 6; s++) {
            all.add(net(s, 0));
        }
        for (int law = 0; law < 4; law++) {
            all.add((long) fault(law));
        }
        long h = 17;
        for (long v : all) {
            h = 31 * h + v;
        }
        return h;
    }
}
