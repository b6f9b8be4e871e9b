import java.util.Arrays;

/** A nation's books, as ../shared/DOC.md promises them. */
public final class NationBooks {
    public static final int NONE = -1, BAD = -2, NOT = -3, FULL = -4;

    private static final int LANDS = 2, PRODUCTS = 4, COLUMNS = 6, QUARTERS = 12, YEARS = 3;
    private static final int YEAR_QUARTERS = 4;
    private static final int CELLS = LANDS * PRODUCTS * COLUMNS * QUARTERS;
    private static final int CODES = CELLS + LANDS * PRODUCTS * COLUMNS * YEARS;
    private static final int SOURCES = 10, RELEASES = 10, MOST_ROWS = 80, MOST_GRADE = 9;
    private static final int MOST_VALUE = 100000, MOST_STOCK = 1000000;
    private static final int SECTORS = 6;
    private static final int LAWS = 4, MOST_BYTES = 60;
    private static final int SHEETS = 4, FORMS = 3, MOST_ITEMS = 60, ROW_ITEMS = 4;
    private static final int BYTES = 0, SHORTS = 1;
    private static final int LEAST_PRICE = 10, MOST_PRICE = 1000;
    private static final int NO_LED_ROW = 63;
    private static final long MILLION = 1000000;
    private static final long LEAST_LONG = 1L << 63;
    private static final int LEAST_INT = 1 << 31;
    private static final int BAD_ROW = -1000000, NOT_HIDDEN = -1000000, BAD_HIDDEN = -2000000;
    private static final int NULL = 1, INDEX = 2, CAST = 3, STORE = 4, SIZE = 5;
    private static final int FINDINGS = -10;
    private static final int FINE = 0;

    private final Rows rows = new Rows();
    private final Tables tables = new Tables(rows);
    private final Volumes volumes = new Volumes(tables);
    private final Dealings dealings = new Dealings();
    private final Sectors sectors = new Sectors();
    private final Law[] laws = new Law[LAWS];
    private final Sheet[] sheets = new Sheet[SHEETS];
    private int latestFinding = 0;

    public NationBooks() {
        for (int i = 0; i < LAWS; i++) {
            laws[i] = new Law();
        }
        for (int i = 0; i < SHEETS; i++) {
            sheets[i] = new Sheet();
        }
    }

    // ---- sources, rows

    public int trust(int source, int t) {
        if (!below(source, SOURCES) || !isGrade(t)) {
            return BAD;
        }
        int was = rows.trust[source];
        rows.trust[source] = t;
        tables.forgetAll();
        return was;
    }

    public int code(int land, int product, int column, int quarter) {
        if (!isLine(land, product, column) || !below(quarter, QUARTERS)) {
            return BAD;
        }
        return cellCode(land, product, column, quarter);
    }

    public int annual(int land, int product, int column, int year) {
        if (!isLine(land, product, column) || !below(year, YEARS)) {
            return BAD;
        }
        return annualCode(land, product, column, year);
    }

    public int decode(int code, int what) {
        if (!below(code, CODES)) {
            return BAD;
        }
        switch (what) {
            case 0: return landOf(code);
            case 1: return productOf(code);
            case 2: return columnOf(code);
            case 3: return periodOf(code);
            case 4: return isAnnual(code) ? 1 : 0;
            default: return BAD;
        }
    }

    public int row(int source, int code, int value, int release) {
        if (!below(source, SOURCES) || !below(code, CODES)
                || !within(value, 0, MOST_VALUE) || !below(release, RELEASES)) {
            return BAD;
        }
        if (rows.size >= MOST_ROWS) {
            return FULL;
        }
        tables.forget(landOf(code), productOf(code), yearOf(code));
        return rows.append(source, code, value, release);
    }

    public int rowIs(int row, int what) {
        if (!below(row, rows.size)) {
            return BAD_ROW;
        }
        switch (what) {
            case 0: return rows.source[row];
            case 1: return rows.code[row];
            case 2: return rows.value[row];
            case 3: return rows.release[row];
            case 4: return rows.isCounted(row) ? 1 : 0;
            default: return BAD_ROW;
        }
    }

    public int asOf(int release) {
        if (!below(release, RELEASES)) {
            return BAD;
        }
        int was = rows.asOf;
        rows.asOf = release;
        tables.forgetAll();
        return was;
    }

    public int column(int column, int supply) {
        if (!below(column, COLUMNS) || !within(supply, 0, 1)) {
            return BAD;
        }
        int was = tables.supply[column] ? 1 : 0;
        tables.supply[column] = supply == 1;
        tables.forgetAll();
        return was;
    }

    public long said(int code) {
        if (!below(code, CODES)) {
            return refused(BAD);
        }
        rows.tally(code, rows.asOf, SOURCES - 1);
        return rows.weight == 0 ? refused(NOT) : rows.mean;
    }

    public int weight(int code) {
        if (!below(code, CODES)) {
            return BAD;
        }
        rows.tally(code, rows.asOf, SOURCES - 1);
        return rows.weight;
    }

    // ---- bent, closed

    public long bent(int code) {
        if (!below(code, CELLS)) {
            return refused(BAD);
        }
        tables.settle(landOf(code), productOf(code), yearOf(code));
        return tables.bent[code];
    }

    public long shape(int code) {
        if (!below(code, CODES) || !isAnnual(code)) {
            return refused(BAD);
        }
        tables.settle(landOf(code), productOf(code), yearOf(code));
        return tables.isAllSaid(code) ? tables.shapeOf(code) : refused(NOT);
    }

    public int fix(int land, int product, int column, boolean is) {
        if (!isLine(land, product, column)) {
            return BAD;
        }
        int line = lineOf(land, product, column);
        if (tables.fixed[line] == is) {
            return 0;
        }
        tables.fixed[line] = is;
        for (int year = 0; year < YEARS; year++) {
            tables.forget(land, product, year);
        }
        return 1;
    }

    public int rule(int r) {
        if (!within(r, 0, 1)) {
            return BAD;
        }
        int was = tables.rule;
        tables.rule = r;
        tables.forgetAll();
        return was;
    }

    public long gap(int land, int product, int quarter) {
        if (!isBalance(land, product, quarter)) {
            return refused(BAD);
        }
        tables.settle(land, product, quarter / YEAR_QUARTERS);
        return tables.gapOf(land, product, quarter);
    }

    public long closed(int code) {
        if (!below(code, CELLS)) {
            return refused(BAD);
        }
        tables.settle(landOf(code), productOf(code), yearOf(code));
        return tables.closed[code];
    }

    public long moved(int land, int product, int quarter) {
        if (!isBalance(land, product, quarter)) {
            return refused(BAD);
        }
        tables.settle(land, product, quarter / YEAR_QUARTERS);
        if (tables.isOpen(land, product, quarter)) {
            return refused(NOT);
        }
        return tables.movesOf(land, product, quarter);
    }

    public long total(int land, int product, int column, int quarter) {
        if (!within(land, NONE, LANDS - 1) || !within(product, NONE, PRODUCTS - 1)
                || !below(column, COLUMNS) || !below(quarter, QUARTERS)) {
            return refused(BAD);
        }
        tables.settleAll();
        return tables.sumOf(land, product, column, quarter);
    }

    public int open() {
        tables.settleAll();
        return tables.howManyOpen();
    }

    public int broken() {
        tables.settleAll();
        return tables.howManyBroken();
    }

    public int breaks(int i) {
        if (i < 0) {
            return BAD;
        }
        tables.settleAll();
        return tables.findBroken(i);
    }

    // ---- prices

    public int price(int product, int quarter, int p) {
        if (!below(product, PRODUCTS) || !below(quarter, QUARTERS) || !within(p, LEAST_PRICE, MOST_PRICE)) {
            return BAD;
        }
        int place = product * QUARTERS + quarter;
        int was = volumes.price[place];
        volumes.price[place] = p;
        return was;
    }

    public long volume(int product, int column, int quarter) {
        if (!below(product, PRODUCTS) || !below(column, COLUMNS) || !below(quarter, QUARTERS)) {
            return refused(BAD);
        }
        tables.settleAll();
        return volumes.volumeOf(product, column, quarter);
    }

    public long atPrices(int product, int column, int quarter, int year) {
        if (!isSeries(product, column) || !below(quarter, QUARTERS) || !below(year, YEARS)) {
            return refused(BAD);
        }
        tables.settleAll();
        return volumes.valueOf(product, column, quarter, year);
    }

    public long growth(int product, int column, int quarter) {
        if (!isSeries(product, column) || !within(quarter, 1, QUARTERS - 1)) {
            return refused(BAD);
        }
        tables.settleAll();
        return volumes.growthOf(product, column, quarter);
    }

    public long chain(int product, int column, int quarter) {
        if (!isSeries(product, column) || !below(quarter, QUARTERS)) {
            return refused(BAD);
        }
        tables.settleAll();
        return volumes.chainOf(product, column, quarter);
    }

    public long part(int product, int column, int quarter) {
        if (!below(product, PRODUCTS) || !below(column, COLUMNS) || !within(quarter, 1, QUARTERS - 1)) {
            return refused(BAD);
        }
        tables.settleAll();
        return volumes.hasGrowth(column, quarter) ? volumes.partOf(product, column, quarter) : refused(NOT);
    }

    public long apart(int column, int quarter) {
        if (!below(column, COLUMNS) || !below(quarter, QUARTERS)) {
            return refused(BAD);
        }
        tables.settleAll();
        return volumes.apartOf(column, quarter);
    }

    // ---- trade, sectors

    public int trade(int land, int product, int quarter, int what, int v) {
        if (!isBalance(land, product, quarter) || !within(what, 0, 1) || !within(v, NONE, MOST_VALUE)) {
            return BAD;
        }
        int place = dealings.placeOf(land, product, quarter, what);
        int was = dealings.told[place];
        dealings.told[place] = v;
        return was;
    }

    public int precise(int land, int p) {
        if (!below(land, LANDS) || !isGrade(p)) {
            return BAD;
        }
        int was = dealings.precision[land];
        dealings.precision[land] = p;
        return was;
    }

    public int hidden(int land, int product, int quarter) {
        if (!isBalance(land, product, quarter)) {
            return BAD_HIDDEN;
        }
        return dealings.hiddenOf(land, product, quarter);
    }

    public int agreed(int land, int product, int quarter) {
        if (!isBalance(land, product, quarter)) {
            return BAD;
        }
        return dealings.agreedOf(land, product, quarter);
    }

    public long flow(int from, int to, int quarter, int v) {
        if (!below(from, SECTORS) || !below(to, SECTORS) || from == to
                || !below(quarter, QUARTERS) || !within(v, -MOST_VALUE, MOST_VALUE)) {
            return refused(BAD);
        }
        return sectors.addFlow(from, to, quarter, v);
    }

    public long net(int sector, int quarter) {
        if (!isAccount(sector, quarter)) {
            return refused(BAD);
        }
        return sectors.netOf(sector, quarter);
    }

    public int stock(int sector, int quarter, int v) {
        if (!isAccount(sector, quarter) || !within(v, -MOST_STOCK, MOST_STOCK)) {
            return BAD;
        }
        int place = sector * QUARTERS + quarter;
        sectors.stock[place] = v;
        sectors.isTold[place] = true;
        return 1;
    }

    public int unstock(int sector, int quarter) {
        if (!isAccount(sector, quarter)) {
            return BAD;
        }
        int place = sector * QUARTERS + quarter;
        int was = sectors.isTold[place] ? 1 : 0;
        sectors.isTold[place] = false;
        return was;
    }

    public long due(int sector, int quarter) {
        if (!isAccount(sector, quarter)) {
            return refused(BAD);
        }
        return sectors.dueOf(sector, quarter);
    }

    public long off(int sector, int quarter) {
        if (!isAccount(sector, quarter)) {
            return refused(BAD);
        }
        int place = sector * QUARTERS + quarter;
        if (!sectors.isTold[place]) {
            return refused(NOT);
        }
        return sectors.stock[place] - sectors.dueOf(sector, quarter);
    }

    // ---- laws

    public int type(int law, int b) {
        if (!below(law, LAWS) || !within(b, 0, 255)) {
            return BAD;
        }
        if (laws[law].length >= MOST_BYTES) {
            return FULL;
        }
        laws[law].append(b);
        return laws[law].length;
    }

    public int repeal(int law) {
        if (!below(law, LAWS)) {
            return BAD;
        }
        int had = laws[law].length;
        laws[law].length = 0;
        return had;
    }

    public int fault(int law) {
        if (!below(law, LAWS)) {
            return BAD;
        }
        return laws[law].scan();
    }

    public long left(int law, int quarter) {
        if (!below(law, LAWS) || !below(quarter, QUARTERS)) {
            return refused(BAD);
        }
        if (laws[law].scan() != NONE) {
            return refused(NOT);
        }
        tables.settleAll();
        return laws[law].leftOver(tables.closed, quarter);
    }

    public int unkept(int quarter) {
        if (!below(quarter, QUARTERS)) {
            return BAD;
        }
        tables.settleAll();
        int number = 0;
        for (int i = 0; i < LAWS; i++) {
            if (laws[i].scan() == NONE && laws[i].leftOver(tables.closed, quarter) != 0) {
                number++;
            }
        }
        return number;
    }

    // ---- releases

    public long revision(int code, int from, int to) {
        if (!isRevision(code, from, to)) {
            return refused(BAD);
        }
        return rows.meanWith(code, to, SOURCES - 1) - rows.meanWith(code, from, SOURCES - 1);
    }

    public int steps(int code, int from, int to) {
        if (!isRevision(code, from, to)) {
            return BAD;
        }
        int number = 0;
        for (int at = firstStep(from); at < firstStep(to); at++) {
            if (rows.hasRow(code, at % SOURCES, at / SOURCES)) {
                number++;
            }
        }
        return number;
    }

    public long step(int code, int from, int to, int i, int what) {
        if (!isRevision(code, from, to) || i < 0 || !within(what, 0, 2)) {
            return refused(BAD);
        }
        int at = rows.findStep(code, firstStep(from), firstStep(to), i);
        if (at == NONE) {
            return refused(BAD);
        }
        int source = at % SOURCES;
        int release = at / SOURCES;
        switch (what) {
            case 0: return rows.meanWith(code, release, source) - rows.meanWith(code, release, source - 1);
            case 1: return source;
            default: return release;
        }
    }

    public long led(int code, boolean closed) {
        if (!below(code, CODES) || (closed && isAnnual(code))) {
            return refused(BAD);
        }
        long bits = 0;
        for (int i = 0; i < rows.size && i < NO_LED_ROW; i++) {
            boolean leads = closed ? isOneBlock(code, rows.code[i]) : code == rows.code[i];
            if (leads && rows.isCounted(i)) {
                bits |= 1L << i;
            }
        }
        return bits;
    }

    // ---- sheets

    public int sheet(int s, int form, int n) {
        if (!below(s, SHEETS) || !below(form, FORMS) || n > MOST_ITEMS) {
            return BAD;
        }
        if (n < 0) {
            return found(SIZE);
        }
        sheets[s].renew(form, n);
        return n;
    }

    public int lose(int s) {
        if (!below(s, SHEETS)) {
            return BAD;
        }
        if (sheets[s].isLost) {
            return found(NULL);
        }
        sheets[s].isLost = true;
        return sheets[s].size;
    }

    public int put(int s, int form, int i, int v) {
        int refusal = refusalOfItem(s, form, i);
        if (refusal != FINE) {
            return refusal;
        }
        sheets[s].store(i, v);
        return 1;
    }

    public int get(int s, int form, int i) {
        return refusalOfItem(s, form, i) != FINE ? LEAST_INT : sheets[s].items[i];
    }

    public int copy(int s, int i, int t, int j, int n) {
        if (!below(s, SHEETS) || !below(t, SHEETS)) {
            return BAD;
        }
        Sheet from = sheets[s];
        Sheet to = sheets[t];
        if (from.isLost || to.isLost) {
            return found(NULL);
        }
        if (from.form != to.form) {
            return found(STORE);
        }
        if (!from.holds(i, n) || !to.holds(j, n)) {
            return found(INDEX);
        }
        System.arraycopy(from.items, i, to.items, j, n);
        return 1;
    }

    public int read(int s) {
        if (!below(s, SHEETS)) {
            return BAD;
        }
        if (sheets[s].isLost) {
            return found(NULL);
        }
        int[] items = sheets[s].items;
        int number = 0;
        for (int i = 0; i + ROW_ITEMS <= sheets[s].size; i += ROW_ITEMS) {
            if (row(items[i], items[i + 1], items[i + 2], items[i + 3]) < 0) {
                return number;
            }
            number++;
        }
        return number;
    }

    public int write(int s, int land, int product, int column) {
        if (!below(s, SHEETS) || !isLine(land, product, column)) {
            return BAD;
        }
        if (sheets[s].isLost) {
            return found(NULL);
        }
        tables.settleAll();
        int first = cellCode(land, product, column, 0);
        int number = Math.min(sheets[s].size, QUARTERS);
        for (int quarter = 0; quarter < number; quarter++) {
            sheets[s].store(quarter, (int) tables.closed[first + quarter]);
        }
        return number;
    }

    public int count(int what) {
        switch (what) {
            case 0: return rows.size;
            case 1: return rows.countedRows();
            case 2: return rows.asOf;
            case 3: return tables.rule;
            case 4: return howManyTrue(tables.supply);
            case 5: return howManyTrue(tables.fixed);
            case 6: return howManyTrue(sectors.isTold);
            case 7: return bytesOfLaws();
            case 8: return latestFinding;
            default: return BAD;
        }
    }

    public long digest() {
        tables.settleAll();
        long h = 17;
        for (int what = 0; what < 8; what++) {
            h = 31 * h + count(what);
        }
        h = 31 * h + tables.howManyOpen();
        h = 31 * h + tables.howManyBroken();
        for (int column = 0; column < COLUMNS; column++) {
            for (int quarter = 0; quarter < QUARTERS; quarter++) {
                h = 31 * h + tables.sumOf(NONE, NONE, column, quarter);
            }
        }
        for (int column = 0; column < COLUMNS; column++) {
            h = 31 * h + volumes.chainOf(NONE, column, QUARTERS - 1);
        }
        for (int sector = 0; sector < SECTORS; sector++) {
            h = 31 * h + sectors.netOf(sector, 0);
        }
        for (int law = 0; law < LAWS; law++) {
            h = 31 * h + laws[law].scan();
        }
        return h;
    }

    // ---- refusals

    private static long refused(int refusal) {
        return LEAST_LONG - refusal;
    }

    private int found(int finding) {
        latestFinding = finding;
        return FINDINGS - finding;
    }

    private int refusalOfItem(int s, int form, int i) {
        if (!below(s, SHEETS) || !below(form, FORMS)) {
            return BAD;
        }
        if (sheets[s].isLost) {
            return found(NULL);
        }
        if (sheets[s].form != form) {
            return found(CAST);
        }
        return below(i, sheets[s].size) ? FINE : found(INDEX);
    }

    private static boolean within(int v, int least, int most) {
        return least <= v && v <= most;
    }

    private static boolean below(int v, int end) {
        return 0 <= v && v < end;
    }

    private static boolean isGrade(int v) {
        return within(v, 1, MOST_GRADE);
    }

    private static boolean isLine(int land, int product, int column) {
        return below(land, LANDS) && below(product, PRODUCTS) && below(column, COLUMNS);
    }

    private static boolean isBalance(int land, int product, int quarter) {
        return below(land, LANDS) && below(product, PRODUCTS) && below(quarter, QUARTERS);
    }

    private static boolean isSeries(int product, int column) {
        return within(product, NONE, PRODUCTS - 1) && below(column, COLUMNS);
    }

    private static boolean isAccount(int sector, int quarter) {
        return below(sector, SECTORS) && below(quarter, QUARTERS);
    }

    private static boolean isRevision(int code, int from, int to) {
        return below(code, CODES) && below(from, RELEASES) && below(to, RELEASES) && from < to;
    }

    // ---- codes

    private static int lineOf(int land, int product, int column) {
        return (land * PRODUCTS + product) * COLUMNS + column;
    }

    private static int cellCode(int land, int product, int column, int quarter) {
        return ((land * PRODUCTS + product) * COLUMNS + column) * QUARTERS + quarter;
    }

    private static int annualCode(int land, int product, int column, int year) {
        return CELLS + ((land * PRODUCTS + product) * COLUMNS + column) * YEARS + year;
    }

    private static boolean isAnnual(int code) {
        return code >= CELLS;
    }

    private static int lineOfCode(int code) {
        return isAnnual(code) ? (code - CELLS) / YEARS : code / QUARTERS;
    }

    private static int landOf(int code) {
        return lineOfCode(code) / (PRODUCTS * COLUMNS);
    }

    private static int productOf(int code) {
        return lineOfCode(code) / COLUMNS % PRODUCTS;
    }

    private static int columnOf(int code) {
        return lineOfCode(code) % COLUMNS;
    }

    private static int periodOf(int code) {
        return isAnnual(code) ? (code - CELLS) % YEARS : code % QUARTERS;
    }

    private static int yearOf(int code) {
        return isAnnual(code) ? periodOf(code) : periodOf(code) / YEAR_QUARTERS;
    }

    private static boolean isOneBlock(int code, int other) {
        return landOf(code) == landOf(other) && productOf(code) == productOf(other)
                && yearOf(code) == yearOf(other);
    }

    /** Steps are asked for in order of release, then source: one number for both keeps that order. */
    private static int firstStep(int release) {
        return (release + 1) * SOURCES;
    }

    // ---- counts

    private static int howManyTrue(boolean[] flags) {
        int number = 0;
        for (boolean flag : flags) {
            if (flag) {
                number++;
            }
        }
        return number;
    }

    private int bytesOfLaws() {
        int number = 0;
        for (int i = 0; i < LAWS; i++) {
            number += laws[i].length;
        }
        return number;
    }

    /** What sources say, and which of it counts. */
    private static final class Rows {
        final int[] trust = new int[SOURCES];
        final int[] source = new int[MOST_ROWS];
        final int[] code = new int[MOST_ROWS];
        final int[] value = new int[MOST_ROWS];
        final int[] release = new int[MOST_ROWS];
        // The rows of a code hang together, the latest first: a code without rows costs nothing to ask.
        final int[] latest = new int[CODES];
        final int[] older = new int[MOST_ROWS];
        final int[] picked = new int[SOURCES];
        int size = 0;
        int asOf = RELEASES - 1;
        // What the last tally() found.
        int weight = 0;
        int mean = 0;

        Rows() {
            Arrays.fill(trust, 1);
            Arrays.fill(latest, NONE);
        }

        int append(int source, int code, int value, int release) {
            int i = size;
            this.source[i] = source;
            this.code[i] = code;
            this.value[i] = value;
            this.release[i] = release;
            older[i] = latest[code];
            latest[code] = i;
            size++;
            return i;
        }

        /** Of the release itself only sources up to the last one are known: so steps are told apart. */
        private void pick(int code, int release, int lastSource) {
            Arrays.fill(picked, NONE);
            int i = latest[code];
            for (int n = 0; n < MOST_ROWS && i != NONE; n++) {
                int from = source[i];
                int at = this.release[i];
                boolean isKnown = at < release || (at == release && from <= lastSource);
                // Later rows come first here, so of like releases the first seen stays.
                if (isKnown && (picked[from] == NONE || at > this.release[picked[from]])) {
                    picked[from] = i;
                }
                i = older[i];
            }
        }

        void tally(int code, int release, int lastSource) {
            weight = 0;
            mean = 0;
            if (latest[code] == NONE) {
                return;
            }
            pick(code, release, lastSource);
            int sum = 0;
            for (int s = 0; s < SOURCES; s++) {
                if (picked[s] != NONE) {
                    weight += trust[s];
                    sum += trust[s] * value[picked[s]];
                }
            }
            if (weight > 0) {
                mean = (2 * sum + weight) / (2 * weight);
            }
        }

        long meanWith(int code, int release, int lastSource) {
            tally(code, release, lastSource);
            return mean;
        }

        boolean isCounted(int row) {
            pick(code[row], asOf, SOURCES - 1);
            return picked[source[row]] == row;
        }

        int countedRows() {
            int number = 0;
            for (int i = 0; i < size; i++) {
                if (isCounted(i)) {
                    number++;
                }
            }
            return number;
        }

        boolean hasRow(int code, int source, int release) {
            int i = latest[code];
            for (int n = 0; n < MOST_ROWS && i != NONE; n++) {
                if (this.source[i] == source && this.release[i] == release) {
                    return true;
                }
                i = older[i];
            }
            return false;
        }

        int findStep(int code, int first, int end, int i) {
            int ahead = i;
            for (int at = first; at < end; at++) {
                if (hasRow(code, at % SOURCES, at / SOURCES)) {
                    if (ahead == 0) {
                        return at;
                    }
                    ahead--;
                }
            }
            return NONE;
        }
    }

    /** Parts of a whole, each rounded down, with what is left given by 1 to the greatest rests. */
    private static final class Parts {
        final long[] share = new long[COLUMNS];
        final long[] part = new long[COLUMNS];
        final long[] rest = new long[COLUMNS];

        /** Without any share all parts are 0: nothing can be moved there. */
        void deal(long whole, int number) {
            long sum = 0;
            for (int i = 0; i < number; i++) {
                sum += share[i];
            }
            long left = whole;
            for (int i = 0; i < number; i++) {
                left -= divide(i, whole * share[i], sum);
            }
            if (sum > 0) {
                handOut(left, number);
            }
        }

        long divide(int i, long upper, long lower) {
            part[i] = lower > 0 ? Math.floorDiv(upper, lower) : 0;
            rest[i] = lower > 0 ? Math.floorMod(upper, lower) : 0;
            return part[i];
        }

        void handOut(long left, int number) {
            for (int n = 0; n < left && n < number; n++) {
                int greatest = 0;
                for (int i = 1; i < number; i++) {
                    if (rest[i] > rest[greatest]) {
                        greatest = i;
                    }
                }
                part[greatest]++;
                // None gets a second one.
                rest[greatest] = NONE;
            }
        }
    }

    /** Cells of supply and use. A block (land, product, year) touches no other, so each is settled by itself, when asked. */
    private static final class Tables {
        static final int COST_SHARES = 2520;

        final Rows rows;
        final Parts parts = new Parts();
        final boolean[] supply = new boolean[COLUMNS];
        final boolean[] fixed = new boolean[LANDS * PRODUCTS * COLUMNS];
        final boolean[] isSettled = new boolean[LANDS * PRODUCTS * YEARS];
        final int[] said = new int[CODES];
        final int[] weight = new int[CODES];
        final int[] cost = new int[COLUMNS];
        final long[] bent = new long[CELLS];
        final long[] closed = new long[CELLS];
        int rule = 0;

        Tables(Rows rows) {
            this.rows = rows;
            for (int column = 0; column < COLUMNS / 2; column++) {
                supply[column] = true;
            }
        }

        static int blockOf(int land, int product, int year) {
            return (land * PRODUCTS + product) * YEARS + year;
        }

        void forget(int land, int product, int year) {
            isSettled[blockOf(land, product, year)] = false;
        }

        void forgetAll() {
            for (int block = 0; block < isSettled.length; block++) {
                isSettled[block] = false;
            }
        }

        void settleAll() {
            for (int block = 0; block < isSettled.length; block++) {
                int line = block / YEARS;
                settle(line / PRODUCTS, line % PRODUCTS, block % YEARS);
            }
        }

        void settle(int land, int product, int year) {
            int block = blockOf(land, product, year);
            if (isSettled[block]) {
                return;
            }
            isSettled[block] = true;
            int firstQuarter = year * YEAR_QUARTERS;
            for (int column = 0; column < COLUMNS; column++) {
                int annual = annualCode(land, product, column, year);
                int first = cellCode(land, product, column, firstQuarter);
                hear(annual);
                for (int q = 0; q < YEAR_QUARTERS; q++) {
                    hear(first + q);
                }
                bend(first, annual);
            }
            for (int q = 0; q < YEAR_QUARTERS; q++) {
                close(land, product, firstQuarter + q);
            }
        }

        private void hear(int code) {
            rows.tally(code, rows.asOf, SOURCES - 1);
            said[code] = rows.mean;
            weight[code] = rows.weight;
        }

        private void bend(int first, int annual) {
            long sum = 0;
            int unsaid = 0;
            for (int q = 0; q < YEAR_QUARTERS; q++) {
                bent[first + q] = said[first + q];
                sum += said[first + q];
                unsaid += weight[first + q] == 0 ? 1 : 0;
            }
            if (weight[annual] == 0) {
                return;
            }
            boolean keepsSaid = unsaid > 0;
            for (int q = 0; q < YEAR_QUARTERS; q++) {
                if (keepsSaid) {
                    parts.share[q] = weight[first + q] == 0 ? 1 : 0;
                } else {
                    parts.share[q] = sum == 0 ? 1 : said[first + q];
                }
            }
            parts.deal(keepsSaid ? said[annual] - sum : said[annual], YEAR_QUARTERS);
            for (int q = 0; q < YEAR_QUARTERS; q++) {
                if (!keepsSaid || weight[first + q] == 0) {
                    bent[first + q] = parts.part[q];
                }
            }
        }

        private void close(int land, int product, int quarter) {
            reckonCosts(land, product, quarter);
            if (rule == 0) {
                shareToCheapest();
            } else {
                shareByCost();
            }
            parts.deal(gapOf(land, product, quarter), COLUMNS);
            for (int column = 0; column < COLUMNS; column++) {
                int cell = cellCode(land, product, column, quarter);
                long move = supply[column] ? -parts.part[column] : parts.part[column];
                closed[cell] = bent[cell] + move;
            }
        }

        /** A cost is at least 1: 0 stands for a fixed column, which cannot be moved at any cost. */
        private void reckonCosts(int land, int product, int quarter) {
            int year = quarter / YEAR_QUARTERS;
            for (int column = 0; column < COLUMNS; column++) {
                int cell = cellCode(land, product, column, quarter);
                int annual = annualCode(land, product, column, year);
                boolean isFixed = fixed[lineOf(land, product, column)];
                cost[column] = isFixed ? 0 : weight[cell] + weight[annual] + 1;
            }
        }

        private void shareToCheapest() {
            int cheapest = NONE;
            for (int column = 0; column < COLUMNS; column++) {
                parts.share[column] = 0;
                if (cost[column] > 0 && (cheapest == NONE || cost[column] < cost[cheapest])) {
                    cheapest = column;
                }
            }
            if (cheapest != NONE) {
                parts.share[cheapest] = 1;
            }
        }

        private void shareByCost() {
            for (int column = 0; column < COLUMNS; column++) {
                parts.share[column] = cost[column] > 0 ? COST_SHARES / cost[column] : 0;
            }
        }

        long gapOf(int land, int product, int quarter) {
            long gap = 0;
            for (int column = 0; column < COLUMNS; column++) {
                long value = bent[cellCode(land, product, column, quarter)];
                gap += supply[column] ? value : -value;
            }
            return gap;
        }

        boolean isOpen(int land, int product, int quarter) {
            for (int column = 0; column < COLUMNS; column++) {
                if (!fixed[lineOf(land, product, column)]) {
                    return false;
                }
            }
            return gapOf(land, product, quarter) != 0;
        }

        long movesOf(int land, int product, int quarter) {
            long sum = 0;
            for (int column = 0; column < COLUMNS; column++) {
                int cell = cellCode(land, product, column, quarter);
                sum += Math.abs(closed[cell] - bent[cell]);
            }
            return sum;
        }

        long sumOf(int land, int product, int column, int quarter) {
            long sum = 0;
            for (int l = 0; l < LANDS; l++) {
                for (int p = 0; p < PRODUCTS; p++) {
                    if ((land == NONE || land == l) && (product == NONE || product == p)) {
                        sum += closed[cellCode(l, p, column, quarter)];
                    }
                }
            }
            return sum;
        }

        private static int firstCellOf(int annual) {
            return lineOfCode(annual) * QUARTERS + yearOf(annual) * YEAR_QUARTERS;
        }

        boolean isAllSaid(int annual) {
            int first = firstCellOf(annual);
            for (int q = 0; q < YEAR_QUARTERS; q++) {
                if (weight[first + q] == 0) {
                    return false;
                }
            }
            return weight[annual] > 0;
        }

        long shapeOf(int annual) {
            int first = firstCellOf(annual);
            long sum = 0;
            for (int q = 0; q < YEAR_QUARTERS; q++) {
                sum += Math.abs(bent[first + q] - said[first + q]);
            }
            return sum;
        }

        boolean isBroken(int annual) {
            int first = firstCellOf(annual);
            long sum = 0;
            for (int q = 0; q < YEAR_QUARTERS; q++) {
                sum += closed[first + q];
            }
            return weight[annual] > 0 && sum != said[annual];
        }

        int howManyOpen() {
            int number = 0;
            for (int land = 0; land < LANDS; land++) {
                for (int product = 0; product < PRODUCTS; product++) {
                    for (int quarter = 0; quarter < QUARTERS; quarter++) {
                        number += isOpen(land, product, quarter) ? 1 : 0;
                    }
                }
            }
            return number;
        }

        int howManyBroken() {
            int number = 0;
            for (int code = CELLS; code < CODES; code++) {
                number += isBroken(code) ? 1 : 0;
            }
            return number;
        }

        int findBroken(int i) {
            int ahead = i;
            for (int code = CELLS; code < CODES; code++) {
                if (isBroken(code)) {
                    if (ahead == 0) {
                        return code;
                    }
                    ahead--;
                }
            }
            return NONE;
        }
    }

    /** Volumes and their chains. Where a product may be NONE, all products are meant. */
    private static final class Volumes {
        static final int FIRST_PRICE = 100;
        static final long MOST_GROWTH = 1000000000, MOST_CHAIN = 10000000;

        final Tables tables;
        final int[] price = new int[PRODUCTS * QUARTERS];
        final Parts parts = new Parts();

        Volumes(Tables tables) {
            this.tables = tables;
            Arrays.fill(price, FIRST_PRICE);
        }

        long volumeOf(int product, int column, int quarter) {
            int at = price[product * QUARTERS + quarter];
            long hundredfold = 100 * tables.sumOf(NONE, product, column, quarter);
            return at > 0 ? Math.floorDiv(hundredfold, (long) at) : 0;
        }

        private long meanPriceOf(int product, int year) {
            int first = product * QUARTERS + year * YEAR_QUARTERS;
            long sum = 0;
            for (int q = 0; q < YEAR_QUARTERS; q++) {
                sum += price[first + q];
            }
            return sum;
        }

        long valueOf(int product, int column, int quarter, int year) {
            long sum = 0;
            for (int p = 0; p < PRODUCTS; p++) {
                if (product == NONE || product == p) {
                    sum += volumeOf(p, column, quarter) * meanPriceOf(p, year);
                }
            }
            return sum;
        }

        private static int priceYearOf(int quarter) {
            return Math.max(quarter / YEAR_QUARTERS - 1, 0);
        }

        private static long ratio(long upper, long lower) {
            return lower > 0 ? Math.floorDiv(upper * MILLION, lower) : NONE;
        }

        long growthOf(int product, int column, int quarter) {
            int year = priceYearOf(quarter);
            return ratio(valueOf(product, column, quarter, year), valueOf(product, column, quarter - 1, year));
        }

        boolean hasGrowth(int column, int quarter) {
            return valueOf(NONE, column, quarter - 1, priceYearOf(quarter)) > 0;
        }

        /** Whether there is a growth is asked of the sums: a growth of -1 looks like NONE, and is none. */
        long chainOf(int product, int column, int quarter) {
            long chain = MILLION;
            for (int q = 1; q <= quarter; q++) {
                int year = priceYearOf(q);
                long before = valueOf(product, column, q - 1, year);
                if (before > 0) {
                    long growth = cut(ratio(valueOf(product, column, q, year), before), MOST_GROWTH);
                    chain = cut(chained(growth, chain), MOST_CHAIN);
                }
            }
            return chain;
        }

        private static long cut(long v, long most) {
            return Math.max(-most, Math.min(v, most));
        }

        long partOf(int product, int column, int quarter) {
            int year = priceYearOf(quarter);
            long before = valueOf(NONE, column, quarter - 1, year);
            long left = ratio(valueOf(NONE, column, quarter, year), before) - MILLION;
            for (int p = 0; p < PRODUCTS; p++) {
                long rise = valueOf(p, column, quarter, year) - valueOf(p, column, quarter - 1, year);
                left -= parts.divide(p, rise * MILLION, before);
            }
            parts.handOut(left, PRODUCTS);
            return parts.part[product];
        }

        long apartOf(int column, int quarter) {
            long sum = 0;
            for (int p = 0; p < PRODUCTS; p++) {
                sum += chained(valueOf(p, column, 0, 0), chainOf(p, column, quarter));
            }
            return sum - chained(valueOf(NONE, column, 0, 0), chainOf(NONE, column, quarter));
        }

        private static long chained(long first, long chain) {
            return Math.floorDiv(first * chain, MILLION);
        }
    }

    /** What lands say of trade with each other. */
    private static final class Dealings {
        static final int SOLD = 0, BOUGHT = 1, KINDS = 2;

        final int[] told = new int[LANDS * PRODUCTS * QUARTERS * KINDS];
        final int[] precision = new int[LANDS];

        Dealings() {
            Arrays.fill(told, NONE);
            Arrays.fill(precision, 1);
        }

        int placeOf(int land, int product, int quarter, int kind) {
            return ((land * PRODUCTS + product) * QUARTERS + quarter) * KINDS + kind;
        }

        int hiddenOf(int seller, int product, int quarter) {
            int sold = told[placeOf(seller, product, quarter, SOLD)];
            int bought = told[placeOf(1 - seller, product, quarter, BOUGHT)];
            return sold == NONE || bought == NONE ? NOT_HIDDEN : bought - sold;
        }

        int agreedOf(int seller, int product, int quarter) {
            int sold = told[placeOf(seller, product, quarter, SOLD)];
            int bought = told[placeOf(1 - seller, product, quarter, BOUGHT)];
            if (sold == NONE || bought == NONE) {
                return Math.max(0, Math.max(sold, bought));
            }
            int weight = precision[seller] + precision[1 - seller];
            int sum = sold * precision[seller] + bought * precision[1 - seller];
            return weight > 0 ? (2 * sum + weight) / (2 * weight) : 0;
        }
    }

    /** Sectors' flows and stocks. */
    private static final class Sectors {
        final long[] flow = new long[SECTORS * SECTORS * QUARTERS];
        final int[] stock = new int[SECTORS * QUARTERS];
        final boolean[] isTold = new boolean[SECTORS * QUARTERS];

        private static int placeOf(int from, int to, int quarter) {
            return (from * SECTORS + to) * QUARTERS + quarter;
        }

        long addFlow(int from, int to, int quarter, int v) {
            int place = placeOf(from, to, quarter);
            flow[place] += v;
            return flow[place];
        }

        long netOf(int sector, int quarter) {
            long net = 0;
            for (int other = 0; other < SECTORS; other++) {
                net += flow[placeOf(other, sector, quarter)] - flow[placeOf(sector, other, quarter)];
            }
            return net;
        }

        long dueOf(int sector, int quarter) {
            long due = 0;
            for (int q = 0; q < quarter; q++) {
                int place = sector * QUARTERS + q;
                due = isTold[place] ? stock[place] : due + netOf(sector, q);
            }
            return due + netOf(sector, quarter);
        }
    }

    /** A law's text, and the terms that the last scan found in it. */
    private static final class Law {
        static final int MOST_FIGURES = 6, CELL_FIGURES = 3;

        final int[] text = new int[MOST_BYTES];
        int length = 0;
        // A term is so many times a cell of a quarter, or the number alone; those on the right are below 0.
        final int[] times = new int[MOST_BYTES];
        final int[] cell = new int[MOST_BYTES];
        int terms = 0;
        int place = 0;

        void append(int b) {
            text[length] = b;
            length++;
        }

        /** Answers the fault or NONE. */
        int scan() {
            place = 0;
            terms = 0;
            int side = 1;
            int sign = 1;
            for (int n = 0; n < MOST_BYTES; n++) {
                int fault = scanTerm(sign);
                if (fault != NONE) {
                    return fault;
                }
                if (place >= length) {
                    return side < 0 ? NONE : place;
                }
                if (isNext('=') && side > 0) {
                    side = -1;
                    sign = -1;
                } else if (isNext('+')) {
                    sign = side;
                } else if (isNext('-')) {
                    sign = -side;
                } else {
                    return place;
                }
                place++;
            }
            return place;
        }

        private int scanTerm(int sign) {
            int start = place;
            int number = scanNumber();
            if (place == start) {
                return scanCell(sign);
            }
            if (isNext('*')) {
                place++;
                return scanCell(sign * number);
            }
            return addTerm(sign * number, NONE);
        }

        private int scanNumber() {
            int number = 0;
            for (int n = 0; n < MOST_FIGURES && isFigureNext(); n++) {
                number = 10 * number + text[place] - '0';
                place++;
            }
            return number;
        }

        private int scanCell(int factor) {
            if (!isNext('c')) {
                return place;
            }
            place++;
            int first = place;
            for (int n = 0; n < CELL_FIGURES; n++) {
                if (!isFigureNext()) {
                    return place;
                }
                place++;
            }
            int land = text[first] - '0';
            int product = text[first + 1] - '0';
            int column = text[first + 2] - '0';
            return isLine(land, product, column) ? addTerm(factor, cellCode(land, product, column, 0)) : first;
        }

        private int addTerm(int factor, int firstCell) {
            if (terms < MOST_BYTES) {
                times[terms] = factor;
                cell[terms] = firstCell;
                terms++;
            }
            return NONE;
        }

        private boolean isNext(int b) {
            return place < length && text[place] == b;
        }

        private boolean isFigureNext() {
            return place < length && within(text[place], '0', '9');
        }

        long leftOver(long[] closed, int quarter) {
            long sum = 0;
            for (int i = 0; i < terms; i++) {
                sum += cell[i] == NONE ? times[i] : times[i] * closed[cell[i] + quarter];
            }
            return sum;
        }
    }

    /** A row of items; its room is made once and used again. */
    private static final class Sheet {
        final int[] items = new int[MOST_ITEMS];
        int form = BYTES;
        int size = 0;
        boolean isLost = true;

        void renew(int form, int size) {
            Arrays.fill(items, 0);
            this.form = form;
            this.size = size;
            isLost = false;
        }

        void store(int i, int v) {
            items[i] = form == BYTES ? (byte) v : form == SHORTS ? (short) v : v;
        }

        boolean holds(int i, int n) {
            return i >= 0 && n >= 0 && i <= size && n <= size - i;
        }
    }
}
