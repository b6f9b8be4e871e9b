import java.io.IOException;

/** The edges that the promises name, each promise by itself. */
public final class EdgesOfPromisesTest extends Edges {
    // ---- sources, rows

    @Says(at = "Promise 1", words = "No ROWS;")
    static void aNewObjectHasNoRows(NationBooks x) {
        due("rows", x.count(0), 0);
        due("rows that count", x.count(1), 0);
        due("row 0", x.rowIs(0, 0), -1000000);
        due("first row", x.row(0, 0, 0, 0), 0);
    }

    @Says(at = "Promise 1", words = "all SHEETS are LOST.")
    static void aNewObjectHasNoSheets(NationBooks x) {
        for (int s = 0; s < 4; s++) {
            found(NOTHING, 1, "lose", s);
        }
    }

    @Says(at = "Promise 2", words = "TRUST of a SOURCE: what it was.")
    static void trustAnswersWhatItWas(NationBooks x) {
        due("first", x.trust(9, 9), 1);
        due("then", x.trust(9, 9), 9);
        due("again", x.trust(9, 2), 9);
        due("of another", x.trust(8, 1), 1);
    }

    @Says(at = "Promise 2", words = "BAD.")
    static void trustIsBad(NationBooks x) {
        rangesOfCall("trust");
    }

    @Says(at = "Promise 3", words = "CODE of a CELL.")
    static void codesOfCellsAreOneBehindTheOther(NationBooks x) {
        for (int i = 0; i < 288; i++) {
            int code = i < 144 ? i : 288 + i;
            due("code " + code, x.code(code / 288, code / 72 % 4, code / 12 % 6, code % 12), code);
        }
    }

    @Says(at = "Promise 3", words = "BAD.")
    static void codeIsBad(NationBooks x) {
        rangesOfCall("code");
        due("all too large", x.code(2, 4, 6, 12), -2);
        due("all too small", x.code(-1, -1, -1, -1), -2);
        due("no carry into the next column", x.code(0, 0, 0, 12), -2);
    }

    @Says(at = "Promise 4", words = "CODE of an ANNUAL.")
    static void codesOfAnnualsAreOneBehindTheOther(NationBooks x) {
        for (int i = 0; i < 144; i++) {
            due("code " + (576 + i), x.annual(i / 72, i / 18 % 4, i / 3 % 6, i % 3), 576 + i);
        }
    }

    @Says(at = "Promise 4", words = "BAD.")
    static void annualIsBad(NationBooks x) {
        rangesOfCall("annual");
        due("all too large", x.annual(2, 4, 6, 3), -2);
        due("all too small", x.annual(-1, -1, -1, -1), -2);
    }

    @Says(at = "Promise 5", words = "Of a CODE: 0 LAND, 1 PRODUCT, 2 COLUMN, 3 QUARTER or YEAR, 4 whether ANNUAL.")
    static void decodeAtTheEdgesOfCodes(NationBooks x) {
        int[][] codes = {{0, 0, 0, 0, 0, 0}, {11, 0, 0, 0, 11, 0}, {12, 0, 0, 1, 0, 0}, {71, 0, 0, 5, 11, 0},
            {72, 0, 1, 0, 0, 0}, {287, 0, 3, 5, 11, 0}, {288, 1, 0, 0, 0, 0}, {575, 1, 3, 5, 11, 0},
            {576, 0, 0, 0, 0, 1}, {578, 0, 0, 0, 2, 1}, {579, 0, 0, 1, 0, 1}, {593, 0, 0, 5, 2, 1},
            {594, 0, 1, 0, 0, 1}, {647, 0, 3, 5, 2, 1}, {648, 1, 0, 0, 0, 1}, {719, 1, 3, 5, 2, 1}};
        for (int[] c : codes) {
            for (int what = 0; what < 5; what++) {
                due("decode(" + c[0] + ", " + what + ")", x.decode(c[0], what), c[what + 1]);
            }
        }
    }

    @Says(at = "Promise 5", words = "BAD.")
    static void decodeIsBad(NationBooks x) {
        rangesOfCall("decode");
    }

    @Says(at = "Promise 6", words = "A ROW more: its number.")
    static void rowAnswersItsNumber(NationBooks x) {
        for (int i = 0; i < 80; i++) {
            due("row " + i, x.row(0, 0, 0, 0), i);
        }
    }

    @Says(at = "Promise 6", words = "BAD;")
    static void rowIsBad(NationBooks x) {
        rangesOfCall("row");
        due("refused", x.row(0, 0, -1, 0), -2);
        due("the next has the number 0", x.row(0, 0, 0, 0), 0);
    }

    private static void tell79Rows(NationBooks x) {
        for (int i = 0; i < 79; i++) {
            x.row(i % 10, i, i, i % 10);
        }
    }

    @Says(at = "Promise 6", words = "FULL.")
    static void rowIsFull(NationBooks x) {
        tell79Rows(x);
        due("the last", x.row(9, 719, 100000, 9), 79);
        due("full", x.row(0, 0, 0, 0), -4);
        due("full again", x.row(0, 0, 0, 0), -4);
        due("bad", x.row(0, 0, 0, -1), -2);
        due("rows", x.count(0), 80);
        refused(y -> {
            tell79Rows(y);
            y.row(9, 719, 100000, 9);
        }, NationBooks.FULL, "row", 1, 2, 3, 4);
    }

    @Says(at = "Promise 7", words = "Of a ROW: 0 SOURCE, 1 CODE, 2 value, 3 RELEASE, 4 whether it counts as of the RELEASE.")
    static void rowIsOfTheEdges(NationBooks x) {
        x.row(0, 0, 0, 0);
        x.row(9, 719, 100000, 9);
        int[][] rows = {{0, 0, 0, 0, 1}, {9, 719, 100000, 9, 1}};
        for (int what = 0; what < 5; what++) {
            due("row 0, " + what, x.rowIs(0, what), rows[0][what]);
            due("row 1, " + what, x.rowIs(1, what), rows[1][what]);
        }
        x.asOf(8);
        due("not known yet", x.rowIs(1, 4), 0);
        due("its release all the same", x.rowIs(1, 3), 9);
        x.row(0, 0, 5, 0);
        due("a later one counts", x.rowIs(0, 4), 0);
    }

    @Says(at = "Promise 7", words = "BAD: -1000000.")
    static void rowIsIsBad(NationBooks x) {
        rangesOfCall("rowIs");
        bad(NOTHING, "rowIs", 0, 0);
    }

    @Says(at = "Promise 8", words = "The RELEASE all is as of: what it was.")
    static void asOfAnswersWhatItWas(NationBooks x) {
        due("first", x.asOf(0), 9);
        due("then", x.asOf(0), 0);
        due("again", x.asOf(9), 0);
        due("told", x.count(2), 9);
    }

    @Says(at = "Promise 8", words = "BAD.")
    static void asOfIsBad(NationBooks x) {
        rangesOfCall("asOf");
    }

    @Says(at = "Promise 9", words = "A COLUMN is SUPPLY (1), USE (0): what it was.")
    static void columnAnswersWhatItWas(NationBooks x) {
        due("to use", x.column(0, 0), 1);
        due("use already", x.column(0, 0), 0);
        due("to supply", x.column(0, 1), 0);
        due("supply already", x.column(0, 1), 1);
        due("the last", x.column(5, 1), 0);
        due("supply columns", x.count(4), 4);
    }

    @Says(at = "Promise 9", words = "BAD.")
    static void columnIsBad(NationBooks x) {
        rangesOfCall("column");
    }

    @Says(at = "Promise 10", words = "SAID value of a CODE.")
    static void saidAtTheEdgesOfCodes(NationBooks x) {
        rows(x, 0, 100000);
        rows(x, 575, 0, 7);
        rows(x, 719, 9);
        due("first cell", x.said(0), 100000);
        due("last cell", x.said(575), 0);
        due("first annual", x.said(576), 7);
        due("last annual", x.said(719), 9);
    }

    @Says(at = "Promise 10", words = "BAD;")
    static void saidIsBad(NationBooks x) {
        rangesOfCall("said");
    }

    @Says(at = "Promise 10", words = "NOT: it is not SAID. (Both as the least long.)")
    static void saidIsNot(NationBooks x) {
        refused(NOTHING, NOT, "said", 0);
        refused(NOTHING, NOT, "said", 719);
        refused(RANGES, NOT, "said", 1);
        x.row(0, 0, 5, 1);
        x.asOf(0);
        due("not said yet", x.said(0), NOT);
        x.asOf(1);
        due("said", x.said(0), 5);
    }

    @Says(at = "Promise 11", words = "WEIGHT of a CODE.")
    static void weightFrom0To90(NationBooks x) {
        due("none", x.weight(719), 0);
        for (int s = 0; s < 10; s++) {
            x.row(s, 719, 0, 0);
            x.row(s, 719, 0, 9);
            due("a source counts once", x.weight(719), s + 1);
        }
        for (int s = 0; s < 10; s++) {
            x.trust(s, 9);
        }
        due("all", x.weight(719), 90);
    }

    @Says(at = "Promise 11", words = "BAD.")
    static void weightIsBad(NationBooks x) {
        rangesOfCall("weight");
    }

    // ---- bent, closed

    @Says(at = "Promise 12", words = "BENT value of a CELL.")
    static void bentIsOfACell(NationBooks x) {
        rows(x, 0, 3);
        rows(x, 575, 4);
        due("first", x.bent(0), 3);
        due("last", x.bent(575), 4);
    }

    @Says(at = "Promise 12", words = "BAD: as the least long.")
    static void bentIsBad(NationBooks x) {
        rangesOfCall("bent");
        due("an annual is not a cell", x.bent(576), BAD);
    }

    @Says(at = "Promise 13", words = "SHAPE of an ANNUAL's CODE.")
    static void shapeIsOfAnAnnual(NationBooks x) {
        rows(x, 572, 1, 1, 1, 1);
        rows(x, 719, 9);
        due("of the last", x.shape(719), 5);
    }

    @Says(at = "Promise 13", words = "BAD;")
    static void shapeIsBad(NationBooks x) {
        rangesOfCall("shape");
        due("a cell is not an annual", x.shape(575), BAD);
    }

    @Says(at = "Promise 13", words = "NOT: it, or one of its QUARTERS, is not SAID. (As the least long.)")
    static void shapeIsNot(NationBooks x) {
        refused(NOTHING, NOT, "shape", 576);
        refused(y -> rows(y, 0, 1, 1, 1, 1), NOT, "shape", 576);
        refused(y -> rows(y, 576, 1), NOT, "shape", 576);
        for (int q = 0; q < 4; q++) {
            int missing = q;
            refused(y -> {
                rows(y, 576, 9);
                for (int other = 0; other < 4; other++) {
                    if (other != missing) rows(y, other, 1);
                }
            }, NOT, "shape", 576);
        }
        rows(x, 0, 0, 0, 0, 0);
        rows(x, 576, 0);
        due("all are said as 0", x.shape(576), 0);
    }

    @Says(at = "Promise 14", words = "A COLUMN of a LAND and PRODUCT is FIXED, or not: 1; 0: it is so already.")
    static void fixAnswersWhetherItChanges(NationBooks x) {
        due("loose already", x.fix(1, 3, 5, false), 0);
        due("fixed", x.fix(1, 3, 5, true), 1);
        due("fixed already", x.fix(1, 3, 5, true), 0);
        due("told", x.count(5), 1);
        due("loose", x.fix(1, 3, 5, false), 1);
        due("told", x.count(5), 0);
    }

    @Says(at = "Promise 14", words = "BAD.")
    static void fixIsBad(NationBooks x) {
        rangesOfCall("fix");
        bad(RANGES, "fix", 2, 0, 0, true);
        bad(RANGES, "fix", 0, 4, 0, true);
        bad(RANGES, "fix", 0, 0, 6, true);
    }

    @Says(at = "Promise 15", words = "RULE (0, 1; 0 at first): what it was.")
    static void ruleIs0Or1And0AtFirst(NationBooks x) {
        due("at first", x.count(3), 0);
        rows(x, 36, 7);
        due("column 1 by rule 0", x.closed(12), 0);
        due("to 1", x.rule(1), 0);
        due("column 1 by rule 1", x.closed(12), 1);
        due("1 already", x.rule(1), 1);
        due("told", x.count(3), 1);
        due("to 0", x.rule(0), 1);
    }

    @Says(at = "Promise 15", words = "BAD.")
    static void ruleIsBad(NationBooks x) {
        rangesOfCall("rule");
        due("refused", x.rule(2), -2);
    }

    @Says(at = "Promise 16", words = "GAP.")
    static void gapAtItsEdges(NationBooks x) {
        rows(x, 575, 9);
        due("of the last", x.gap(1, 3, 11), -9);
        fix(x, 1, 3, 0, 1, 2, 3, 4, 5);
        due("of an open one too", x.gap(1, 3, 11), -9);
    }

    @Says(at = "Promise 16", words = "BAD: as the least long.")
    static void gapIsBad(NationBooks x) {
        rangesOfCall("gap");
    }

    @Says(at = "Promise 17", words = "CLOSED value of a CELL.")
    static void closedIsOfACell(NationBooks x) {
        rows(x, 575, 9);
        due("the last stays", x.closed(575), 9);
        due("the first column rises", x.closed(cell(1, 3, 0, 11)), 9);
    }

    @Says(at = "Promise 17", words = "BAD: as the least long.")
    static void closedIsBad(NationBooks x) {
        rangesOfCall("closed");
        due("an annual is not a cell", x.closed(576), BAD);
    }

    @Says(at = "Promise 18", words = "MOVED.")
    static void movedAtItsEdges(NationBooks x) {
        rows(x, 575, 9);
        due("of the last", x.moved(1, 3, 11), 9);
    }

    @Says(at = "Promise 18", words = "BAD: as the least long;")
    static void movedIsBad(NationBooks x) {
        rangesOfCall("moved");
    }

    @Says(at = "Promise 18", words = "NOT: it is OPEN.")
    static void movedIsNot(NationBooks x) {
        Telling open = y -> {
            fix(y, 1, 3, 0, 1, 2, 3, 4, 5);
            rows(y, 575, 1);
        };
        refused(open, NOT, "moved", 1, 3, 11);
        open.tell(x);
        due("without a gap it is not open", x.moved(1, 3, 10), 0);
        x.fix(1, 3, 4, false);
        due("nor with a loose column", x.moved(1, 3, 11), 1);
    }

    @Says(at = "Promise 19", words = "TOTAL.")
    static void totalAtItsEdges(NationBooks x) {
        due("of nothing", x.total(-1, -1, 5, 11), 0);
        rows(x, 575, 9);
        due("of the last", x.total(1, 3, 5, 11), 9);
        due("of NONE, NONE", x.total(-1, -1, 5, 11), 9);
        due("of the first land and product", x.total(0, 0, 5, 11), 0);
    }

    @Says(at = "Promise 19", words = "BAD: as the least long.")
    static void totalIsBad(NationBooks x) {
        rangesOfCall("total");
        due("NONE is not a column", x.total(-1, -1, -1, 0), BAD);
        due("NONE is not a quarter", x.total(-1, -1, 0, -1), BAD);
    }

    @Says(at = "Promise 20", words = "How many LANDS, PRODUCTS, QUARTERS are OPEN.")
    static void openFrom0To96(NationBooks x) {
        due("none", x.open(), 0);
        for (int i = 0; i < 8; i++) {
            fix(x, i / 4, i % 4, 0, 1, 2, 3, 4, 5);
            for (int year = 0; year < 3; year++) {
                rows(x, annual(i / 4, i % 4, 5, year), 4);
            }
        }
        due("all", x.open(), 96);
        x.fix(1, 3, 0, false);
        due("without the last 12", x.open(), 84);
    }

    @Says(at = "Promise 21", words = "How many ANNUALS are BROKEN.")
    static void brokenFrom0(NationBooks x) {
        due("none", x.broken(), 0);
        fix(x, 0, 0, 1, 2, 3, 4, 5);
        fix(x, 1, 3, 0, 1, 2, 3, 4);
        rows(x, 576, 1);
        due("the first", x.broken(), 1);
        rows(x, 719, 1);
        due("the last too", x.broken(), 2);
        rows(x, 577, 0);
        due("one of 0 is not", x.broken(), 2);
        rows(x, 575, 9);
        due("a cell is no annual", x.broken(), 2);
        due("a cell is no annual", x.breaks(0), 576);
    }

    private static void tellBroken(NationBooks x) {
        fix(x, 0, 0, 1, 2, 3, 4, 5);
        fix(x, 1, 3, 0, 1, 2, 3, 4);
        rows(x, 719, 1);
        rows(x, 576, 1);
        rows(x, 578, 1);
    }

    @Says(at = "Promise 22", words = "The CODE of the i-th BROKEN ANNUAL; NONE.")
    static void breaksAreInOrderOfCodes(NationBooks x) {
        due("none is broken", x.breaks(0), -1);
        tellBroken(x);
        due("first", x.breaks(0), 576);
        due("second", x.breaks(1), 578);
        due("third", x.breaks(2), 719);
        due("no more", x.breaks(3), -1);
        due("no more", x.breaks(Integer.MAX_VALUE), -1);
    }

    @Says(at = "Promise 22", words = "BAD: i below 0.")
    static void breaksIsBad(NationBooks x) {
        rangesOfCall("breaks");
        Telling told = EdgesOfPromisesTest::tellBroken;
        bad(told, "breaks", -1);
        bad(told, "breaks", LEAST_INT);
    }

    // ---- prices

    @Says(at = "Promise 23", words = "A PRICE: what it was.")
    static void priceAtItsEdges(NationBooks x) {
        due("at first", x.price(3, 11, 10), 100);
        due("least", x.price(3, 11, 1000), 10);
        due("greatest", x.price(3, 11, 1000), 1000);
    }

    @Says(at = "Promise 23", words = "BAD.")
    static void priceIsBad(NationBooks x) {
        rangesOfCall("price");
        due("NONE is not a product", x.price(-1, 0, 100), -2);
    }

    @Says(at = "Promise 24", words = "VOLUME.")
    static void volumeAtItsEdges(NationBooks x) {
        rows(x, 575, 9);
        x.price(3, 11, 10);
        due("of the last", x.volume(3, 5, 11), 90);
    }

    @Says(at = "Promise 24", words = "BAD: as the least long.")
    static void volumeIsBad(NationBooks x) {
        rangesOfCall("volume");
        due("NONE is not a product", x.volume(-1, 0, 0), BAD);
    }

    @Says(at = "Promise 25", words = "The sum of PRODUCTS (NONE: all) of a COLUMN at a QUARTER AT PRICES of a YEAR.")
    static void atPricesOfNoneIsOfAll(NationBooks x) {
        for (int p = 0; p < 4; p++) {
            said(x, p, 1 + p);
            x.price(p, 8, 100 * (1 + p));
        }
        due("first", x.atPrices(0, 0, 0, 2), 400);
        due("last", x.atPrices(3, 0, 0, 2), 4 * 700);
        due("all", x.atPrices(-1, 0, 0, 2), 400 + 2 * 500 + 3 * 600 + 4 * 700);
        due("of year 0", x.atPrices(-1, 0, 0, 0), 10 * 400);
    }

    @Says(at = "Promise 25", words = "BAD: as the least long.")
    static void atPricesIsBad(NationBooks x) {
        rangesOfCall("atPrices");
    }

    @Says(at = "Promise 26", words = "GROWTH of a COLUMN to a QUARTER (1 to 11),")
    static void growthIsToQuarters1To11(NationBooks x) {
        rangesOfKinds("laterQuarter");
        said(x, 0, 1, 2);
        rows(x, 10, 3, 4);
        due("to 1", x.growth(-1, 0, 1), 2000000);
        due("to 11", x.growth(-1, 0, 11), 1333333);
    }

    @Says(at = "Promise 26", words = "of one PRODUCT alone, or all (NONE).")
    static void growthOfOneProductOrAll(NationBooks x) {
        said(x, 0, 1, 2);
        said(x, 3, 3, 0);
        due("first", x.growth(0, 0, 1), 2000000);
        due("last", x.growth(3, 0, 1), 0);
        due("all", x.growth(-1, 0, 1), 500000);
        due("without growth", x.growth(1, 0, 1), -1);
    }

    @Says(at = "Promise 26", words = "BAD: as the least long.")
    static void growthIsBad(NationBooks x) {
        rangesOfCall("growth");
    }

    @Says(at = "Promise 27", words = "THE CHAIN likewise (QUARTER 0 to 11).")
    static void chainIsAtQuarters0To11(NationBooks x) {
        said(x, 3, 1, 2, 2, 2, 2, 2, 2, 2, 2, 2, 2, 3);
        due("at 0", x.chain(-1, 0, 0), 1000000);
        due("at 10", x.chain(-1, 0, 10), 2000000);
        due("at 11", x.chain(-1, 0, 11), 3000000);
        due("of the last product", x.chain(3, 0, 11), 3000000);
        due("of another", x.chain(2, 0, 11), 1000000);
    }

    @Says(at = "Promise 27", words = "BAD: as the least long.")
    static void chainIsBad(NationBooks x) {
        rangesOfCall("chain");
    }

    @Says(at = "Promise 28", words = "PART of a PRODUCT in GROWTH of a COLUMN to a QUARTER (1 to 11).")
    static void partIsToQuarters1To11(NationBooks x) {
        said(x, 3, 1, 2);
        rows(x, cell(0, 3, 0, 10), 3, 4);
        due("to 1", x.part(3, 0, 1), 1000000);
        due("to 11", x.part(3, 0, 11), 333333);
    }

    @Says(at = "Promise 28", words = "BAD;")
    static void partIsBad(NationBooks x) {
        rangesOfCall("part");
        due("NONE is not a product", x.part(-1, 0, 1), BAD);
        due("to 0", x.part(3, 0, 0), BAD);
    }

    @Says(at = "Promise 28", words = "NOT: GROWTH is NONE. (As the least long.)")
    static void partIsNot(NationBooks x) {
        refused(NOTHING, NOT, "part", 0, 0, 1);
        refused(NOTHING, NOT, "part", 3, 5, 11);
        // product 0 grows alone; with product 1 the column is 0 at first
        Telling none = y -> {
            said(y, 0, 5, 7);
            fix(y, 0, 1, 0);
            rows(y, cell(0, 1, 0, 1), 5, 0, 0);
            rows(y, annual(0, 1, 0, 0), 0);
        };
        refused(none, NOT, "part", 0, 0, 1);
        none.tell(x);
        due("alone it grows", x.growth(0, 0, 1), 1400000);
        due("all do not", x.growth(-1, 0, 1), -1);
        due("to the next there is a part", x.part(2, 0, 2), 0);
    }

    @Says(at = "Promise 29", words = "APART.")
    static void apartAtItsEdges(NationBooks x) {
        due("of nothing", x.apart(5, 11), 0);
        said(x, 0, 10, 30, 30, 30, 30, 30, 30, 30, 30, 30, 30, 30);
        said(x, 3, 30, 0, 10, 10, 10, 10, 10, 10, 10, 10, 10, 10);
        due("at 0", x.apart(0, 0), 0);
        due("at 11", x.apart(0, 11), 12000 - 15999);
    }

    @Says(at = "Promise 29", words = "BAD: as the least long.")
    static void apartIsBad(NationBooks x) {
        rangesOfCall("apart");
    }

    // ---- trade, sectors

    @Says(at = "Promise 30", words = "A LAND says it sold (what = 0), bought (1) so much (NONE: it does not say): what it was (NONE).")
    static void tradeAnswersWhatItWas(NationBooks x) {
        due("not said", x.trade(1, 3, 11, 1, 100000), -1);
        due("greatest", x.trade(1, 3, 11, 1, 0), 100000);
        due("least", x.trade(1, 3, 11, 1, -1), 0);
        due("said no more", x.trade(1, 3, 11, 1, -1), -1);
        due("sold is another", x.trade(1, 3, 11, 0, 5), -1);
    }

    @Says(at = "Promise 30", words = "BAD.")
    static void tradeIsBad(NationBooks x) {
        rangesOfCall("trade");
        due("below NONE", x.trade(1, 3, 11, 1, -2), -2);
    }

    @Says(at = "Promise 31", words = "PRECISION of a LAND: what it was.")
    static void preciseAnswersWhatItWas(NationBooks x) {
        due("at first", x.precise(1, 9), 1);
        due("then", x.precise(1, 9), 9);
        due("of the other", x.precise(0, 1), 1);
    }

    @Says(at = "Promise 31", words = "BAD.")
    static void preciseIsBad(NationBooks x) {
        rangesOfCall("precise");
    }

    @Says(at = "Promise 32", words = "HIDDEN (-1000000: one is not said).")
    static void hiddenIsNotKnown(NationBooks x) {
        due("none is said", x.hidden(1, 3, 11), -1000000);
        x.trade(1, 3, 11, 0, 0);
        due("one is said", x.hidden(1, 3, 11), -1000000);
        x.trade(0, 3, 11, 1, 0);
        due("both are said", x.hidden(1, 3, 11), 0);
        x.trade(1, 3, 11, 0, -1);
        due("the seller says no more", x.hidden(1, 3, 11), -1000000);
    }

    @Says(at = "Promise 32", words = "BAD: -2000000.")
    static void hiddenIsBad(NationBooks x) {
        rangesOfCall("hidden");
        due("bad", x.hidden(2, 0, 0), -2000000);
    }

    @Says(at = "Promise 33", words = "AGREED, the LAND selling.")
    static void agreedIsOfTheSeller(NationBooks x) {
        x.trade(1, 3, 11, 0, 8);
        x.trade(0, 3, 11, 1, 4);
        due("land 1 sells", x.agreed(1, 3, 11), 6);
        due("land 0 sells nothing", x.agreed(0, 3, 11), 0);
    }

    @Says(at = "Promise 33", words = "BAD.")
    static void agreedIsBad(NationBooks x) {
        rangesOfCall("agreed");
    }

    @Says(at = "Promise 34", words = "A FLOW from a SECTOR to another: what they are together then.")
    static void flowAnswersTheSum(NationBooks x) {
        due("first", x.flow(0, 5, 11, -100000), -100000);
        due("then", x.flow(0, 5, 11, -100000), -200000);
        due("by 0", x.flow(0, 5, 11, 0), -200000);
        due("the other way", x.flow(5, 0, 11, 100000), 100000);
    }

    @Says(at = "Promise 34", words = "BAD: as the least long (also to itself).")
    static void flowIsBad(NationBooks x) {
        rangesOfCall("flow");
        for (int s = 0; s < 6; s++) {
            bad(RANGES, "flow", s, s, 0, 1);
        }
    }

    @Says(at = "Promise 35", words = "NET.")
    static void netAtItsEdges(NationBooks x) {
        x.flow(5, 0, 11, 3);
        due("of the last", x.net(5, 11), -3);
        due("of the first", x.net(0, 11), 3);
    }

    @Says(at = "Promise 35", words = "BAD: as the least long.")
    static void netIsBad(NationBooks x) {
        rangesOfCall("net");
    }

    @Says(at = "Promise 36", words = "A STOCK (-1000000 to 1000000) is told: 1.")
    static void stockIsTold(NationBooks x) {
        due("least", x.stock(5, 11, -1000000), 1);
        due("off", x.off(5, 11), -1000000);
        due("greatest, in its place", x.stock(5, 11, 1000000), 1);
        due("off", x.off(5, 11), 1000000);
        due("told", x.count(6), 1);
        due("0 is told too", x.stock(0, 0, 0), 1);
        due("told", x.count(6), 2);
    }

    @Says(at = "Promise 36", words = "BAD.")
    static void stockIsBad(NationBooks x) {
        rangesOfCall("stock");
    }

    @Says(at = "Promise 37", words = "A STOCK is told no more: 1; 0: it was not.")
    static void unstockAnswersWhetherItWas(NationBooks x) {
        due("it was not", x.unstock(5, 11), 0);
        x.stock(5, 11, 0);
        due("another was not", x.unstock(5, 10), 0);
        due("no more", x.unstock(5, 11), 1);
        due("it was not", x.unstock(5, 11), 0);
        due("told", x.count(6), 0);
    }

    @Says(at = "Promise 37", words = "BAD.")
    static void unstockIsBad(NationBooks x) {
        rangesOfCall("unstock");
    }

    @Says(at = "Promise 38", words = "DUE.")
    static void dueAtItsEdges(NationBooks x) {
        x.flow(0, 5, 0, 3);
        x.flow(0, 5, 11, 4);
        due("at 0", x.due(5, 0), 3);
        due("at 11", x.due(5, 11), 7);
    }

    @Says(at = "Promise 38", words = "BAD: as the least long.")
    static void dueIsBad(NationBooks x) {
        rangesOfCall("due");
    }

    @Says(at = "Promise 39", words = "OFF.")
    static void offAtItsEdges(NationBooks x) {
        x.stock(5, 0, 1000000);
        x.flow(5, 0, 11, 100000);
        x.stock(5, 11, -1000000);
        due("at 0", x.off(5, 0), 1000000);
        due("at 11", x.off(5, 11), -1000000 - (1000000 - 100000));
    }

    @Says(at = "Promise 39", words = "BAD;")
    static void offIsBad(NationBooks x) {
        rangesOfCall("off");
    }

    @Says(at = "Promise 39", words = "NOT: it is not told. (As the least long.)")
    static void offIsNot(NationBooks x) {
        refused(NOTHING, NOT, "off", 0, 0);
        refused(NOTHING, NOT, "off", 5, 11);
        refused(y -> y.stock(5, 10, 7), NOT, "off", 5, 11);
        x.stock(5, 11, 0);
        due("a stock of 0 is told", x.off(5, 11), 0);
        x.unstock(5, 11);
        due("told no more", x.off(5, 11), NOT);
    }

    // ---- laws

    @Says(at = "Promise 40", words = "A byte (0 to 255) comes behind a LAW: how many.")
    static void typeAnswersHowMany(NationBooks x) {
        due("least byte", x.type(3, 0), 1);
        due("greatest byte", x.type(3, 255), 2);
        due("of another law", x.type(0, 48), 1);
        for (int i = 3; i <= 60; i++) {
            due("byte " + i, x.type(3, 48), i);
        }
        due("all bytes", x.count(7), 61);
    }

    @Says(at = "Promise 40", words = "BAD;")
    static void typeIsBad(NationBooks x) {
        rangesOfCall("type");
    }

    @Says(at = "Promise 40", words = "FULL.")
    static void typeIsFull(NationBooks x) {
        Telling full = y -> law(y, 3, "1=" + "1".repeat(6) + "+1".repeat(26));
        refused(full, NationBooks.FULL, "type", 3, 48);
        refused(full, NationBooks.FULL, "type", 3, 0);
        bad(full, "type", 3, 256);
        bad(full, "type", 3, -1);
        full.tell(x);
        due("another has room", x.type(2, 48), 1);
        x.repeal(3);
        due("it has room again", x.type(3, 48), 1);
    }

    @Says(at = "Promise 41", words = "A LAW is empty: how many bytes it had.")
    static void repealAnswersHowManyItHad(NationBooks x) {
        due("empty already", x.repeal(3), 0);
        law(x, 3, "1".repeat(60));
        law(x, 2, "1");
        due("had", x.repeal(3), 60);
        due("empty", x.repeal(3), 0);
        due("the other stays", x.count(7), 1);
        law(x, 3, "1+2+4=8+16");
        due("the old text", x.left(3, 0), 7 - 24);
        law(x, 3, "9=3");
        due("nothing of the old text is left", x.fault(3), -1);
        due("nothing of the old text is left", x.left(3, 0), 6);
    }

    @Says(at = "Promise 41", words = "BAD.")
    static void repealIsBad(NationBooks x) {
        rangesOfCall("repeal");
    }

    @Says(at = "Promise 42", words = "The FAULT of a LAW (of an empty one 0); NONE.")
    static void faultOfAnEmptyLaw(NationBooks x) {
        for (int law = 0; law < 4; law++) {
            due("empty", x.fault(law), 0);
        }
        law(x, 3, "1=1");
        due("without fault", x.fault(3), -1);
        x.type(3, '=');
        due("with a byte too many", x.fault(3), 3);
        x.repeal(3);
        due("empty again", x.fault(3), 0);
    }

    @Says(at = "Promise 42", words = "BAD.")
    static void faultIsBad(NationBooks x) {
        rangesOfCall("fault");
    }

    @Says(at = "Promise 43", words = "LEFT OVER.")
    static void leftAtItsEdges(NationBooks x) {
        law(x, 3, "7=c135");
        rows(x, 575, 9);
        due("of quarter 0", x.left(3, 0), 7);
        due("of the last law and quarter", x.left(3, 11), 7 - 9);
    }

    @Says(at = "Promise 43", words = "BAD;")
    static void leftIsBad(NationBooks x) {
        rangesOfCall("left");
    }

    @Says(at = "Promise 43", words = "NOT: a FAULT. (As the least long.)")
    static void leftIsNot(NationBooks x) {
        refused(NOTHING, NOT, "left", 0, 0);
        refused(y -> law(y, 3, "1"), NOT, "left", 3, 11);
        refused(y -> law(y, 3, "1=c136"), NOT, "left", 3, 11);
        refused(y -> law(y, 3, "1=1+"), NOT, "left", 3, 11);
        bad(NOTHING, "left", 0, 12);
        bad(NOTHING, "left", 4, 0);
    }

    @Says(at = "Promise 44", words = "How many LAWS without FAULT are not kept in a QUARTER (LEFT OVER is not 0).")
    static void unkeptFrom0To4(NationBooks x) {
        due("empty laws have a fault", x.unkept(0), 0);
        fix(x, 1, 3, 5);
        rows(x, cell(1, 3, 5, 11), 1);
        for (int law = 0; law < 4; law++) {
            law(x, law, "c135=0");
        }
        due("all", x.unkept(11), 4);
        due("none", x.unkept(10), 0);
        law(x, 0, "0=c135");
        due("left over below 0", x.unkept(11), 4);
        x.type(0, '+');
        due("a fault", x.unkept(11), 3);
        law(x, 3, "c135=1");
        due("kept", x.unkept(11), 2);
    }

    @Says(at = "Promise 44", words = "BAD.")
    static void unkeptIsBad(NationBooks x) {
        rangesOfCall("unkept");
    }

    // ---- releases

    @Says(at = "Promise 45", words = "REVISION of a CODE from a RELEASE to a later one.")
    static void revisionAtItsEdges(NationBooks x) {
        x.row(0, 719, 100000, 0);
        x.row(0, 719, 0, 9);
        due("least", x.revision(719, 0, 9), -100000);
    }

    @Says(at = "Promise 45", words = "BAD: as the least long.")
    static void revisionIsBad(NationBooks x) {
        rangesOfCall("revision");
        for (int r = 0; r < 10; r++) {
            bad(RANGES, "revision", 0, r, r);
            bad(RANGES, "revision", 0, 9, r);
        }
    }

    @Says(at = "Promise 46", words = "How many STEPS it has.")
    static void stepsAtItsEdges(NationBooks x) {
        due("none", x.steps(719, 0, 9), 0);
        x.row(0, 719, 5, 0);
        due("release 0 is in none", x.steps(719, 0, 9), 0);
        for (int i = 0; i < 79; i++) {
            x.row(i % 10, 719, 5, 1 + i / 10);
        }
        due("most", x.steps(719, 0, 9), 79);
        due("of one release", x.steps(719, 0, 1), 10);
    }

    @Says(at = "Promise 46", words = "BAD.")
    static void stepsIsBad(NationBooks x) {
        rangesOfCall("steps");
        for (int r = 0; r < 10; r++) {
            bad(RANGES, "steps", 0, r, r);
            bad(RANGES, "steps", 0, 9, r);
        }
    }

    @Says(at = "Promise 47", words = "STEP i: what it adds (what = 0), its SOURCE (1), its RELEASE (2).")
    static void stepAtItsEdges(NationBooks x) {
        x.row(9, 0, 50, 1);
        x.row(0, 0, 100, 9);
        long[][] steps = {{50, 9, 1}, {25, 0, 9}};
        for (int what = 0; what < 3; what++) {
            due("first, " + what, x.step(0, 0, 9, 0, what), steps[0][what]);
            due("last, " + what, x.step(0, 0, 9, 1, what), steps[1][what]);
        }
    }

    @Says(at = "Promise 47", words = "BAD: as the least long (also no such STEP).")
    static void stepIsBad(NationBooks x) {
        rangesOfCall("step");
        bad(RANGES, "step", 0, 0, 9, 4, 0);
        bad(RANGES, "step", 0, 0, 9, -1, 0);
        bad(RANGES, "step", 0, 9, 9, 0, 0);
        bad(RANGES, "step", 1, 0, 9, 0, 0);
        bad(RANGES, "step", 0, 0, 2, 2, 0);
        bad(NOTHING, "step", 0, 0, 9, 0, 0);
    }

    @Says(at = "Promise 48", words = "LED: of a CODE (closed = false), of a CLOSED CELL (true).")
    static void ledAtTheEdgesOfCodes(NationBooks x) {
        x.row(0, 0, 1, 0);
        x.row(0, 575, 1, 0);
        x.row(0, 576, 1, 0);
        x.row(0, 719, 1, 0);
        due("first cell", x.led(0, false), 1);
        due("last cell", x.led(575, false), 2);
        due("first annual", x.led(576, false), 4);
        due("last annual", x.led(719, false), 8);
        due("first cell, closed", x.led(0, true), 1 + 4);
        due("last cell, closed", x.led(575, true), 2 + 8);
        due("of none", x.led(1, false), 0);
    }

    @Says(at = "Promise 48", words = "BAD: as the least long (an ANNUAL has no CLOSED one).")
    static void ledIsBad(NationBooks x) {
        rangesOfCall("led");
        bad(RANGES, "led", 576, true);
        bad(RANGES, "led", 719, true);
        bad(RANGES, "led", 720, true);
        bad(RANGES, "led", -1, true);
    }

    // ---- sheets

    @Says(at = "Promise 49", words = "A SHEET is a new row of a FORM with n items: n.")
    static void sheetIsANewRow(NationBooks x) {
        tellSheets(x);
        due("greatest", x.sheet(1, 0, 60), 60);
        due("the old items are gone", x.get(1, 0, 0), 0);
        due("it has another form", x.put(1, 1, 0, 0), -13);
        due("none", x.sheet(1, 2, 0), 0);
        due("the old items are gone", x.put(1, 2, 0, 0), -12);
        due("like the old one", x.sheet(2, 2, 3), 3);
        itemsDue(x, 2, 2, 0, 0, 0);
        due("another stays", x.get(3, 1, 1), 32);
    }

    @Says(at = "Promise 49", words = "BAD: SHEET, FORM, above 60;")
    static void sheetIsBad(NationBooks x) {
        rangesOfCall("sheet");
        bad(SHEETS, "sheet", 1, 1, 61);
        bad(SHEETS, "sheet", 0, 0, Integer.MAX_VALUE);
        bad(SHEETS, "sheet", 4, 0, 1);
        bad(SHEETS, "sheet", -1, 0, -1);
        bad(SHEETS, "sheet", 1, 3, -1);
    }

    @Says(at = "Promise 49", words = "SIZE.")
    static void sheetIsOfASizeBelow0(NationBooks x) {
        found(SHEETS, 5, "sheet", 1, 1, -1);
        found(SHEETS, 5, "sheet", 0, 2, LEAST_INT);
    }

    @Says(at = "Promise 50", words = "It is LOST: how many items it had.")
    static void loseAnswersHowManyItHad(NationBooks x) {
        x.sheet(3, 2, 60);
        due("most", x.lose(3), 60);
        x.sheet(0, 0, 0);
        due("none", x.lose(0), 0);
        due("it is lost", x.read(0), -11);
        x.sheet(3, 2, 2);
        due("made anew", x.get(3, 2, 1), 0);
    }

    @Says(at = "Promise 50", words = "BAD;")
    static void loseIsBad(NationBooks x) {
        rangesOfCall("lose");
    }

    @Says(at = "Promise 50", words = "NULL.")
    static void loseIsNull(NationBooks x) {
        found(SHEETS, 1, "lose", 0);
        due("lost", x.sheet(2, 0, 1), 1);
        x.lose(2);
        due("lost already", x.lose(2), -11);
    }

    @Says(at = "Promise 51", words = "Item i, treated as of a FORM, becomes v (the lowest bits that it has): 1.")
    static void putKeepsTheLowestBits(NationBooks x) {
        int[] values = {127, 128, 255, 256, -129, 32767, 32768, 65535, 65536, -32769, 0x12345678, LEAST_INT + 1};
        int[] bytes = {127, -128, -1, 0, 127, -1, 0, -1, 0, -1, 0x78, 1};
        int[] shorts = {127, 128, 255, 256, -129, 32767, -32768, -1, 0, 32767, 0x5678, 1};
        for (int form = 0; form < 3; form++) {
            x.sheet(form, form, 12);
            for (int i = 0; i < 12; i++) {
                due("put", x.put(form, form, i, values[i]), 1);
            }
        }
        itemsDue(x, 0, 0, bytes);
        itemsDue(x, 1, 1, shorts);
        itemsDue(x, 2, 2, values);
    }

    @Says(at = "Promise 51", words = "BAD;")
    static void putIsBad(NationBooks x) {
        rangesOfCall("put");
        bad(SHEETS, "put", 0, 3, -1, 0);
        bad(SHEETS, "put", 4, 0, -1, 0);
    }

    @Says(at = "Promise 51", words = "NULL;")
    static void putIsNull(NationBooks x) {
        found(SHEETS, 1, "put", 0, 0, 0, 0);
        found(SHEETS, 1, "put", 0, 2, -1, 0);
    }

    @Says(at = "Promise 51", words = "CAST;")
    static void putIsACast(NationBooks x) {
        found(SHEETS, 3, "put", 1, 2, -1, 0);
        found(SHEETS, 3, "put", 1, 0, 0, 0);
    }

    @Says(at = "Promise 51", words = "INDEX.")
    static void putIsAnIndex(NationBooks x) {
        found(SHEETS, 2, "put", 1, 1, -1, 0);
        found(SHEETS, 2, "put", 1, 1, 4, 0);
        found(y -> y.sheet(0, 0, 0), 2, "put", 0, 0, 0, 0);
        tellSheets(x);
        due("the first item", x.put(1, 1, 0, 9), 1);
        due("the last item", x.put(1, 1, 3, 8), 1);
        itemsDue(x, 1, 1, 9, 12, 13, 8);
    }

    @Says(at = "Promise 52", words = "Item i of it.")
    static void getOfTheFirstAndTheLast(NationBooks x) {
        x.sheet(3, 2, 60);
        x.put(3, 2, 0, Integer.MAX_VALUE);
        x.put(3, 2, 59, LEAST_INT);
        due("first", x.get(3, 2, 0), Integer.MAX_VALUE);
        due("another", x.get(3, 2, 1), 0);
        due("last, the least int", x.get(3, 2, 59), LEAST_INT);
        due("that is no finding", x.count(8), 0);
    }

    @Says(at = "Promise 52", words = "BAD: the least int;")
    static void getIsBad(NationBooks x) {
        rangesOfCall("get");
        bad(SHEETS, "get", 0, 3, 0);
        bad(SHEETS, "get", 0, -1, 0);
        bad(SHEETS, "get", 4, 0, 0);
        bad(SHEETS, "get", -1, 0, 0);
    }

    @Says(at = "Promise 52", words = "so are NULL, CAST, INDEX (count() 8 tells).")
    static void getIsNullCastOrIndex(NationBooks x) {
        found(SHEETS, 1, "get", 0, 0, -1);
        found(SHEETS, 3, "get", 1, 2, -1);
        found(SHEETS, 3, "get", 2, 1, 3);
        found(SHEETS, 2, "get", 1, 1, 4);
        found(SHEETS, 2, "get", 1, 1, -1);
    }

    @Says(at = "Promise 53", words = "n items of SHEET s, from i on, come to SHEET t")
    static void copyAtTheEdgesOfSheets(NationBooks x) {
        tellSheets(x);
        due("none", x.copy(1, 0, 3, 0, 0), 1);
        due("none from the end to the end", x.copy(1, 4, 3, 2, 0), 1);
        itemsDue(x, 3, 1, 31, 32);
        due("the last two to all", x.copy(1, 2, 3, 0, 2), 1);
        itemsDue(x, 3, 1, 13, 14);
        due("all to the last two", x.copy(3, 0, 1, 2, 2), 1);
        itemsDue(x, 1, 1, 11, 12, 13, 14);
        due("one", x.copy(1, 0, 3, 1, 1), 1);
        itemsDue(x, 3, 1, 13, 11);
    }

    @Says(at = "Promise 53", words = "(perhaps s, as they were), from j on: 1.")
    static void copyToItselfAsTheyWere(NationBooks x) {
        tellSheets(x);
        due("up", x.copy(1, 0, 1, 1, 3), 1);
        itemsDue(x, 1, 1, 11, 11, 12, 13);
        due("down", x.copy(1, 1, 1, 0, 3), 1);
        itemsDue(x, 1, 1, 11, 12, 13, 13);
        due("to its own place", x.copy(1, 0, 1, 0, 4), 1);
        itemsDue(x, 1, 1, 11, 12, 13, 13);
    }

    @Says(at = "Promise 53", words = "BAD: the SHEETS;")
    static void copyIsBad(NationBooks x) {
        rangesOfCall("copy");
        bad(SHEETS, "copy", 0, 0, 4, 0, 0);
        bad(SHEETS, "copy", 4, 0, 0, 0, 0);
        bad(SHEETS, "copy", 1, -1, -1, -1, -1);
    }

    @Says(at = "Promise 53", words = "NULL: s, t;")
    static void copyIsNull(NationBooks x) {
        found(SHEETS, 1, "copy", 0, 0, 1, 0, 1);
        found(SHEETS, 1, "copy", 1, 0, 0, 0, 1);
        found(SHEETS, 1, "copy", 0, 0, 0, -1, 1);
        found(SHEETS, 1, "copy", 1, -1, 0, -1, -1);
    }

    @Says(at = "Promise 53", words = "STORE;")
    static void copyIsAStoreOfUnlikeForms(NationBooks x) {
        found(SHEETS, 4, "copy", 1, 0, 2, 0, 1);
        found(SHEETS, 4, "copy", 2, -1, 3, 0, 1);
        found(SHEETS, 4, "copy", 2, 0, 3, 0, 0);
    }

    @Says(at = "Promise 53", words = "INDEX: below 0, not so many.")
    static void copyIsAnIndexBelow0OrNotSoMany(NationBooks x) {
        int most = Integer.MAX_VALUE;
        int[][] wrong = {{-1, 0, 1}, {0, -1, 1}, {0, 0, -1}, {-1, 0, 0}, {0, -1, 0}, {3, 0, 2}, {0, 1, 2}, {0, 0, 3},
            {5, 0, 0}, {0, 3, 0}, {most, 0, 1}, {0, most, 1}, {0, 0, most}, {1, 0, most}, {most, most, most},
            {LEAST_INT, 0, 1}, {0, LEAST_INT, 1}, {0, 0, LEAST_INT}};
        for (int[] w : wrong) {
            found(SHEETS, 2, "copy", 1, w[0], 3, w[1], w[2]);
        }
        found(SHEETS, 2, "copy", 1, 0, 1, 1, 4);
        found(SHEETS, 2, "copy", 1, 1, 1, 0, 4);
    }

    @Says(at = "Promise 54", words = "ROWS of a SHEET are READ: how many.")
    static void readAnswersHowMany(NationBooks x) {
        x.sheet(3, 0, 0);
        due("none", x.read(3), 0);
        x.sheet(3, 0, 60);
        due("most", x.read(3), 15);
        due("again", x.read(3), 15);
        due("rows", x.count(0), 30);
        sheet(x, 3, 0, 9, 127, 127, 9, 9, 128, 127, 9);
        due("a byte of 128 is below 0", x.read(3), 1);
        sheet(x, 3, 1, 9, 719, 32767, 9, 9, 719, 32768, 9);
        due("a short of 32768 is below 0", x.read(3), 1);
        due("the row ahead of it", x.rowIs(31, 2), 32767);
    }

    @Says(at = "Promise 54", words = "BAD;")
    static void readIsBad(NationBooks x) {
        rangesOfCall("read");
    }

    @Says(at = "Promise 54", words = "NULL.")
    static void readIsNull(NationBooks x) {
        found(SHEETS, 1, "read", 0);
    }

    private static void tellQuarters(NationBooks x) {
        fix(x, 1, 3, 5);
        rows(x, cell(1, 3, 5, 0), 127, 128, 255, 256, 32767, 32768, 65535, 65536, 100000, 0, 1, 2);
    }

    @Says(at = "Promise 55", words = "CLOSED CELLS of a LAND, PRODUCT, COLUMN by QUARTERS come to a SHEET from item 0 on (the lowest bits),")
    static void writeKeepsTheLowestBits(NationBooks x) {
        tellQuarters(x);
        for (int form = 0; form < 3; form++) {
            x.sheet(form, form, 12);
            due("written", x.write(form, 1, 3, 5), 12);
        }
        itemsDue(x, 0, 0, 127, -128, -1, 0, -1, 0, -1, 0, -96, 0, 1, 2);
        itemsDue(x, 1, 1, 127, 128, 255, 256, 32767, -32768, -1, 0, -31072, 0, 1, 2);
        itemsDue(x, 2, 2, 127, 128, 255, 256, 32767, 32768, 65535, 65536, 100000, 0, 1, 2);
        x.column(0, 0);
        x.write(2, 1, 3, 0);
        itemsDue(x, 2, 2, -127, -128, -255);
    }

    @Says(at = "Promise 55", words = "as many as there are items: how many.")
    static void writeFillsAsManyAsThereAre(NationBooks x) {
        tellQuarters(x);
        x.sheet(0, 2, 0);
        due("none", x.write(0, 1, 3, 5), 0);
        x.sheet(0, 2, 1);
        due("one", x.write(0, 1, 3, 5), 1);
        due("the first quarter", x.get(0, 2, 0), 127);
        x.sheet(0, 2, 11);
        due("one too few", x.write(0, 1, 3, 5), 11);
        due("the last that fits", x.get(0, 2, 10), 1);
        sheet(x, 0, 2, 9, 9, 9, 9, 9, 9, 9, 9, 9, 9, 9, 9, 9);
        due("one too many", x.write(0, 1, 3, 5), 12);
        due("the last quarter", x.get(0, 2, 11), 2);
        due("the item behind it stays", x.get(0, 2, 12), 9);
        x.sheet(0, 2, 60);
        due("most", x.write(0, 1, 3, 5), 12);
    }

    @Says(at = "Promise 55", words = "BAD;")
    static void writeIsBad(NationBooks x) {
        rangesOfCall("write");
        bad(SHEETS, "write", 0, 2, 3, 5);
        bad(SHEETS, "write", 0, 1, 4, 5);
        bad(SHEETS, "write", 0, 1, 3, 6);
    }

    @Says(at = "Promise 55", words = "NULL.")
    static void writeIsNull(NationBooks x) {
        found(SHEETS, 1, "write", 0, 1, 3, 5);
    }

    @Says(at = "Promise 56", words = "0 ROWS, 1 those that count, 2 the RELEASE, 3 RULE, 4 COLUMNS that are SUPPLY, 5 FIXED ones, 6 STOCKS that are told, 7 bytes of all LAWS,")
    static void countsFromLeastToMost(NationBooks x) {
        int[] first = {0, 0, 9, 0, 3, 0, 0, 0, 0};
        for (int what = 0; what < 9; what++) {
            due("at first, " + what, x.count(what), first[what]);
        }
        for (int i = 0; i < 80; i++) {
            x.row(i % 10, 0, 0, i / 10);
        }
        for (int i = 0; i < 48; i++) {
            x.fix(i / 24, i / 6 % 4, i % 6, true);
        }
        for (int i = 0; i < 72; i++) {
            x.stock(i / 12, i % 12, 0);
        }
        for (int i = 0; i < 240; i++) {
            x.type(i % 4, 48);
        }
        for (int c = 3; c < 6; c++) {
            x.column(c, 1);
        }
        x.rule(1);
        int[] most = {80, 10, 9, 1, 6, 48, 72, 240, 0};
        for (int what = 0; what < 9; what++) {
            due("most, " + what, x.count(what), most[what]);
        }
    }

    @Says(at = "Promise 56", words = "8 the number of the latest FINDING (0 before any).")
    static void count8IsTheLatestFinding(NationBooks x) {
        due("before any", x.count(8), 0);
        x.sheet(0, 0, -1);
        due("size", x.count(8), 5);
        x.lose(0);
        due("null", x.count(8), 1);
        x.sheet(0, 0, 1);
        due("a good call", x.count(8), 1);
        x.get(0, 0, 1);
        due("index", x.count(8), 2);
        x.get(0, 1, 0);
        due("cast", x.count(8), 3);
        x.sheet(1, 1, 1);
        x.copy(0, 0, 1, 0, 1);
        due("store", x.count(8), 4);
        x.sheet(0, 0, 61);
        due("bad is no finding", x.count(8), 4);
    }

    @Says(at = "Promise 56", words = "BAD.")
    static void countIsBad(NationBooks x) {
        rangesOfCall("count");
    }

    private static long folded(long h, long... values) {
        for (long v : values) {
            h = 31 * h + v;
        }
        return h;
    }

    @Says(at = "Promise 57", words = "h is 17; h becomes 31 h and each of:")
    static void digestOfANewObject(NationBooks x) {
        // release 9 and 3 supply columns, no total, six chains of 1000000, no net, no fault but at 0
        long h = folded(17, 0, 0, 9, 0, 3, 0, 0, 0, 0, 0);
        for (int i = 0; i < 72; i++) {
            h = folded(h, 0);
        }
        h = folded(h, 1000000, 1000000, 1000000, 1000000, 1000000, 1000000);
        h = folded(h, 0, 0, 0, 0, 0, 0);
        h = folded(h, 0, 0, 0, 0);
        due("digest", x.digest(), h);
    }

    @Says(at = "Promise 57", words = "count() 0 to 7, open(), broken(), total() of NONE, NONE by COLUMNS, then QUARTERS; THE CHAIN of all PRODUCTS of each COLUMN at QUARTER 11; net() by SECTORS at QUARTER 0; fault() of LAWS 0 to 3;")
    static void digestOfEachPart(NationBooks x) {
        said(x, 0, 1, 2, 3, 4, 5, 6, 7, 8, 9, 8, 7, 6);
        x.row(0, 0, 1, 0);
        said(x, 1, 1, 0, 2);
        fix(x, 1, 3, 0, 1, 2, 3, 4, 5);
        rows(x, 575, 9);
        x.row(0, annual(0, 3, 5, 2), 4, 0);
        fix(x, 0, 3, 0, 1, 2, 3, 4);
        x.stock(0, 11, 5);
        x.flow(0, 5, 0, 7);
        x.flow(1, 2, 1, 9);
        law(x, 0, "1=1");
        law(x, 3, "1=");
        x.lose(0);
        // 18 rows, 17 count; 3 supply columns; 13 fixed; 1 stock; 5 bytes; open: product 3 of land 1 at 11;
        // broken: the annual of column 5, whose 1 in each quarter is taken by column 5 itself
        long h = folded(17, 18, 17, 9, 0, 3, 13, 1, 5, 1, 1);
        int[] said = {2, 2, 5, 4, 5, 6, 7, 8, 9, 8, 7, 6};
        for (int v : said) {
            h = folded(h, v);
        }
        for (int v : said) {
            h = folded(h, -v);
        }
        h = folded(h, new long[3 * 12]);
        h = folded(h, 0, 0, 0, 0, 0, 0, 0, 0, 0, 0, 0, 9);
        // the chain of column 0: all products together, each growth rounded down; of column 1 it stays
        long chain = 1000000;
        for (int q = 1; q < 12; q++) {
            chain = Math.min(10000000, chain * (said[q] * 1000000L / said[q - 1]) / 1000000);
        }
        h = folded(h, chain, 1000000, 1000000, 1000000, 1000000, 1000000);
        h = folded(h, -7, 0, 0, 0, 0, 7);
        h = folded(h, -1, 0, 0, 2);
        due("digest", x.digest(), h);
    }

    @Says(at = "Promise 57", words = "as longs that wrap.")
    static void digestWraps(NationBooks x) {
        java.math.BigInteger h = java.math.BigInteger.valueOf(17);
        int[] counts = {0, 0, 9, 0, 3, 0, 0, 0, 0, 0};
        for (int i = 0; i < 98; i++) {
            long v = i < 10 ? counts[i] : i >= 82 && i < 88 ? 1000000 : 0;
            h = h.multiply(java.math.BigInteger.valueOf(31)).add(java.math.BigInteger.valueOf(v));
        }
        due("beyond a long", h.bitLength() > 64 ? 1 : 0, 1);
        due("its lowest 64 bits", x.digest(), h.longValue());
    }

    public static void main(String[] args) throws IOException, IllegalAccessException {
        run(EdgesOfPromisesTest.class, "Promise");
    }
}
