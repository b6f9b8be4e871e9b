import java.io.IOException;

/** The edges that the document names ahead of the promises: what words mean, and the order of refusals. */
public final class EdgesOfTermsTest extends Edges {
    // ---- What it is

    @Says(at = "What it is", words = "An object is used for at most 512 calls after it has been made; what later calls answer is free.")
    static void call512IsAnsweredAsAnyOther(NationBooks x) {
        for (int i = 1; i <= 511; i++) {
            due("call " + i, x.flow(0, 1, 0, 100000), 100000L * i);
        }
        due("call 512", x.net(1, 0), 51100000);
    }

    // ---- Terms 1

    @Says(at = "Terms 1", words = "LANDS 0, 1;")
    static void landsAre0And1(NationBooks x) {
        rangesOfKinds("land", "anyLand");
    }

    @Says(at = "Terms 1", words = "PRODUCTS 0 .. 3;")
    static void productsAre0To3(NationBooks x) {
        rangesOfKinds("product", "anyProduct");
    }

    @Says(at = "Terms 1", words = "COLUMNS 0 .. 5,")
    static void columnsAre0To5(NationBooks x) {
        rangesOfKinds("column");
    }

    @Says(at = "Terms 1", words = "each SUPPLY or USE (0 to 2 SUPPLY, 3 to 5 USE at first; told);")
    static void columnsTo2AreSupplyAtFirst(NationBooks x) {
        int[] values = {1, 2, 4, 8, 16, 32};
        for (int c = 0; c < 6; c++) {
            rows(x, cell(0, 0, c, 0), values[c]);
        }
        due("gap at first", x.gap(0, 0, 0), 1 + 2 + 4 - 8 - 16 - 32);
        for (int c = 0; c < 6; c++) {
            due("column " + c, x.column(c, c < 3 ? 1 : 0), c < 3 ? 1 : 0);
        }
    }

    @Says(at = "Terms 1", words = "each SUPPLY or USE (0 to 2 SUPPLY, 3 to 5 USE at first; told);")
    static void allOrNoColumnsMayBeSupply(NationBooks x) {
        int[] values = {1, 2, 4, 8, 16, 32};
        for (int c = 0; c < 6; c++) {
            rows(x, cell(0, 0, c, 0), values[c]);
            x.column(c, 1);
        }
        due("gap of supply alone", x.gap(0, 0, 0), 63);
        due("supply columns", x.count(4), 6);
        for (int c = 0; c < 6; c++) {
            x.column(c, 0);
        }
        due("gap of use alone", x.gap(0, 0, 0), -63);
        due("supply columns", x.count(4), 0);
        rangesOfKinds("isSupply");
    }

    @Says(at = "Terms 1", words = "QUARTERS 0 .. 11,")
    static void quartersAre0To11(NationBooks x) {
        rangesOfKinds("quarter");
    }

    @Says(at = "Terms 1", words = "YEARS 0 .. 2")
    static void yearsAre0To2(NationBooks x) {
        rangesOfKinds("year");
    }

    @Says(at = "Terms 1", words = "(a YEAR is four QUARTERS).")
    static void aYearIsFourQuarters(NationBooks x) {
        int first = cell(1, 3, 5, 0);
        rows(x, annual(1, 3, 5, 0), 8);
        bentDue(x, first, 2, 2, 2, 2, 0, 0, 0, 0, 0, 0, 0, 0);
        rows(x, annual(1, 3, 5, 1), 12);
        bentDue(x, first, 2, 2, 2, 2, 3, 3, 3, 3, 0, 0, 0, 0);
        rows(x, annual(1, 3, 5, 2), 4);
        bentDue(x, first, 2, 2, 2, 2, 3, 3, 3, 3, 1, 1, 1, 1);
    }

    @Says(at = "Terms 1", words = "(a YEAR is four QUARTERS).")
    static void aQuarterIsOfItsYearWhateverIsAskedFirst(NationBooks x) {
        String[] calls = {"gap", "moved"};
        for (int q : new int[] {0, 3, 4, 7, 8, 11}) {
            Telling told = y -> rows(y, annual(0, 0, 0, q / 4), 40);
            for (String call : calls) {
                NationBooks y = new NationBooks();
                told.tell(y);
                due(call + " of quarter " + q, ask(y, call, 0, 0, q), 10);
            }
            NationBooks bent = new NationBooks();
            told.tell(bent);
            due("bent of quarter " + q, bent.bent(q), 10);
            NationBooks closed = new NationBooks();
            told.tell(closed);
            due("closed of quarter " + q, closed.closed(12 + q), -10);
        }
    }

    @Says(at = "Terms 1", words = "A CELL is a LAND, a PRODUCT, a COLUMN, a QUARTER; told as a CODE: 288 LAND and 72 PRODUCT and 12 COLUMN and QUARTER.")
    static void codesOfCellsAtTheirEdges(NationBooks x) {
        due("first", x.code(0, 0, 0, 0), 0);
        due("last quarter", x.code(0, 0, 0, 11), 11);
        due("next column", x.code(0, 0, 1, 0), 12);
        due("last column", x.code(0, 0, 5, 11), 71);
        due("next product", x.code(0, 1, 0, 0), 72);
        due("last product", x.code(0, 3, 5, 11), 287);
        due("next land", x.code(1, 0, 0, 0), 288);
        due("last", x.code(1, 3, 5, 11), 575);
    }

    @Says(at = "Terms 1", words = "An ANNUAL is a LAND, a PRODUCT, a COLUMN, a YEAR: CODE 576 and 72 LAND and 18 PRODUCT and 3 COLUMN and YEAR")
    static void codesOfAnnualsAtTheirEdges(NationBooks x) {
        due("first", x.annual(0, 0, 0, 0), 576);
        due("last year", x.annual(0, 0, 0, 2), 578);
        due("next column", x.annual(0, 0, 1, 0), 579);
        due("last column", x.annual(0, 0, 5, 2), 593);
        due("next product", x.annual(0, 1, 0, 0), 594);
        due("last product", x.annual(0, 3, 5, 2), 647);
        due("next land", x.annual(1, 0, 0, 0), 648);
        due("last", x.annual(1, 3, 5, 2), 719);
    }

    @Says(at = "Terms 1", words = "(so CODES are 0 to 719).")
    static void codesAre0To719(NationBooks x) {
        rangesOfKinds("code", "cell", "annual");
    }

    @Says(at = "Terms 1", words = "SOURCES 0 .. 9 have a TRUST")
    static void sourcesAre0To9(NationBooks x) {
        rangesOfKinds("source");
    }

    @Says(at = "Terms 1", words = "SOURCES 0 .. 9 have a TRUST")
    static void source9CountsInTheReleaseItself(NationBooks x) {
        x.row(9, 719, 30, 8);
        x.row(9, 719, 40, 9);
        due("said", x.said(719), 40);
        due("weight", x.weight(719), 1);
        due("bent", x.bent(575), 10);
        due("counts", x.rowIs(1, 4), 1);
        due("revision to it", x.revision(719, 7, 8), 30);
        due("revision from it", x.revision(719, 8, 9), 10);
        x.asOf(8);
        due("said as of 8", x.said(719), 30);
        due("weight as of 8", x.weight(719), 1);
        due("bent as of 8", x.bent(575), 7);
    }

    @Says(at = "Terms 1", words = "(1 to 9; 1 at first).")
    static void trustIs1To9And1AtFirst(NationBooks x) {
        for (int s = 0; s < 10; s++) {
            due("trust of " + s, x.trust(s, 9), 1);
            due("trust of " + s, x.trust(s, 1), 9);
        }
        rangesOfKinds("trust");
    }

    private static void tell80Rows(NationBooks x) {
        for (int i = 0; i < 80; i++) {
            due("row " + i, x.row(i % 10, 9 * i, 1000 * i, i % 10), i);
        }
    }

    @Says(at = "Terms 1", words = "ROWS, 80 at most:")
    static void row80IsFull(NationBooks x) {
        Telling told = EdgesOfTermsTest::tell80Rows;
        refused(told, NationBooks.FULL, "row", 0, 0, 0, 0);
        told.tell(x);
        due("full", x.row(0, 0, 0, 0), -4);
        due("rows", x.count(0), 80);
        due("the last of them", x.rowIs(79, 1), 711);
        due("there is no row 80", x.rowIs(80, 0), -1000000);
    }

    @Says(at = "Terms 1", words = "ROWS, 80 at most:")
    static void all80RowsMayBeOfOneCode(NationBooks x) {
        x.row(9, 5, 40, 9);
        for (int i = 1; i < 80; i++) {
            x.row(9, 5, 20, 1);
        }
        due("the first still counts", x.said(5), 40);
        due("it does", x.rowIs(0, 4), 1);
        due("of the others none does", x.count(1), 1);
        due("its step", x.steps(5, 8, 9), 1);
        due("its step", x.step(5, 0, 9, 1, 0), 20);
        x.asOf(8);
        due("the last counts", x.rowIs(79, 4), 1);
    }

    @Says(at = "Terms 1", words = "a SOURCE says of a CELL or an ANNUAL a value (0 to 100000)")
    static void valuesAre0To100000(NationBooks x) {
        due("least of a cell", x.row(0, 575, 0, 0), 0);
        due("greatest of an annual", x.row(0, 576, 100000, 0), 1);
        due("least", x.said(575), 0);
        due("greatest", x.said(576), 100000);
        rangesOfKinds("value");
    }

    @Says(at = "Terms 1", words = "in a RELEASE (0 to 9).")
    static void releasesAre0To9(NationBooks x) {
        rangesOfKinds("release", "from", "to");
    }

    @Says(at = "Terms 1", words = "As of a RELEASE r, of a CODE: of each SOURCE the ROW with the greatest RELEASE up to r counts,")
    static void theGreatestReleaseUpToRCounts(NationBooks x) {
        x.row(4, 30, 40, 4);
        x.row(4, 30, 10, 1);
        x.row(4, 30, 90, 9);
        x.row(4, 30, 30, 3);
        long[] said = {NOT, 10, 10, 30, 40, 40, 40, 40, 40, 90};
        for (int r = 0; r < 10; r++) {
            x.asOf(r);
            due("said as of " + r, x.said(30), said[r]);
        }
        due("row 2 counts as of 9", x.rowIs(2, 4), 1);
        due("row 0 does not", x.rowIs(0, 4), 0);
    }

    @Says(at = "Terms 1", words = "of each SOURCE the ROW with the greatest RELEASE up to r counts,")
    static void eachSourceCountsByItself(NationBooks x) {
        x.row(0, 30, 10, 9);
        x.row(9, 30, 20, 0);
        due("both count", x.said(30), 15);
        x.row(9, 31, 70, 9);
        due("a row of another code takes no place", x.said(30), 15);
    }

    @Says(at = "Terms 1", words = "of like ones the later ROW.")
    static void ofLikeReleasesTheLaterRowCounts(NationBooks x) {
        x.row(2, 7, 50, 5);
        x.row(2, 7, 40, 5);
        due("said", x.said(7), 40);
        due("the earlier row", x.rowIs(0, 4), 0);
        due("the later row", x.rowIs(1, 4), 1);
        x.row(2, 7, 30, 4);
        due("a later row of an earlier release does not count", x.said(7), 40);
    }

    @Says(at = "Terms 1", words = "The SAID value of a CODE: the mean of what counts, by TRUST, rounded to the nearest (half up);")
    static void meansAreRoundedHalfUp(NationBooks x) {
        x.row(0, 0, 0, 0);
        x.row(1, 0, 1, 0);
        due("a half goes up", x.said(0), 1);
        x.trust(0, 5);
        x.trust(1, 4);
        due("4 of 9 goes down", x.said(0), 0);
        x.trust(0, 4);
        x.trust(1, 5);
        due("5 of 9 goes up", x.said(0), 1);
        x.trust(0, 1);
        x.trust(1, 1);
        x.row(2, 719, 99999, 0);
        x.row(3, 719, 100000, 0);
        due("a half below the greatest", x.said(719), 100000);
    }

    @Says(at = "Terms 1", words = "the mean of what counts, by TRUST,")
    static void tenSourcesOfTheGreatestTrust(NationBooks x) {
        for (int s = 0; s < 10; s++) {
            x.trust(s, 9);
            x.row(s, 0, s < 5 ? 100000 : 99999, 0);
        }
        due("said", x.said(0), 100000);
        due("weight", x.weight(0), 90);
    }

    @Says(at = "Terms 1", words = "its WEIGHT: their TRUSTS together (0, if none counts: it is not SAID).")
    static void weightIs0IfNoneCounts(NationBooks x) {
        due("no row", x.weight(5), 0);
        due("not said", x.said(5), NOT);
        x.row(0, 5, 0, 6);
        due("a row of 0", x.weight(5), 1);
        due("is said", x.said(5), 0);
        x.asOf(5);
        due("not known yet", x.weight(5), 0);
        due("not said yet", x.said(5), NOT);
    }

    // ---- Terms 2

    @Says(at = "Terms 2", words = "BENT are the four QUARTERS of a LAND, PRODUCT, COLUMN, YEAR so: if its ANNUAL is not SAID: what is SAID, 0 for what is not.")
    static void withoutAnnualBentIsAsSaid(NationBooks x) {
        rows(x, 4, 7);
        rows(x, annual(0, 0, 0, 0), 40);
        rows(x, annual(0, 0, 0, 2), 80);
        rows(x, annual(0, 0, 1, 1), 44);
        rows(x, annual(0, 1, 0, 1), 48);
        rows(x, annual(1, 0, 0, 1), 52);
        bentDue(x, 4, 7, 0, 0, 0);
    }

    @Says(at = "Terms 2", words = "If it is: with QUARTERS that are not SAID: those that are stay, the rest (the ANNUAL less these) goes to the others in equal parts;")
    static void noQuarterIsSaid(NationBooks x) {
        rows(x, 576, 10);
        bentDue(x, 0, 3, 3, 2, 2);
    }

    @Says(at = "Terms 2", words = "with QUARTERS that are not SAID: those that are stay,")
    static void aQuarterSaidAs0Stays(NationBooks x) {
        rows(x, 0, 0);
        rows(x, 576, 9);
        bentDue(x, 0, 0, 3, 3, 3);
    }

    @Says(at = "Terms 2", words = "the rest (the ANNUAL less these) goes to the others in equal parts;")
    static void oneQuarterTakesAllTheRest(NationBooks x) {
        rows(x, 0, 1, 2, 3);
        rows(x, 576, 100);
        bentDue(x, 0, 1, 2, 3, 94);
    }

    @Says(at = "Terms 2", words = "the rest (the ANNUAL less these) goes to the others in equal parts;")
    static void theRestIs0(NationBooks x) {
        rows(x, 1, 1, 2, 3);
        rows(x, 576, 6);
        bentDue(x, 0, 0, 1, 2, 3);
    }

    @Says(at = "Terms 2", words = "the rest (the ANNUAL less these) goes to the others in equal parts;")
    static void theRestIsBelow0(NationBooks x) {
        // -5 in three parts: -1.67 each, rounded down -2; 1 is left, for the first
        rows(x, 1, 5);
        rows(x, 576, 0);
        bentDue(x, 0, -1, 5, -2, -2);
    }

    @Says(at = "Terms 2", words = "the rest (the ANNUAL less these) goes to the others in equal parts;")
    static void theLeastRest(NationBooks x) {
        rows(x, 8, 100000, 100000, 100000);
        rows(x, 578, 0);
        bentDue(x, 8, 100000, 100000, 100000, -300000);
    }

    @Says(at = "Terms 2", words = "if all are SAID: each becomes its part of the ANNUAL by its share of their sum")
    static void allQuartersAreSaid(NationBooks x) {
        // 10 by 1 1 1 4 of 7: 1.43 three times, 5.71; 2 are left, for the last and the first
        rows(x, 0, 1, 1, 1, 4);
        rows(x, 576, 10);
        bentDue(x, 0, 2, 1, 1, 6);
    }

    @Says(at = "Terms 2", words = "if all are SAID: each becomes its part of the ANNUAL by its share of their sum")
    static void aQuarterSaidAs0HasNoShare(NationBooks x) {
        // 2 by 0 1 1 1 of 3: 0, then 0.67 three times
        rows(x, 0, 0, 1, 1, 1);
        rows(x, 576, 2);
        bentDue(x, 0, 0, 1, 1, 0);
    }

    @Says(at = "Terms 2", words = "if all are SAID: each becomes its part of the ANNUAL by its share of their sum")
    static void anAnnualOf0TakesAll(NationBooks x) {
        rows(x, 0, 5, 0, 100000, 1);
        rows(x, 576, 0);
        bentDue(x, 0, 0, 0, 0, 0);
    }

    @Says(at = "Terms 2", words = "(if that is 0: in equal parts).")
    static void aSumOf0IsDealtInEqualParts(NationBooks x) {
        rows(x, 0, 0, 0, 0, 0);
        rows(x, 576, 7);
        bentDue(x, 0, 2, 2, 2, 1);
    }

    @Says(at = "Terms 2", words = "PARTS of a whole V by shares s (of a sum not 0): V s by the sum, rounded down each;")
    static void partsAreRoundedDown(NationBooks x) {
        // 9 by 1 2 3 4 of 10: 0.9 1.8 2.7 3.6, rounded down 6 in all
        rows(x, 0, 1, 2, 3, 4);
        rows(x, 576, 9);
        bentDue(x, 0, 1, 2, 3, 3);
    }

    @Says(at = "Terms 2", words = "PARTS of a whole V by shares s (of a sum not 0): V s by the sum, rounded down each;")
    static void partsBelow0AreRoundedDown(NationBooks x) {
        // gap -7 by shares 2520 2520 2520 1260 2520 2520: -1.27 and -0.64, rounded down -2 and -1;
        // 4 are left, for the first four of those with the rest 0.73
        x.rule(1);
        rows(x, 36, 7);
        columnsDue(x, 1, 1, 1, 7 - 1, -1, -2);
    }

    @Says(at = "Terms 2", words = "what is left goes by 1 to those with the greatest rest ahead of rounding,")
    static void theGreatestRestsGetWhatIsLeft(NationBooks x) {
        // 10 by 4 1 3 3 of 11: 3.64 0.91 2.73 2.73; 3 are left
        rows(x, 0, 4, 1, 3, 3);
        rows(x, 576, 10);
        bentDue(x, 0, 3, 1, 3, 3);
    }

    @Says(at = "Terms 2", words = "what is left goes by 1 to those with the greatest rest ahead of rounding,")
    static void nothingIsLeft(NationBooks x) {
        rows(x, 0, 10, 20, 30, 40);
        rows(x, 576, 200);
        bentDue(x, 0, 20, 40, 60, 80);
    }

    @Says(at = "Terms 2", words = "of like ones the first.")
    static void ofLikeRestsTheFirst(NationBooks x) {
        rows(x, 0, 3, 3, 3, 3);
        rows(x, 576, 14);
        bentDue(x, 0, 4, 4, 3, 3);
    }

    @Says(at = "Terms 2", words = "(Equal parts: shares 1.)")
    static void equalPartsAreOfThoseNotSaidAlone(NationBooks x) {
        x.rule(1);
        due("all was closed once by that rule", x.open(), 0);
        x.row(0, 0, 10, 0);
        x.row(0, 2, 20, 0);
        rows(x, 576, 37);
        bentDue(x, 0, 10, 4, 20, 3);
    }

    @Says(at = "Terms 2", words = "SHAPE of an ANNUAL that all are SAID of: the sum of amounts by which BENT ones differ from SAID ones.")
    static void shapeIsOfAmounts(NationBooks x) {
        rows(x, 0, 10, 20, 30, 40);
        x.row(0, 576, 50, 0);
        due("5 10 15 20", x.shape(576), 50);
        x.row(0, 576, 100, 1);
        due("as said", x.shape(576), 0);
        x.row(0, 576, 110, 2);
        due("11 22 33 44", x.shape(576), 10);
    }

    @Says(at = "Terms 2", words = "SHAPE of an ANNUAL that all are SAID of: the sum of amounts by which BENT ones differ from SAID ones.")
    static void theGreatestShape(NationBooks x) {
        rows(x, 0, 100000, 100000, 100000, 100000);
        rows(x, 576, 0);
        due("all fall", x.shape(576), 400000);
        rows(x, 12, 0, 0, 0, 0);
        rows(x, 579, 100000);
        due("all rise", x.shape(579), 100000);
    }

    @Says(at = "Terms 2", words = "SHAPE of an ANNUAL that all are SAID of:")
    static void shapeNeedsAllSaid(NationBooks x) {
        due("none is said", x.shape(576), NOT);
        rows(x, 0, 1, 2, 3, 4);
        due("the annual is not said", x.shape(576), NOT);
        rows(x, 576, 0);
        due("all are said", x.shape(576), 10);
        for (int q = 0; q < 4; q++) {
            NationBooks y = new NationBooks();
            for (int other = 0; other < 4; other++) {
                if (other != q) rows(y, other, 1);
            }
            rows(y, 576, 9);
            due("quarter " + q + " is not said", y.shape(576), NOT);
        }
    }

    // ---- Terms 3

    @Says(at = "Terms 3", words = "CLOSING of a LAND, PRODUCT, QUARTER: GAP is the sum of BENT SUPPLY COLUMNS less that of USE.")
    static void gapIsOfBentOnes(NationBooks x) {
        due("nothing is said", x.gap(1, 3, 11), 0);
        rows(x, annual(1, 3, 0, 2), 7);
        rows(x, annual(1, 3, 5, 2), 2);
        due("2 less 1", x.gap(1, 3, 8), 1);
        due("2 less 1", x.gap(1, 3, 9), 1);
        due("2 less 0", x.gap(1, 3, 10), 2);
        due("1 less 0", x.gap(1, 3, 11), 1);
        due("of another year", x.gap(1, 3, 7), 0);
    }

    @Says(at = "Terms 3", words = "CLOSING of a LAND, PRODUCT, QUARTER: GAP is the sum of BENT SUPPLY COLUMNS less that of USE.")
    static void theGreatestGap(NationBooks x) {
        for (int c = 0; c < 3; c++) {
            rows(x, cell(0, 0, c, 3), 100000);
        }
        for (int c = 3; c < 6; c++) {
            rows(x, cell(0, 0, c, 0), 100000, 100000, 100000);
            rows(x, annual(0, 0, c, 0), 0);
        }
        due("gap", x.gap(0, 0, 3), 300000 + 900000);
        due("at the other quarters", x.gap(0, 0, 2), -300000);
    }

    @Says(at = "Terms 3", words = "It is moved away in COLUMNS that are not FIXED (told by LAND, PRODUCT, COLUMN; none at first),")
    static void noneIsFixedAtFirst(NationBooks x) {
        due("fixed ones", x.count(5), 0);
        for (int i = 0; i < 48; i++) {
            due("loose already " + i, x.fix(i / 24, i / 6 % 4, i % 6, false), 0);
        }
    }

    @Says(at = "Terms 3", words = "It is moved away in COLUMNS that are not FIXED (told by LAND, PRODUCT, COLUMN; none at first),")
    static void fixedIsOneLandProductColumn(NationBooks x) {
        rows(x, cell(0, 0, 0, 0), 5);
        rows(x, cell(0, 1, 0, 0), 6);
        rows(x, cell(1, 0, 0, 0), 7);
        fix(x, 0, 0, 1);
        due("fixed: stays", x.closed(cell(0, 0, 1, 0)), 0);
        due("so the next one moves", x.closed(cell(0, 0, 2, 0)), -5);
        due("of another product", x.closed(cell(0, 1, 1, 0)), -6);
        due("of another land", x.closed(cell(1, 0, 1, 0)), -7);
    }

    @Says(at = "Terms 3", words = "each with a COST: its WEIGHT and 1 (that of its CELL, and that of its ANNUAL).")
    static void costIsOfCellAndAnnual(NationBooks x) {
        // column 0: 1 of its cell and 1 of its annual and 1; column 1: the trust of source 1 and 1
        fix(x, 0, 0, 2, 3, 4, 5);
        x.row(0, 0, 10, 0);
        x.row(0, 576, 10, 0);
        x.row(1, 12, 0, 0);
        x.trust(1, 2);
        columnsDue(x, 0, 0);
        x.trust(1, 1);
        columnsDue(x, 10, -10);
        x.trust(1, 3);
        columnsDue(x, 0, 0);
    }

    @Says(at = "Terms 3", words = "each with a COST: its WEIGHT and 1 (that of its CELL, and that of its ANNUAL).")
    static void costIsOfTheAnnualOfItsOwnYear(NationBooks x) {
        rows(x, 0, 10);
        rows(x, annual(0, 0, 1, 1), 0);
        due("another year's annual costs nothing", x.closed(12), -10);
        rows(x, annual(0, 0, 1, 0), 0);
        due("its own does", x.closed(12), 0);
        due("so the next one moves", x.closed(24), -10);
    }

    @Says(at = "Terms 3", words = "each with a COST: its WEIGHT and 1 (that of its CELL, and that of its ANNUAL).")
    static void costAtTheEdgesOfYears(NationBooks x) {
        for (int q : new int[] {0, 3, 4, 7, 8, 11}) {
            NationBooks own = new NationBooks();
            rows(own, q, 10);
            rows(own, annual(0, 0, 1, q / 4), 0);
            due("its own year's annual at " + q, own.closed(12 + q), 0);
            NationBooks others = new NationBooks();
            rows(others, q, 10);
            for (int year = 0; year < 3; year++) {
                if (year != q / 4) rows(others, annual(0, 0, 1, year), 0);
            }
            due("other years' annuals at " + q, others.closed(12 + q), -10);
        }
    }

    @Says(at = "Terms 3", words = "By RULE 0 all of it in the COLUMN with the least COST, of like ones the least COLUMN.")
    static void rule0TakesTheLeastColumnOfLikeOnes(NationBooks x) {
        fix(x, 0, 0, 5);
        rows(x, 60, 10);
        columnsDue(x, 10, 0, 0, 0, 0, 10);
        fix(x, 0, 0, 0);
        columnsDue(x, 0, 10, 0, 0, 0, 10);
    }

    @Says(at = "Terms 3", words = "By RULE 0 all of it in the COLUMN with the least COST, of like ones the least COLUMN.")
    static void rule0TakesTheLastColumnIfItIsCheapest(NationBooks x) {
        for (int c = 0; c < 5; c++) {
            rows(x, 12 * c, 10);
        }
        columnsDue(x, 10, 10, 10, 10, 10, 10);
        rows(x, 60, 20);
        columnsDue(x, 20, 10, 10, 10, 10, 20);
    }

    @Says(at = "Terms 3", words = "By RULE 1 (the squares of moves, each times its COST, least together, but for roundings):")
    static void rule1MovesByTheLeastSquares(NationBooks x) {
        // costs 1, 2, 4 of columns 0 to 2, a gap of -70
        x.rule(1);
        x.trust(2, 3);
        fix(x, 0, 0, 3, 4, 5);
        x.row(1, 12, 0, 0);
        x.row(2, 24, 0, 0);
        rows(x, 36, 70);
        long a = x.closed(0);
        long b = x.closed(12);
        long c = x.closed(24);
        columnsDue(x, 40, 20, 10, 70, 0, 0);
        for (long i = -70; i <= 70; i++) {
            for (long j = -70; j <= 70; j++) {
                long k = 70 - i - j;
                boolean isLess = i * i + 2 * j * j + 4 * k * k < a * a + 2 * b * b + 4 * c * c;
                due("moves " + i + " " + j + " " + k + " are less", isLess ? 1 : 0, 0);
            }
        }
    }

    @Says(at = "Terms 3", words = "PARTS of the GAP by shares 2520 by COST (cut).")
    static void theGreatestCostHasAShareYet(NationBooks x) {
        // cost 90 and 90 and 1: 2520 by 181 is 13.9, cut to 13; of 2533 in all
        x.rule(1);
        fix(x, 0, 0, 2, 3, 4, 5);
        for (int s = 0; s < 10; s++) {
            x.trust(s, 9);
            x.row(s, 0, 0, 0);
            x.row(s, 576, 0, 0);
        }
        rows(x, 24, 2533 * 30);
        columnsDue(x, -13 * 30, -2520 * 30, 2533 * 30, 0, 0, 0);
    }

    @Says(at = "Terms 3", words = "PARTS of the GAP by shares 2520 by COST (cut).")
    static void sharesAreOf2520(NationBooks x) {
        // costs 1 and 2: with 2519 or 2521 the cut shares would not be 2 to 1
        x.rule(1);
        fix(x, 0, 0, 2, 3, 4, 5);
        rows(x, 12, 0);
        rows(x, 24, 99999);
        columnsDue(x, -66666, -33333, 99999, 0, 0, 0);
    }

    @Says(at = "Terms 3", words = "PARTS of the GAP by shares 2520 by COST (cut).")
    static void rule1GivesALooseColumnAll(NationBooks x) {
        x.rule(1);
        fix(x, 0, 0, 0, 1, 2, 3, 4);
        rows(x, 0, 99999);
        columnsDue(x, 99999, 0, 0, 0, 0, 99999);
    }

    @Says(at = "Terms 3", words = "A SUPPLY COLUMN falls by its part, a USE one rises by it.")
    static void aGapAbove0(NationBooks x) {
        x.rule(1);
        fix(x, 0, 0, 0, 2, 4, 5);
        rows(x, 0, 60);
        columnsDue(x, 60, -30, 0, 30, 0, 0);
        x.column(1, 0);
        columnsDue(x, 60, 30, 0, 30, 0, 0);
    }

    @Says(at = "Terms 3", words = "A SUPPLY COLUMN falls by its part, a USE one rises by it.")
    static void aGapBelow0(NationBooks x) {
        x.rule(1);
        fix(x, 0, 0, 0, 2, 4, 5);
        rows(x, 60, 60);
        columnsDue(x, 0, 30, 0, -30, 0, 60);
        x.column(3, 1);
        columnsDue(x, 0, 30, 0, 30, 0, 60);
    }

    @Says(at = "Terms 3", words = "It is OPEN, if all are FIXED and the GAP is not 0.")
    static void openNeedsAllFixed(NationBooks x) {
        rows(x, 0, 1);
        fix(x, 0, 0, 0, 1, 2, 3, 4);
        due("one is loose", x.open(), 0);
        fix(x, 0, 0, 5);
        due("all are fixed", x.open(), 1);
        x.fix(0, 0, 0, false);
        due("the first is loose", x.open(), 0);
    }

    @Says(at = "Terms 3", words = "It is OPEN, if all are FIXED and the GAP is not 0.")
    static void openNeedsAGap(NationBooks x) {
        fix(x, 1, 3, 0, 1, 2, 3, 4, 5);
        due("no gap", x.open(), 0);
        rows(x, cell(1, 3, 3, 11), 1);
        due("a gap of -1", x.open(), 1);
        rows(x, cell(1, 3, 2, 11), 1);
        due("no gap again", x.open(), 0);
        rows(x, cell(1, 3, 1, 11), 1);
        due("a gap of 1", x.open(), 1);
    }

    @Says(at = "Terms 3", words = "CLOSED are CELLS behind that (of OPEN ones: as BENT).")
    static void openOnesAreAsBent(NationBooks x) {
        fix(x, 0, 0, 0, 1, 2, 3, 4, 5);
        rows(x, 576, 40);
        rows(x, 36, 7);
        for (int rule = 0; rule < 2; rule++) {
            x.rule(rule);
            columnsDue(x, 10, 0, 0, 7, 0, 0);
        }
    }

    @Says(at = "Terms 3", words = "CLOSED are CELLS behind that (of OPEN ones: as BENT).")
    static void withoutAGapNothingMoves(NationBooks x) {
        rows(x, 0, 5);
        rows(x, 60, 5);
        for (int rule = 0; rule < 2; rule++) {
            x.rule(rule);
            columnsDue(x, 5, 0, 0, 0, 0, 5);
        }
    }

    @Says(at = "Terms 3", words = "The TOTAL of a LAND (NONE: both), PRODUCT (NONE: all), COLUMN, QUARTER: CLOSED CELLS together.")
    static void totalOfNoneIsOfAll(NationBooks x) {
        int digit = 1;
        for (int i = 0; i < 8; i++) {
            fix(x, i / 4, i % 4, 5);
            rows(x, cell(i / 4, i % 4, 5, 11), i < 4 ? digit : 2 * digit);
            digit = i == 3 ? 1 : 10 * digit;
        }
        due("all", x.total(-1, -1, 5, 11), 3333);
        due("of land 0", x.total(0, -1, 5, 11), 1111);
        due("of land 1", x.total(1, -1, 5, 11), 2222);
        due("of product 0", x.total(-1, 0, 5, 11), 3);
        due("of product 3", x.total(-1, 3, 5, 11), 3000);
        due("of one", x.total(1, 3, 5, 11), 2000);
        due("closed ones of another column", x.total(-1, -1, 0, 11), 3333);
        due("of another quarter", x.total(-1, -1, 5, 10), 0);
    }

    @Says(at = "Terms 3", words = "MOVED of a LAND, PRODUCT, QUARTER: the sum of amounts of moves.")
    static void movedIsOfAmounts(NationBooks x) {
        due("nothing", x.moved(0, 0, 0), 0);
        rows(x, 36, 7);
        due("rule 0", x.moved(0, 0, 0), 7);
        x.rule(1);
        due("rule 1: moves up and down", x.moved(0, 0, 0), 7);
        due("of another quarter", x.moved(0, 0, 1), 0);
        fix(x, 1, 1, 0, 1, 2, 3, 4, 5);
        due("all fixed, no gap", x.moved(1, 1, 0), 0);
    }

    @Says(at = "Terms 3", words = "BROKEN are ANNUALS that are SAID, and whose four CLOSED QUARTERS are not together what is SAID.")
    static void aSaidAnnualThatMovesIsBroken(NationBooks x) {
        fix(x, 1, 3, 0, 1, 2, 3, 4);
        rows(x, annual(1, 3, 5, 2), 1);
        due("broken", x.broken(), 1);
        due("it", x.breaks(0), 719);
        fix(x, 1, 3, 5);
        due("open: as bent", x.broken(), 0);
    }

    @Says(at = "Terms 3", words = "BROKEN are ANNUALS that are SAID, and whose four CLOSED QUARTERS are not together what is SAID.")
    static void anAnnualThatIsNotSaidIsNotBroken(NationBooks x) {
        fix(x, 0, 0, 0);
        x.row(0, 1, 10, 0);
        due("closed", x.closed(1), 10);
        due("of another column", x.closed(13), -10);
        due("none is broken", x.broken(), 0);
        due("none is told", x.breaks(0), -1);
    }

    @Says(at = "Terms 3", words = "whose four CLOSED QUARTERS are not together what is SAID.")
    static void eachOfTheFourQuartersMayBreakAnAnnual(NationBooks x) {
        for (int q = 0; q < 12; q++) {
            NationBooks y = new NationBooks();
            fix(y, 0, 0, 1, 2, 3, 4, 5);
            rows(y, 576, 0, 0, 0);
            rows(y, 12 + q, 5);
            due("broken by quarter " + q, y.broken(), 1);
            due("it", y.breaks(0), 576 + q / 4);
        }
    }

    @Says(at = "Terms 3", words = "whose four CLOSED QUARTERS are not together what is SAID.")
    static void movesThatAddToNothingBreakNothing(NationBooks x) {
        // column 0 alone is loose, and moves by -5 and by 5
        fix(x, 0, 0, 1, 2, 3, 4, 5);
        rows(x, 576, 0);
        x.row(0, 12, 5, 0);
        x.row(0, 37, 5, 0);
        due("falls", x.closed(0), -5);
        due("rises", x.closed(1), 5);
        due("not broken", x.broken(), 0);
        x.row(0, 38, 1, 0);
        due("1 too much", x.broken(), 1);
    }

    // ---- Terms 4

    @Says(at = "Terms 4", words = "PRICES of PRODUCTS by QUARTERS (10 to 1000; 100 at first).")
    static void pricesAre10To1000And100AtFirst(NationBooks x) {
        for (int i = 0; i < 48; i++) {
            due("price " + i, x.price(i / 12, i % 12, 10 + i), 100);
        }
        for (int i = 0; i < 48; i++) {
            due("price " + i, x.price(i / 12, i % 12, 1000), 10 + i);
        }
        rangesOfKinds("price");
    }

    @Says(at = "Terms 4", words = "VOLUME of a PRODUCT in a COLUMN and a QUARTER (both LANDS):")
    static void volumeIsOfBothLandsTogether(NationBooks x) {
        fix(x, 0, 2, 4);
        fix(x, 1, 2, 4);
        rows(x, cell(0, 2, 4, 5), 5);
        rows(x, cell(1, 2, 4, 5), 5);
        x.price(2, 5, 200);
        due("10 at 200, rounded once", x.volume(2, 4, 5), 5);
        due("of another product", x.volume(1, 4, 5), 0);
    }

    @Says(at = "Terms 4", words = "TOTAL times 100 by PRICE, rounded down.")
    static void volumesAreRoundedDown(NationBooks x) {
        // 7 in column 0, so column 1 falls to -7
        said(x, 0, 7);
        int[] prices = {10, 100, 300, 700, 1000};
        long[] above = {70, 7, 2, 1, 0};
        long[] below = {-70, -7, -3, -1, -1};
        for (int i = 0; i < 5; i++) {
            x.price(0, 0, prices[i]);
            due("7 at " + prices[i], x.volume(0, 0, 0), above[i]);
            due("-7 at " + prices[i], x.volume(0, 1, 0), below[i]);
        }
        due("0", x.volume(0, 5, 0), 0);
    }

    @Says(at = "Terms 4", words = "MEAN PRICE of a PRODUCT and YEAR: the sum of four PRICES.")
    static void meanPriceIsTheSumOfFour(NationBooks x) {
        said(x, 3, 0, 0, 0, 0, 0, 3);
        x.price(3, 3, 1000);
        x.price(3, 4, 10);
        x.price(3, 6, 30);
        x.price(3, 7, 40);
        x.price(3, 8, 500);
        x.price(3, 11, 600);
        due("year 0", x.atPrices(3, 0, 5, 0), 3 * 1300);
        due("year 1", x.atPrices(3, 0, 5, 1), 3 * 180);
        due("year 2", x.atPrices(3, 0, 5, 2), 3 * 1300);
        x.price(2, 4, 10);
        due("of another product", x.atPrices(3, 0, 5, 1), 3 * 180);
    }

    @Says(at = "Terms 4", words = "AT PRICES of YEAR y: VOLUME times MEAN PRICE of y.")
    static void atPricesBelow0(NationBooks x) {
        said(x, 0, 7);
        x.price(0, 0, 300);
        due("volume -3 times 600", x.atPrices(0, 1, 0, 0), -1800);
        due("volume -3 times 400", x.atPrices(0, 1, 0, 2), -1200);
    }

    @Says(at = "Terms 4", words = "GROWTH of a COLUMN from QUARTER q - 1 to q by YEAR y, that of q less 1 (0 for YEAR 0):")
    static void growthIsByTheYearBefore(NationBooks x) {
        // product 1 has mean prices 1000, 1300, 400; product 0 has 400 in each
        said(x, 0, 10, 10, 10, 10, 10, 10, 10, 10, 10, 10, 10, 10);
        said(x, 1, 0, 10, 20, 10, 20, 10, 0, 10, 20, 10, 10, 20);
        x.price(1, 0, 700);
        x.price(1, 6, 1000);
        due("quarter 2 by year 0", x.growth(-1, 0, 2), 24000L * 1000000 / 14000);
        due("quarter 3 by year 0", x.growth(-1, 0, 3), 14000L * 1000000 / 24000);
        due("quarter 4 by year 0", x.growth(-1, 0, 4), 24000L * 1000000 / 14000);
        due("quarter 5 by year 0", x.growth(-1, 0, 5), 14000L * 1000000 / 24000);
        due("quarter 8 by year 1", x.growth(-1, 0, 8), 30000L * 1000000 / 17000);
        due("quarter 9 by year 1", x.growth(-1, 0, 9), 17000L * 1000000 / 30000);
        due("quarter 11 by year 1", x.growth(-1, 0, 11), 30000L * 1000000 / 17000);
    }

    @Says(at = "Terms 4", words = "(sum of PRODUCTS at q AT PRICES of y) by (the same at q - 1), in millionths, rounded down;")
    static void growthIsRoundedDown(NationBooks x) {
        said(x, 0, 3, 1);
        due("to a third", x.growth(0, 0, 1), 333333);
        said(x, 1, 3);
        rows(x, cell(0, 1, 0, 2), 0, 0);
        rows(x, annual(0, 1, 0, 0), 2);
        due("to a third below 0", x.growth(1, 0, 1), -333334);
        due("both: to 0", x.growth(-1, 0, 1), 0);
    }

    @Says(at = "Terms 4", words = "NONE, if the latter is not above 0.")
    static void growthFrom0IsNone(NationBooks x) {
        // product 0 from 5 to 7, product 1 from -5 to 5: together from 0 to 12
        said(x, 0, 5, 7);
        fix(x, 0, 1, 0);
        rows(x, cell(0, 1, 0, 1), 5, 0, 0);
        rows(x, annual(0, 1, 0, 0), 0);
        due("from above 0", x.growth(0, 0, 1), 1400000);
        due("from below 0", x.growth(1, 0, 1), -1);
        due("from 0 in all", x.growth(-1, 0, 1), -1);
        due("from 0 to 0", x.growth(2, 0, 1), -1);
    }

    /** Product 0 from -1 to 1, product 1 from 1 to 0, at mean prices of year 0 that are 400 but for one. */
    private static void tellNearly0(NationBooks x, int dearer) {
        fix(x, 0, 0, 0);
        rows(x, 1, 1, 0, 0);
        rows(x, 576, 0);
        said(x, 1, 1);
        x.price(dearer, 3, 101);
    }

    @Says(at = "Terms 4", words = "NONE, if the latter is not above 0.")
    static void growthFromASumOf1(NationBooks x) {
        tellNearly0(x, 1);
        due("from 401 less 400", x.atPrices(-1, 0, 0, 0), 1);
        due("to 400", x.growth(-1, 0, 1), 400000000);
        due("chain, cut", x.chain(-1, 0, 1), 10000000);
        due("part of product 0", x.part(0, 0, 1), 800000000);
        due("part of product 1", x.part(1, 0, 1), -401000000);
    }

    @Says(at = "Terms 4", words = "NONE, if the latter is not above 0.")
    static void growthFromASumOfMinus1(NationBooks x) {
        tellNearly0(x, 0);
        due("from 400 less 401", x.atPrices(-1, 0, 0, 0), -1);
        due("none", x.growth(-1, 0, 1), -1);
        due("chain stays", x.chain(-1, 0, 1), 1000000);
        due("no part", x.part(0, 0, 1), NOT);
    }

    @Says(at = "Terms 4", words = "NONE, if the latter is not above 0.")
    static void growthFromTheLeastAbove0(NationBooks x) {
        said(x, 0, 1, 100000);
        for (int q = 0; q < 4; q++) {
            x.price(0, q, q == 1 ? 10 : 100);
        }
        due("from 1 to 1000000", x.growth(0, 0, 1), 1000000000000L);
        due("to 0", x.growth(0, 0, 2), 0);
    }

    @Says(at = "Terms 4", words = "THE CHAIN of a COLUMN at q: 1000000 at QUARTER 0;")
    static void chainAtQuarter0(NationBooks x) {
        due("of nothing", x.chain(-1, 5, 0), 1000000);
        said(x, 0, 7);
        due("of something", x.chain(-1, 0, 0), 1000000);
        due("below 0", x.chain(0, 1, 0), 1000000);
    }

    @Says(at = "Terms 4", words = "from each to the next times GROWTH (cut to -1000000000 to 1000000000)")
    static void growthInTheChainIsCutAbove(NationBooks x) {
        said(x, 0, 1000, 1, 100000);
        due("a thousandth", x.chain(0, 0, 1), 1000);
        due("growth itself is not cut", x.growth(0, 0, 2), 100000000000L);
        due("a thousandfold", x.chain(0, 0, 2), 1000000);
    }

    @Says(at = "Terms 4", words = "from each to the next times GROWTH (cut to -1000000000 to 1000000000)")
    static void growthInTheChainIsCutBelow(NationBooks x) {
        said(x, 0, 100000, 100, 100);
        rows(x, 576, 0);
        due("a thousandth", x.chain(0, 0, 2), 1000);
        due("growth itself is not cut", x.growth(0, 0, 3), -1002000000);
        due("a thousandfold, below 0", x.chain(0, 0, 3), -1000000);
    }

    @Says(at = "Terms 4", words = "from each to the next times GROWTH (cut to -1000000000 to 1000000000)")
    static void growthAtTheCutIsWhole(NationBooks x) {
        // growth 999.5 times: below the cut
        said(x, 0, 100000, 100, 99950);
        due("a thousandth", x.chain(0, 0, 1), 1000);
        due("as it is", x.chain(0, 0, 2), 999500);
    }

    @Says(at = "Terms 4", words = "by 1000000, rounded down,")
    static void chainIsRoundedDown(NationBooks x) {
        // 7, 3, -2: 428571, then times -666667
        said(x, 0, 7, 3);
        x.row(0, 3, 0, 0);
        rows(x, 576, 8);
        due("chain", x.chain(0, 0, 1), 428571);
        due("growth", x.growth(0, 0, 2), -666667);
        due("-285714.1 rounded down", x.chain(0, 0, 2), -285715);
        said(x, 1, 3, 2, 1);
        due("666666 times 500000 is whole", x.chain(1, 0, 2), 333333);
        said(x, 2, 3, 4, 5);
        due("1333333 times 1250000, rounded down", x.chain(2, 0, 2), 1666666);
    }

    @Says(at = "Terms 4", words = "and cut to -10000000 to 10000000;")
    static void chainIsCutAbove(NationBooks x) {
        said(x, 0, 1, 10, 11, 10);
        due("tenfold", x.chain(0, 0, 1), 10000000);
        due("no more than that", x.chain(0, 0, 2), 10000000);
        due("it falls from there", x.chain(0, 0, 3), 9090900);
    }

    @Says(at = "Terms 4", words = "and cut to -10000000 to 10000000;")
    static void chainIsCutBelow(NationBooks x) {
        // the last quarter is -30 at a tenth of the price: a volume of -300 behind 10
        said(x, 0, 10, 10, 10);
        x.price(0, 3, 10);
        rows(x, 576, 0);
        due("growth", x.growth(0, 0, 3), -30000000);
        due("cut", x.chain(0, 0, 3), -10000000);
    }

    @Says(at = "Terms 4", words = "where GROWTH is NONE it stays.")
    static void chainStaysWithoutGrowth(NationBooks x) {
        said(x, 0, 4, 2, 0, 9);
        due("to a half", x.chain(0, 0, 1), 500000);
        due("to 0", x.chain(0, 0, 2), 0);
        due("from 0", x.growth(0, 0, 3), -1);
        due("0 stays", x.chain(0, 0, 3), 0);
        said(x, 1, 0, 5, 15);
        due("1000000 stays", x.chain(1, 0, 1), 1000000);
        due("then it goes on", x.chain(1, 0, 2), 3000000);
        fix(x, 0, 2, 0);
        rows(x, cell(0, 2, 0, 1), 10, 0, 8);
        rows(x, annual(0, 2, 0, 0), 0);
        due("from below 0 it stays", x.chain(2, 0, 1), 1000000);
    }

    /** The document does not say what a growth of -1 millionth is; it is read as a growth, not as NONE. */
    @Says(at = "Terms 4", words = "where GROWTH is NONE it stays.")
    static void aGrowthOfMinus1IsNotNone(NationBooks x) {
        // quarter 2: 100000 at 10, a volume of 1000000; quarter 3: the year's rest -1 at 1000, a volume of -0.1
        fix(x, 0, 0, 0);
        x.price(0, 2, 10);
        x.price(0, 3, 1000);
        rows(x, 0, 0, 1, 100000);
        rows(x, 576, 100000);
        due("volume", x.volume(0, 0, 3), -1);
        due("growth", x.growth(0, 0, 3), -1);
        due("chain at 2, cut", x.chain(0, 0, 2), 10000000);
        due("chain at 3", x.chain(0, 0, 3), -10);
        due("there is a part", x.part(0, 0, 3), -1000001);
    }

    @Says(at = "Terms 4", words = "PART of a PRODUCT in GROWTH: (its AT PRICES at q less at q - 1) by that lower sum in millionths, rounded down;")
    static void partsOfGrowthAreRoundedDown(NationBooks x) {
        // three fall by 1 of 3 in all: -333333.3, rounded down -333334; -1000000 in all, so 2 are left
        said(x, 0, 1, 0);
        said(x, 1, 1, 0);
        said(x, 2, 1, 0);
        due("first", x.part(0, 0, 1), -333333);
        due("second", x.part(1, 0, 1), -333333);
        due("third", x.part(2, 0, 1), -333334);
        due("without a part", x.part(3, 0, 1), 0);
    }

    @Says(at = "Terms 4", words = "what is left to GROWTH less 1000000 of all PRODUCTS goes by 1 to those with the greatest rest,")
    static void theGreatestRestOfPartsGetsWhatIsLeft(NationBooks x) {
        // of 7: three rise by 1 (142857.1), the last by 4 (571428.6); 1000000 in all, so 1 is left
        said(x, 0, 1, 2);
        said(x, 1, 2, 3);
        said(x, 2, 2, 3);
        said(x, 3, 2, 6);
        due("first", x.part(0, 0, 1), 142857);
        due("second", x.part(1, 0, 1), 142857);
        due("third", x.part(2, 0, 1), 142857);
        due("last", x.part(3, 0, 1), 571429);
    }

    @Says(at = "Terms 4", words = "of like ones the first (so they are that together).")
    static void ofLikeRestsOfPartsTheFirst(NationBooks x) {
        said(x, 1, 1, 2);
        said(x, 2, 1, 2);
        said(x, 3, 1, 2);
        due("without a part", x.part(0, 0, 1), 0);
        due("first", x.part(1, 0, 1), 333334);
        due("second", x.part(2, 0, 1), 333333);
        due("third", x.part(3, 0, 1), 333333);
    }

    @Says(at = "Terms 4", words = "(so they are that together).")
    static void partsAreGrowthTogether(NationBooks x) {
        said(x, 0, 17, 5, 100, 3);
        said(x, 1, 11, 13, 0, 7);
        said(x, 2, 1, 0, 99999, 1);
        said(x, 3, 0, 77, 7, 0);
        for (int q = 1; q < 4; q++) {
            x.price(q, q, 100 + 133 * q);
        }
        for (int q = 1; q < 5; q++) {
            long sum = 0;
            for (int p = 0; p < 4; p++) {
                sum += x.part(p, 0, q);
            }
            due("parts to " + q, sum, x.growth(-1, 0, q) - 1000000);
        }
    }

    @Says(at = "Terms 4", words = "The CHAIN of a PRODUCT is that as if it were alone.")
    static void chainOfAProductIsAlone(NationBooks x) {
        said(x, 0, 1, 2);
        said(x, 1, 4, 0);
        due("product 0", x.chain(0, 0, 1), 2000000);
        due("product 1", x.chain(1, 0, 1), 0);
        due("product 2", x.chain(2, 0, 1), 1000000);
        due("all", x.chain(-1, 0, 1), 400000);
    }

    @Says(at = "Terms 4", words = "APART at q: the sum of what each PRODUCT's CHAIN makes of its AT PRICES of YEAR 0 at QUARTER 0")
    static void apartWherePartsDoNotAdd(NationBooks x) {
        // alone: 3, 3 and 0, 0; together 0.75, then 4 by 3: 0.999999 of 16000 is 15999
        said(x, 0, 10, 30, 30);
        said(x, 1, 30, 0, 10);
        due("at 0", x.apart(0, 0), 0);
        due("at 1", x.apart(0, 1), 12000 - 12000);
        due("at 2", x.apart(0, 2), 12000 - 15999);
        x.price(0, 4, 1000);
        x.price(1, 8, 1000);
        due("prices of other years do not matter", x.apart(0, 2), 12000 - 15999);
    }

    @Says(at = "Terms 4", words = "(times CHAIN by 1000000, rounded down), less what the COLUMN's CHAIN makes of their sum.")
    static void apartIsRoundedDownForEach(NationBooks x) {
        // 1200 times 1.333333 is 1599.9996; 1200 times 0.666666 is 799.9992; together 2400
        said(x, 0, 3, 4);
        said(x, 1, 3, 2);
        due("2 are lost", x.apart(0, 1), 1599 + 799 - 2400);
    }

    @Says(at = "Terms 4", words = "(times CHAIN by 1000000, rounded down), less what the COLUMN's CHAIN makes of their sum.")
    static void apartIsRoundedDownBelow0(NationBooks x) {
        // product 0: -1, 3, 1: its chain stays, then is 333333; -400 times that is -133.3
        // product 1: 2, 2, 2; together 1, 5, 3: five times, then three times 400
        fix(x, 0, 0, 0);
        rows(x, 1, 3, 1, 0);
        rows(x, 576, 3);
        said(x, 1, 2, 2, 2);
        due("apart", x.apart(0, 2), -134 + 800 - 1200);
    }

    // ---- Terms 5

    @Says(at = "Terms 5", words = "TRADE: LAND a says it sold so much of a PRODUCT in a QUARTER to the other (0 to 100000), and that it bought so much;")
    static void tradeIs0To100000(NationBooks x) {
        due("sold", x.trade(0, 3, 11, 0, 0), -1);
        due("bought by the other", x.trade(1, 3, 11, 1, 100000), -1);
        due("greatest", x.hidden(0, 3, 11), 100000);
        rangesOfKinds("sold", "soldOrBought");
    }

    @Says(at = "Terms 5", words = "not said at first.")
    static void tradeIsNotSaidAtFirst(NationBooks x) {
        for (int i = 0; i < 192; i++) {
            due("trade " + i, x.trade(i / 96, i / 24 % 4, i / 2 % 12, i % 2, i), -1);
        }
        for (int i = 0; i < 192; i++) {
            due("trade " + i, x.trade(i / 96, i / 24 % 4, i / 2 % 12, i % 2, -1), i);
        }
    }

    @Says(at = "Terms 5", words = "HIDDEN of LAND a as seller: what the other says it bought less what a says it sold")
    static void hiddenIsOfTheSeller(NationBooks x) {
        x.trade(0, 0, 0, 0, 100000);
        x.trade(1, 0, 0, 1, 0);
        due("land 0 sells", x.hidden(0, 0, 0), -100000);
        due("land 1 does not", x.hidden(1, 0, 0), -1000000);
        x.trade(1, 0, 0, 0, 20);
        x.trade(0, 0, 0, 1, 20);
        due("nothing is hidden", x.hidden(1, 0, 0), 0);
    }

    @Says(at = "Terms 5", words = "(-1000000, if one is not said).")
    static void hiddenNeedsBoth(NationBooks x) {
        due("none is said", x.hidden(1, 2, 3), -1000000);
        x.trade(1, 2, 3, 0, 5);
        due("sold is said", x.hidden(1, 2, 3), -1000000);
        x.trade(1, 2, 3, 0, -1);
        x.trade(0, 2, 3, 1, 5);
        due("bought is said", x.hidden(1, 2, 3), -1000000);
        x.trade(1, 2, 3, 0, 0);
        due("sold 0 is said", x.hidden(1, 2, 3), 5);
    }

    @Says(at = "Terms 5", words = "AGREED: the mean of both by PRECISION")
    static void agreedIsByPrecision(NationBooks x) {
        x.trade(1, 0, 0, 0, 100);
        x.trade(0, 0, 0, 1, 0);
        due("like ones", x.agreed(1, 0, 0), 50);
        x.precise(1, 9);
        due("the seller's counts more", x.agreed(1, 0, 0), 90);
        x.precise(1, 1);
        x.precise(0, 9);
        due("the buyer's counts more", x.agreed(1, 0, 0), 10);
        x.precise(1, 9);
        x.trade(1, 0, 0, 0, 100000);
        x.trade(0, 0, 0, 1, 100000);
        due("greatest", x.agreed(1, 0, 0), 100000);
    }

    @Says(at = "Terms 5", words = "(told of each LAND, 1 to 9; 1 at first),")
    static void precisionIs1To9And1AtFirst(NationBooks x) {
        for (int land = 0; land < 2; land++) {
            due("precision of " + land, x.precise(land, 9), 1);
            due("precision of " + land, x.precise(land, 1), 9);
        }
        rangesOfKinds("precision");
    }

    @Says(at = "Terms 5", words = "rounded to the nearest (half up);")
    static void agreedIsRoundedHalfUp(NationBooks x) {
        x.trade(0, 0, 0, 0, 0);
        x.trade(1, 0, 0, 1, 1);
        due("a half goes up", x.agreed(0, 0, 0), 1);
        x.precise(0, 5);
        x.precise(1, 4);
        due("4 of 9 goes down", x.agreed(0, 0, 0), 0);
        x.precise(0, 4);
        x.precise(1, 5);
        due("5 of 9 goes up", x.agreed(0, 0, 0), 1);
    }

    @Says(at = "Terms 5", words = "if one is said that one; 0.")
    static void agreedOfOneOrNone(NationBooks x) {
        x.precise(0, 9);
        due("none is said", x.agreed(0, 0, 0), 0);
        x.trade(0, 0, 0, 0, 70);
        due("sold alone", x.agreed(0, 0, 0), 70);
        x.trade(0, 0, 0, 0, -1);
        x.trade(1, 0, 0, 1, 30);
        due("bought alone", x.agreed(0, 0, 0), 30);
        x.trade(0, 0, 0, 0, 0);
        due("sold 0 is said", x.agreed(0, 0, 0), 3);
    }

    @Says(at = "Terms 5", words = "SECTORS 0 .. 5.")
    static void sectorsAre0To5(NationBooks x) {
        rangesOfKinds("sector", "otherSector");
    }

    @Says(at = "Terms 5", words = "FLOWS in a QUARTER from one to another (-100000 to 100000; several are summed).")
    static void flowsAreSummedBeyondTheirRange(NationBooks x) {
        due("greatest", x.flow(5, 0, 11, 100000), 100000);
        due("twice", x.flow(5, 0, 11, 100000), 200000);
        due("less", x.flow(5, 0, 11, -100000), 100000);
        due("the other way is another", x.flow(0, 5, 11, -100000), -100000);
        due("another quarter is another", x.flow(5, 0, 10, 0), 0);
        rangesOfKinds("flow");
    }

    @Says(at = "Terms 5", words = "NET of a SECTOR and QUARTER: what comes less what goes.")
    static void netIsWhatComesLessWhatGoes(NationBooks x) {
        due("nothing", x.net(5, 11), 0);
        x.flow(5, 0, 11, 100000);
        x.flow(4, 5, 11, 30000);
        x.flow(5, 1, 10, 7);
        due("comes less goes", x.net(5, 11), -70000);
        due("what comes", x.net(0, 11), 100000);
        due("what goes", x.net(4, 11), -30000);
        x.flow(0, 5, 11, -100000);
        due("a flow below 0", x.net(0, 11), 200000);
    }

    @Says(at = "Terms 5", words = "STOCKS at the end of a QUARTER (told; not at first) of a SECTOR:")
    static void noStockIsToldAtFirst(NationBooks x) {
        due("told", x.count(6), 0);
        for (int i = 0; i < 72; i++) {
            due("off " + i, x.off(i / 12, i % 12), NOT);
            due("unstock " + i, x.unstock(i / 12, i % 12), 0);
            due("due " + i, x.due(i / 12, i % 12), 0);
        }
        rangesOfKinds("stock");
    }

    private static void tellFlows(NationBooks x) {
        for (int q = 0; q < 12; q++) {
            x.flow(0, 1, q, 1 << q);
        }
    }

    @Says(at = "Terms 5", words = "DUE at the end of q: the STOCK of the latest QUARTER ahead of q that is told")
    static void dueIsFromTheLatestStockAhead(NationBooks x) {
        tellFlows(x);
        x.stock(1, 3, 5000);
        due("its own quarter's stock does not count", x.due(1, 3), 15);
        due("the next quarter's does", x.due(1, 4), 5000 + 16);
        x.stock(1, 5, 0);
        due("a stock of 0 is told", x.due(1, 6), 64);
        due("ahead of it the earlier one", x.due(1, 5), 5000 + 16 + 32);
        x.stock(0, 10, 9);
        due("another sector's does not count", x.due(1, 11), 4095 - 63);
    }

    @Says(at = "Terms 5", words = "(0 ahead of all),")
    static void dueIsFrom0AheadOfAll(NationBooks x) {
        tellFlows(x);
        due("quarter 0", x.due(1, 0), 1);
        due("all quarters", x.due(1, 11), 4095);
        x.stock(1, 11, 1000000);
        due("a stock at 11 is behind all", x.due(1, 11), 4095);
        due("what goes", x.due(0, 11), -4095);
    }

    @Says(at = "Terms 5", words = "and all NETS from there on to q.")
    static void dueHasTheNetsBehindTheStock(NationBooks x) {
        tellFlows(x);
        x.stock(1, 0, -1000000);
        due("from quarter 1 to 1", x.due(1, 1), -1000000 + 2);
        due("from quarter 1 to 11", x.due(1, 11), -1000000 + 4094);
        x.stock(1, 10, 1000000);
        due("from quarter 11 to 11", x.due(1, 11), 1000000 + 2048);
    }

    @Says(at = "Terms 5", words = "OFF of a STOCK that is told: STOCK less DUE.")
    static void offIsStockLessDue(NationBooks x) {
        tellFlows(x);
        x.stock(1, 0, -1000000);
        x.stock(1, 1, 1000000);
        due("first", x.off(1, 0), -1000001);
        due("from least to greatest", x.off(1, 1), 2000000 - 2);
        due("not told", x.off(1, 2), NOT);
        x.stock(1, 2, 1000004);
        due("not in its range", x.off(1, 2), NOT);
    }

    // ---- Terms 6: laws

    @Says(at = "Terms 6", words = "LAWS are texts of up to 60 bytes (LAWS 0 .. 3):")
    static void lawsAreOfUpTo60Bytes(NationBooks x) {
        String longest = "1=" + "1+".repeat(28) + "12";
        Telling told = y -> law(y, 3, longest);
        refused(told, NationBooks.FULL, "type", 3, '1' + 0);
        told.tell(x);
        due("bytes", x.count(7), 60);
        due("without fault", x.fault(3), -1);
        due("1 less 28 and 12", x.left(3, 0), 1 - 40);
        rangesOfKinds("law", "byte");
    }

    @Says(at = "Terms 6", words = "a sum, = , a sum;")
    static void aLawHasOneEqualsSign(NationBooks x) {
        faultDue("1=1", -1);
        faultDue("1", 1);
        faultDue("1+1", 3);
        faultDue("=1", 0);
        faultDue("1=", 2);
        faultDue("=", 0);
        faultDue("1==1", 2);
        faultDue("1=1=1", 3);
        faultDue("1=1=", 3);
    }

    @Says(at = "Terms 6", words = "a sum: terms with + or - between them (none ahead of the first);")
    static void signsStandBetweenTerms(NationBooks x) {
        faultDue("1+1-1=1-1+1", -1);
        faultDue("+1=1", 0);
        faultDue("-1=1", 0);
        faultDue("1=+1", 2);
        faultDue("1=-1", 2);
        faultDue("1+=1", 2);
        faultDue("1--1=1", 2);
        faultDue("1+-1=1", 2);
        faultDue("1=1-", 4);
        faultDue("1c000=1", 1);
        faultDue("c000c000=1", 4);
        faultDue("1 +1=1", 1);
    }

    @Says(at = "Terms 6", words = "a term: a number of one to six figures,")
    static void numbersHaveOneToSixFigures(NationBooks x) {
        faultDue("0=9", -1);
        faultDue("123456=000000", -1);
        faultDue("1234567=1", 6);
        faultDue("0000000=1", 6);
        faultDue("1=1234567", 8);
        faultDue("1=/", 2);
        faultDue("1=:", 2);
        law(x, 0, "999999=000001");
        due("greatest less least", x.left(0, 0), 999998);
    }

    @Says(at = "Terms 6", words = "or c and three figures: LAND, PRODUCT, COLUMN")
    static void cHasThreeFigures(NationBooks x) {
        faultDue("c000=c135", -1);
        faultDue("c", 1);
        faultDue("c0", 2);
        faultDue("c00", 3);
        faultDue("c=1", 1);
        faultDue("c0=1", 2);
        faultDue("c00=1", 3);
        faultDue("c0000=1", 4);
        faultDue("C000=1", 0);
        faultDue("cc00=1", 1);
    }

    @Says(at = "Terms 6", words = "(of a QUARTER asked: CLOSED CELLS),")
    static void cIsAClosedCellOfTheQuarterAsked(NationBooks x) {
        rows(x, cell(1, 3, 5, 0), 7);
        rows(x, cell(1, 3, 5, 11), 9);
        law(x, 0, "c135=0");
        law(x, 1, "c130=0");
        due("quarter 0", x.left(0, 0), 7);
        due("quarter 10", x.left(0, 10), 0);
        due("quarter 11", x.left(0, 11), 9);
        due("column 0 has closed it", x.left(1, 11), 9);
    }

    @Says(at = "Terms 6", words = "or such a number, *, and such a c.")
    static void aNumberTimesACell(NationBooks x) {
        faultDue("1*c000=123456*c135", -1);
        faultDue("1234567*c000=1", 6);
        faultDue("1*", 2);
        faultDue("1*1=1", 2);
        faultDue("1**c000=1", 2);
        faultDue("*c000=1", 0);
        faultDue("1*c", 3);
        faultDue("1*c00=1", 5);
        faultDue("1*c006=1", 3);
        faultDue("c000*1=1", 4);
        faultDue("1*c000*c000=1", 6);
        fix(x, 0, 0, 0);
        rows(x, 0, 100000);
        law(x, 0, "999999*c000-0*c000=0");
        due("greatest", x.left(0, 0), 99999900000L);
    }

    @Says(at = "Terms 6", words = "The FAULT is the place of the first byte with which it cannot go on")
    static void theFirstOfTwoFaultsIsTold(NationBooks x) {
        faultDue("1x=y", 1);
        faultDue("x", 0);
        faultDue("1=1x", 3);
        faultDue("1=1 ", 3);
        faultDue("1=c136+x", 3);
        faultDue("1+" + (char) 0 + "=1", 2);
        faultDue("1=1" + (char) 255, 3);
        faultDue((char) 176 + "1=1", 0);
    }

    @Says(at = "Terms 6", words = "(the end, where more must come),")
    static void theFaultIsAtTheEndWhereMoreMustCome(NationBooks x) {
        faultDue("", 0);
        faultDue("12", 2);
        faultDue("c00", 3);
        faultDue("12*", 3);
        faultDue("1+", 2);
        faultDue("1=", 2);
        faultDue("1=1+", 4);
        faultDue("1=" + "1+".repeat(29), 60);
        faultDue("1" + "+1".repeat(29) + "1", 60);
    }

    @Says(at = "Terms 6", words = "or of the first figure of a c that there is not.")
    static void aCellThatThereIsNot(NationBooks x) {
        faultDue("c135=0", -1);
        faultDue("c235=0", 1);
        faultDue("c145=0", 1);
        faultDue("c136=0", 1);
        faultDue("c999=0", 1);
        faultDue("c136", 1);
        faultDue("1=c000-7*c140", 10);
    }

    /** Whether there is such a c is read to be asked when its three figures stand. */
    @Says(at = "Terms 6", words = "or of the first figure of a c that there is not.")
    static void anUnfinishedCellIsAFaultWhereItEnds(NationBooks x) {
        faultDue("c9", 2);
        faultDue("c9x=0", 2);
        faultDue("c09=0", 3);
        faultDue("1=5*c99", 7);
    }

    @Says(at = "Terms 6", words = "LEFT OVER in a QUARTER: the left sum less the right one.")
    static void leftOverIsLeftLessRight(NationBooks x) {
        law(x, 0, "1-2+4=8-16+32");
        due("3 less 24", x.left(0, 0), -21);
        law(x, 1, "000000=999999");
        due("least of numbers", x.left(1, 11), -999999);
        fix(x, 0, 0, 3);
        rows(x, 36, 5);
        law(x, 2, "2*c003-c000=c003+3*c000");
        due("10 less -5, less 5 and 15", x.left(2, 0), 10 - 5 - (5 + 15));
        due("nothing in another quarter", x.left(2, 1), 0);
    }

    // ---- Terms 6: sheets

    @Says(at = "Terms 6", words = "SHEETS 0 .. 3 are LOST (at first)")
    static void sheetsAre0To3AndLostAtFirst(NationBooks x) {
        for (int s = 0; s < 4; s++) {
            due("sheet " + s, x.lose(s), -11);
            due("sheet " + s, x.read(s), -11);
        }
        rangesOfKinds("sheet");
    }

    @Says(at = "Terms 6", words = "or a row of a FORM: 0 bytes, 1 shorts, 2 ints,")
    static void formsAreBytesShortsInts(NationBooks x) {
        int[][] items = {
            {127, -128, -1, 0, 1},
            {32767, -32768, -1, 0, 1},
            {Integer.MAX_VALUE, Integer.MIN_VALUE + 1, -1, 0, 1},
        };
        for (int form = 0; form < 3; form++) {
            sheet(x, form, form, items[form]);
            itemsDue(x, form, form, items[form]);
        }
        rangesOfKinds("form", "formOfSheet");
    }

    @Says(at = "Terms 6", words = "of 0 to 60 items (0 at first).")
    static void sheetsHave0To60Items(NationBooks x) {
        due("none", x.sheet(0, 2, 0), 0);
        found(y -> y.sheet(0, 2, 0), 2, "get", 0, 2, 0);
        due("60", x.sheet(0, 2, 60), 60);
        for (int i = 0; i < 60; i++) {
            due("item " + i, x.get(0, 2, i), 0);
            x.put(0, 2, i, 5);
        }
        found(y -> y.sheet(0, 2, 60), 2, "get", 0, 2, 60);
        x.sheet(0, 2, 60);
        due("0 again", x.get(0, 2, 59), 0);
        bad(NOTHING, "sheet", 0, 0, 61);
    }

    @Says(at = "Terms 6", words = "FINDINGS (answers -10 less the number; they change nothing but count() 8):")
    static void findingsAreAnswersBelowMinus10(NationBooks x) {
        due("before any", x.count(8), 0);
        x.sheet(1, 1, 1);
        x.sheet(2, 2, 1);
        long[] answers = {x.lose(0), x.put(1, 1, 1, 0), x.put(1, 2, 0, 0), x.copy(1, 0, 2, 0, 1), x.sheet(0, 0, -1)};
        for (int i = 0; i < 5; i++) {
            due("finding " + (i + 1), answers[i], -11 - i);
        }
        due("the latest", x.count(8), 5);
    }

    @Says(at = "Terms 6", words = "1 NULL: the SHEET is LOST;")
    static void findingNull(NationBooks x) {
        found(SHEETS, 1, "lose", 0);
        found(SHEETS, 1, "put", 0, 0, 0, 0);
        found(SHEETS, 1, "get", 0, 0, 0);
        found(SHEETS, 1, "copy", 0, 0, 1, 0, 0);
        found(SHEETS, 1, "copy", 1, 0, 0, 0, 0);
        found(SHEETS, 1, "copy", 0, 0, 0, 0, 0);
        found(SHEETS, 1, "read", 0);
        found(SHEETS, 1, "write", 0, 0, 0, 0);
        tellSheets(x);
        x.lose(1);
        due("a sheet that has been lost", x.lose(1), -11);
    }

    @Says(at = "Terms 6", words = "2 INDEX: there is no such item;")
    static void findingIndex(NationBooks x) {
        for (int i : new int[] {-1, 4, LEAST_INT, Integer.MAX_VALUE}) {
            found(SHEETS, 2, "put", 1, 1, i, 5);
            found(SHEETS, 2, "get", 1, 1, i);
            found(SHEETS, 2, "copy", 1, i, 3, 0, 1);
            found(SHEETS, 2, "copy", 3, 0, 1, i, 1);
        }
    }

    @Says(at = "Terms 6", words = "3 CAST: it has another FORM;")
    static void findingCast(NationBooks x) {
        found(SHEETS, 3, "put", 1, 0, 0, 5);
        found(SHEETS, 3, "put", 1, 2, 0, 5);
        found(SHEETS, 3, "put", 2, 1, 0, 5);
        found(SHEETS, 3, "get", 1, 0, 0);
        found(SHEETS, 3, "get", 1, 2, 0);
        found(SHEETS, 3, "get", 2, 0, 0);
    }

    @Says(at = "Terms 6", words = "4 STORE: unlike FORMS;")
    static void findingStore(NationBooks x) {
        found(SHEETS, 4, "copy", 1, 0, 2, 0, 1);
        found(SHEETS, 4, "copy", 2, 0, 1, 0, 1);
        found(SHEETS, 4, "copy", 1, 0, 2, 0, 0);
    }

    @Says(at = "Terms 6", words = "5 SIZE: below 0.")
    static void findingSize(NationBooks x) {
        found(SHEETS, 5, "sheet", 0, 0, -1);
        found(SHEETS, 5, "sheet", 1, 1, LEAST_INT);
    }

    @Says(at = "Terms 6", words = "READ are ROWS of a SHEET: its items, SOURCE, CODE, value, RELEASE one behind the other,")
    static void readTakesFourItemsARow(NationBooks x) {
        sheet(x, 0, 2, 9, 719, 100000, 9, 0, 0, 0, 0);
        due("rows", x.read(0), 2);
        int[][] rows = {{9, 719, 100000, 9, 1}, {0, 0, 0, 0, 1}};
        for (int what = 0; what < 5; what++) {
            due("row 0, " + what, x.rowIs(0, what), rows[0][what]);
            due("row 1, " + what, x.rowIs(1, what), rows[1][what]);
        }
    }

    @Says(at = "Terms 6", words = "as many as are whole,")
    static void readTakesWholeRowsAlone(NationBooks x) {
        for (int n = 0; n < 10; n++) {
            x.sheet(0, 1, n);
            due("rows of " + n + " items", x.read(0), n / 4);
        }
        x.sheet(0, 0, 60);
        due("rows of 60 items", x.read(0), 15);
    }

    @Says(at = "Terms 6", words = "as long as each may be.")
    static void readEndsAtTheFirstThatMayNotBe(NationBooks x) {
        int[][] wrong = {{10, 0, 0, 0}, {-1, 0, 0, 0}, {0, 720, 0, 0}, {0, -1, 0, 0}, {0, 0, 100001, 0},
            {0, 0, -1, 0}, {0, 0, 0, 10}, {0, 0, 0, -1}};
        for (int[] w : wrong) {
            int before = x.count(0);
            sheet(x, 0, 2, 1, 2, 3, 4, w[0], w[1], w[2], w[3], 5, 6, 7, 8);
            due("the row ahead of it", x.read(0), 1);
            due("none behind it", x.count(0), before + 1);
        }
        due("no finding", x.count(8), 0);
    }

    @Says(at = "Terms 6", words = "as long as each may be.")
    static void readEndsWhereRowsAreFull(NationBooks x) {
        for (int i = 0; i < 79; i++) {
            x.row(0, 0, 0, 0);
        }
        sheet(x, 0, 2, 1, 2, 3, 4, 5, 6, 7, 8);
        due("one has room", x.read(0), 1);
        due("none has", x.read(0), 0);
        due("rows", x.count(0), 80);
        due("the last", x.rowIs(79, 2), 3);
    }

    // ---- Terms 7

    @Says(at = "Terms 7", words = "AS OF: all of this is as of a RELEASE that is told (9 at first).")
    static void allIsAsOfARelease(NationBooks x) {
        fix(x, 0, 0, 0);
        rows(x, 0, 10, 20);
        x.row(1, 1, 40, 4);
        x.row(1, 576, 90, 9);
        law(x, 0, "c000=10");
        due("at first", x.asOf(9), 9);
        due("the annual bends quarters 2, 3", x.bent(2), 25);
        due("chain", x.chain(0, 0, 1), 3000000);
        due("rows that count", x.count(1), 4);
        due("was", x.asOf(8), 9);
        due("not said yet", x.said(576), NOT);
        due("not bent", x.bent(2), 0);
        due("not broken", x.broken(), 0);
        due("chain", x.chain(0, 0, 1), 3000000);
        due("rows that count", x.count(1), 3);
        due("was", x.asOf(3), 8);
        due("chain", x.chain(0, 0, 1), 2000000);
        due("moved", x.moved(0, 0, 1), 20);
        due("led", x.led(0, true), 3);
        due("law", x.left(0, 0), 0);
        due("was", x.asOf(0), 3);
        due("rows of release 0 count", x.count(1), 2);
    }

    @Says(at = "Terms 7", words = "REVISION of a CODE's SAID value from a RELEASE r to a later one: what it is then less what it was")
    static void revisionNeedsALaterRelease(NationBooks x) {
        x.row(0, 50, 100, 0);
        x.row(0, 50, 30, 9);
        due("from least to greatest", x.revision(50, 0, 9), -70);
        due("the last alone", x.revision(50, 8, 9), -70);
        due("ahead of it", x.revision(50, 0, 8), 0);
        Telling told = y -> y.row(0, 50, 100, 0);
        for (int r = 0; r < 10; r++) {
            bad(told, "revision", 50, r, r);
        }
        bad(told, "revision", 50, 9, 0);
        bad(told, "revision", 50, 1, 0);
        bad(told, "steps", 50, 4, 4);
        bad(told, "steps", 50, 5, 4);
        bad(told, "step", 50, 4, 4, 0, 0);
        bad(told, "step", 50, 5, 4, 0, 0);
    }

    @Says(at = "Terms 7", words = "(0 where it is not SAID).")
    static void revisionFromNotSaid(NationBooks x) {
        x.row(3, 719, 42, 5);
        due("from not said", x.revision(719, 4, 5), 42);
        due("not said at both", x.revision(719, 0, 4), 0);
        due("said at both", x.revision(719, 5, 6), 0);
        due("never said", x.revision(0, 0, 9), 0);
        due("step from not said", x.step(719, 0, 9, 0, 0), 42);
    }

    /** Of code 50: source 0 says 100 at first, 1 and 3 come in release 2, 3 again in release 5. */
    private static void tellReleases(NationBooks x) {
        x.row(0, 50, 100, 0);
        x.row(3, 50, 10, 2);
        x.row(1, 50, 20, 2);
        x.row(1, 50, 30, 2);
        x.row(3, 50, 40, 5);
        x.row(2, 51, 99, 3);
    }

    private static void stepsDue(NationBooks x, int from, int to, long[]... steps) {
        due("steps", x.steps(50, from, to), steps.length);
        for (int i = 0; i < steps.length; i++) {
            for (int what = 0; what < 3; what++) {
                due("step " + i + ", " + what, x.step(50, from, to, i, what), steps[i][what]);
            }
        }
        due("no such step", x.step(50, from, to, steps.length, 0), BAD);
    }

    @Says(at = "Terms 7", words = "It is made of STEPS: one for each RELEASE s from r and 1 on, in order,")
    static void stepsAreOfReleasesBehindR(NationBooks x) {
        tellReleases(x);
        stepsDue(x, 0, 1);
        stepsDue(x, 1, 2, new long[] {-35, 1, 2}, new long[] {-18, 3, 2});
        stepsDue(x, 2, 4);
        stepsDue(x, 2, 5, new long[] {10, 3, 5});
        stepsDue(x, 5, 9);
        stepsDue(x, 0, 9, new long[] {-35, 1, 2}, new long[] {-18, 3, 2}, new long[] {10, 3, 5});
        due("together", x.revision(50, 0, 9), -35 - 18 + 10);
    }

    @Says(at = "Terms 7", words = "and in it one for each SOURCE with a ROW of this CODE in s, by numbers:")
    static void aSourceHasOneStepInARelease(NationBooks x) {
        for (int s = 9; s >= 0; s--) {
            x.row(s, 50, 10 * s, 1);
            x.row(s, 50, 10, 1);
        }
        due("steps", x.steps(50, 0, 1), 10);
        for (int i = 0; i < 10; i++) {
            due("source", x.step(50, 0, 9, i, 1), i);
            due("adds", x.step(50, 0, 9, i, 0), i == 0 ? 10 : 0);
        }
        due("no such step", x.step(50, 0, 9, 10, 1), BAD);
    }

    @Says(at = "Terms 7", words = "the SAID value with all ROWS up to s - 1, and of s those of SOURCES up to this one, less that with those below it.")
    static void aStepIsWithSourcesUpToThisOne(NationBooks x) {
        // at first 100; then with 30 of source 1: 65; with 10 of source 3: 46.7; then 40 for 10: 56.7
        tellReleases(x);
        x.asOf(0);
        due("revision names its own releases", x.revision(50, 0, 9), 57 - 100);
        long[] adds = {65 - 100, 47 - 65, 57 - 47};
        for (int i = 0; i < 3; i++) {
            due("step " + i, x.step(50, 0, 9, i, 0), adds[i]);
        }
        x.row(9, 50, 0, 9);
        due("the last source in the last release", x.step(50, 8, 9, 0, 0), 43 - 57);
    }

    @Says(at = "Terms 7", words = "LED: the ROWS that count for a CODE as of the RELEASE, as bits")
    static void ledIsOfRowsThatCount(NationBooks x) {
        tellReleases(x);
        due("rows 0, 3, 4", x.led(50, false), 1 + 8 + 16);
        due("row 5", x.led(51, false), 32);
        due("none", x.led(52, false), 0);
        x.asOf(2);
        due("rows 0, 1, 3", x.led(50, false), 1 + 2 + 8);
        x.asOf(1);
        due("row 0", x.led(50, false), 1);
    }

    @Says(at = "Terms 7", words = "(ROWS 0 .. 62; others are not told);")
    static void row62IsTheLastThatIsLed(NationBooks x) {
        for (int i = 0; i < 80; i++) {
            x.row(i % 10, i < 62 ? 300 : i, 0, 0);
        }
        due("row 62", x.led(62, false), 1L << 62);
        due("row 63", x.led(63, false), 0);
        due("row 64", x.led(64, false), 0);
        due("row 79", x.led(79, false), 0);
        due("closed", x.led(60, true), 1L << 62);
        due("rows 52 to 61", x.led(300, false), ((1L << 10) - 1) << 52);
    }

    @Says(at = "Terms 7", words = "of a CLOSED CELL: those of all COLUMNS of its LAND, PRODUCT, of its QUARTER and of its YEAR's ANNUALS, and of all QUARTERS of that YEAR.")
    static void ledOfAClosedCellIsOfItsYear(NationBooks x) {
        int[] within = {cell(1, 2, 0, 4), cell(1, 2, 5, 7), annual(1, 2, 0, 1), annual(1, 2, 5, 1)};
        int[] without = {cell(1, 2, 0, 3), cell(1, 2, 0, 8), annual(1, 2, 0, 0), annual(1, 2, 0, 2),
            cell(0, 2, 0, 4), cell(1, 1, 0, 4), cell(1, 3, 0, 4), annual(0, 2, 0, 1), annual(1, 1, 5, 1)};
        for (int code : within) {
            x.row(0, code, 1, 0);
        }
        for (int code : without) {
            x.row(0, code, 1, 0);
        }
        x.row(0, within[0], 1, 1);
        for (int q = 4; q < 8; q++) {
            due("quarter " + q, x.led(cell(1, 2, 3, q), true), 2 + 4 + 8 + (1 << 13));
        }
    }

    // ---- Refusals

    @Says(at = "Refusals", words = "Refusals, the first that fits: BAD -2 (a number not as told, no such thing), NULL of a SHEET that is asked,")
    static void badIsAheadOfNull(NationBooks x) {
        bad(NOTHING, "put", 0, 3, 0, 0);
        bad(NOTHING, "put", 0, -1, 0, 0);
        bad(NOTHING, "get", 0, 3, 0);
        bad(NOTHING, "copy", 0, 0, 4, 0, 0);
        bad(NOTHING, "copy", -1, 0, 0, 0, 0);
        bad(NOTHING, "write", 0, 2, 0, 0);
        bad(NOTHING, "write", 0, 0, -1, 0);
        bad(NOTHING, "write", 0, 0, 0, 6);
    }

    @Says(at = "Refusals", words = "BAD -2 (a number not as told, no such thing), NULL of a SHEET that is asked, NOT -3 (as told),")
    static void badIsAheadOfNot(NationBooks x) {
        Telling told = y -> {
            fix(y, 0, 0, 0, 1, 2, 3, 4, 5);
            rows(y, 0, 1);
        };
        refused(told, NOT, "moved", 0, 0, 0);
        bad(told, "moved", 0, 0, 12);
        refused(told, NOT, "left", 0, 0);
        bad(told, "left", 0, 12);
        refused(told, NOT, "part", 1, 0, 3);
        bad(told, "part", 4, 0, 3);
        refused(told, NOT, "off", 0, 0);
        bad(told, "off", 0, 12);
        refused(told, NOT, "said", 1);
        refused(told, NOT, "shape", 576);
    }

    @Says(at = "Refusals", words = "FULL -4,")
    static void badIsAheadOfFull(NationBooks x) {
        Telling rows = EdgesOfTermsTest::tell80Rows;
        refused(rows, NationBooks.FULL, "row", 9, 719, 100000, 9);
        bad(rows, "row", 10, 0, 0, 0);
        bad(rows, "row", 0, 720, 0, 0);
        bad(rows, "row", 0, 0, 100001, 0);
        bad(rows, "row", 0, 0, 0, 10);
        Telling bytes = y -> law(y, 0, "1".repeat(60));
        refused(bytes, NationBooks.FULL, "type", 0, 255);
        bad(bytes, "type", 0, 256);
        bad(bytes, "type", 4, 0);
    }

    @Says(at = "Refusals", words = "other FINDINGS.")
    static void otherFindingsComeLast(NationBooks x) {
        found(SHEETS, 1, "put", 0, 1, -1, 0);
        found(SHEETS, 1, "copy", 0, -1, 2, -1, -1);
        found(SHEETS, 3, "put", 1, 2, -1, 0);
        found(SHEETS, 3, "get", 1, 2, 3);
        found(SHEETS, 4, "copy", 1, -1, 2, 0, 1);
        bad(SHEETS, "put", 1, 3, -1, 0);
        bad(SHEETS, "copy", 1, -1, 4, 0, 1);
        bad(SHEETS, "sheet", 4, 0, -1);
        bad(SHEETS, "sheet", 0, 3, -1);
    }

    @Says(at = "Refusals", words = "They change nothing (FINDINGS but count() 8).")
    static void onlyFindingsChangeCount8(NationBooks x) {
        x.lose(0);
        due("a finding", x.count(8), 1);
        x.row(-1, 0, 0, 0);
        x.said(0);
        x.moved(0, 0, 12);
        x.lose(4);
        x.get(4, 0, 0);
        x.count(9);
        due("other refusals", x.count(8), 1);
        x.sheet(0, 0, 3);
        x.put(0, 0, 2, 1);
        x.get(0, 0, 2);
        due("good calls", x.count(8), 1);
        x.get(0, 0, 3);
        due("another finding", x.count(8), 2);
    }

    @Says(at = "Refusals", words = "Where the answer is a long, a refusal -x is the least long and x more.")
    static void longRefusalsAreCountedFromTheLeastLong(NationBooks x) {
        due("BAD", x.said(720), -9223372036854775806L);
        due("NOT", x.said(719), -9223372036854775805L);
        due("BAD", x.total(2, 0, 0, 0), -9223372036854775806L);
        due("NOT", x.part(0, 0, 1), -9223372036854775805L);
        due("BAD", x.flow(0, 0, 0, 0), -9223372036854775806L);
        due("BAD of an int", x.weight(720), -2);
    }

    public static void main(String[] args) throws IOException, IllegalAccessException {
        run(EdgesOfTermsTest.class, "What it is", "Terms", "Refusals");
    }
}
