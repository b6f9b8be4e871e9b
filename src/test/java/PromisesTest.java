import java.util.ArrayList;
import java.util.List;

/** Each promise of the document by itself, with answers reckoned by hand. */
public final class PromisesTest {
    private static final long LEAST = Long.MIN_VALUE;
    private static final long BAD = LEAST + 2, NOT = LEAST + 3;
    private static int wrong = 0;
    private static int checks = 0;
    private static int promise = 0;

    private static void due(String call, long got, long want) {
        checks++;
        if (got != want) {
            wrong++;
            System.out.println("promise " + promise + ": " + call + " answered " + got + ", due is " + want);
        }
    }

    private static NationBooks begin(int number) {
        promise = number;
        return new NationBooks();
    }

    /** Rows of source 0 in release 0 of codes from the first on. */
    private static void rows(NationBooks x, int firstCode, int... values) {
        for (int i = 0; i < values.length; i++) {
            x.row(0, firstCode + i, values[i], 0);
        }
    }

    private static void fixAll(NationBooks x, int land, int product, int... columns) {
        for (int c : columns) {
            x.fix(land, product, c, true);
        }
    }

    private static void type(NationBooks x, int law, String text) {
        x.repeal(law);
        for (char c : text.toCharArray()) {
            x.type(law, c);
        }
    }

    private static int faultOf(String text) {
        NationBooks x = new NationBooks();
        type(x, 0, text);
        return x.fault(0);
    }

    private static void newObject() {
        NationBooks x = begin(1);
        for (int what = 0; what <= 8; what++) {
            due("count " + what, x.count(what), what == 2 ? 9 : what == 4 ? 3 : 0);
        }
        for (int s = 0; s < 4; s++) {
            due("lose", x.lose(s), -11);
        }
        due("price", x.price(3, 11, 100), 100);
        due("open", x.open(), 0);
        due("broken", x.broken(), 0);
        due("chain", x.chain(-1, 5, 11), 1000000);
        due("fault", x.fault(3), 0);
        due("agreed", x.agreed(1, 3, 11), 0);
        due("NONE", NationBooks.NONE, -1);
        due("BAD", NationBooks.BAD, -2);
        due("NOT", NationBooks.NOT, -3);
        due("FULL", NationBooks.FULL, -4);
    }

    private static void trust() {
        NationBooks x = begin(2);
        due("first", x.trust(9, 9), 1);
        due("then", x.trust(9, 1), 9);
        due("again", x.trust(9, 1), 1);
        due("other source", x.trust(0, 1), 1);
        due("source 10", x.trust(10, 1), -2);
        due("source -1", x.trust(-1, 1), -2);
        due("t 0", x.trust(0, 0), -2);
        due("t 10", x.trust(0, 10), -2);
        due("nothing changed", x.trust(0, 1), 1);
        x.row(0, 7, 10, 0);
        x.row(1, 7, 20, 0);
        due("mean of like trust", x.said(7), 15);
        due("closed by it", x.closed(7), 15);
        x.trust(1, 9);
        due("mean by trust", x.said(7), 19);
        due("closed is bent anew", x.closed(7), 19);
        due("weight", x.weight(7), 10);
    }

    private static void codes() {
        NationBooks x = begin(3);
        due("least", x.code(0, 0, 0, 0), 0);
        due("middle", x.code(1, 2, 3, 4), 288 + 144 + 36 + 4);
        due("greatest", x.code(1, 3, 5, 11), 575);
        int[][] bad = {{2, 0, 0, 0}, {-1, 0, 0, 0}, {0, 4, 0, 0}, {0, -1, 0, 0}, {0, 0, 6, 0}, {0, 0, -1, 0},
            {0, 0, 0, 12}, {0, 0, 0, -1}, {Integer.MAX_VALUE, 0, 0, 0}, {0, 0, 0, Integer.MIN_VALUE}};
        for (int[] b : bad) {
            due("bad", x.code(b[0], b[1], b[2], b[3]), -2);
        }
        promise = 4;
        due("least", x.annual(0, 0, 0, 0), 576);
        due("middle", x.annual(1, 2, 3, 1), 576 + 72 + 36 + 9 + 1);
        due("greatest", x.annual(1, 3, 5, 2), 719);
        for (int[] b : bad) {
            due("bad", x.annual(b[0], b[1], b[2], b[3] == 12 ? 3 : b[3]), -2);
        }
    }

    private static void decode() {
        NationBooks x = begin(5);
        int[] cell = {1, 2, 3, 4, 0};
        int[] annual = {1, 2, 3, 1, 1};
        for (int what = 0; what < 5; what++) {
            due("cell " + what, x.decode(x.code(1, 2, 3, 4), what), cell[what]);
            due("annual " + what, x.decode(x.annual(1, 2, 3, 1), what), annual[what]);
        }
        due("first annual", x.decode(576, 4), 1);
        due("last cell", x.decode(575, 4), 0);
        due("code -1", x.decode(-1, 0), -2);
        due("code 720", x.decode(720, 0), -2);
        due("what 5", x.decode(0, 5), -2);
        due("what -1", x.decode(0, -1), -2);
    }

    private static void rowCall() {
        NationBooks x = begin(6);
        due("edges", x.row(9, 719, 100000, 9), 0);
        due("next", x.row(0, 0, 0, 0), 1);
        due("source", x.row(10, 0, 0, 0), -2);
        due("source", x.row(-1, 0, 0, 0), -2);
        due("code", x.row(0, -1, 0, 0), -2);
        due("code", x.row(0, 720, 0, 0), -2);
        due("value", x.row(0, 0, 100001, 0), -2);
        due("value", x.row(0, 0, -1, 0), -2);
        due("release", x.row(0, 0, 0, 10), -2);
        due("release", x.row(0, 0, 0, -1), -2);
        due("none of these is a row", x.count(0), 2);
        for (int i = 2; i < 80; i++) {
            due("row " + i, x.row(i % 10, i, i, i % 10), i);
        }
        due("full", x.row(0, 0, 0, 0), -4);
        due("bad ahead of full", x.row(0, 720, 0, 0), -2);
        due("rows", x.count(0), 80);
    }

    private static void rowIs() {
        NationBooks x = begin(7);
        x.row(3, 700, 45, 2);
        int[] parts = {3, 700, 45, 2, 1};
        for (int what = 0; what < 5; what++) {
            due("what " + what, x.rowIs(0, what), parts[what]);
        }
        due("what 5", x.rowIs(0, 5), -1000000);
        due("what -1", x.rowIs(0, -1), -1000000);
        due("row 1", x.rowIs(1, 0), -1000000);
        due("row -1", x.rowIs(-1, 0), -1000000);
        x.row(3, 700, 46, 2);
        due("of like releases the later counts", x.rowIs(0, 4), 0);
        due("the later", x.rowIs(1, 4), 1);
        x.row(3, 700, 47, 1);
        due("an earlier release does not", x.rowIs(2, 4), 0);
        due("the greatest release still does", x.rowIs(1, 4), 1);
        x.row(4, 700, 47, 1);
        due("another source's does", x.rowIs(3, 4), 1);
        x.row(3, 701, 47, 9);
        due("another code's does", x.rowIs(4, 4), 1);
        x.asOf(1);
        due("as of 1 release 2 does not", x.rowIs(1, 4), 0);
        due("as of 1 release 1 does", x.rowIs(2, 4), 1);
    }

    private static void asOf() {
        NationBooks x = begin(8);
        due("first", x.asOf(0), 9);
        due("then", x.asOf(9), 0);
        due("bad", x.asOf(10), -2);
        due("bad", x.asOf(-1), -2);
        due("unchanged", x.count(2), 9);
        x.row(0, 0, 10, 5);
        due("closed now", x.closed(0), 10);
        x.asOf(4);
        due("not yet known", x.closed(0), 0);
        due("not said", x.said(0), NOT);
        x.asOf(5);
        due("known", x.said(0), 10);
    }

    private static void column() {
        NationBooks x = begin(9);
        for (int c = 0; c < 6; c++) {
            due("first", x.column(c, c < 3 ? 1 : 0), c < 3 ? 1 : 0);
        }
        due("to use", x.column(2, 0), 1);
        due("was use", x.column(2, 1), 0);
        due("column 6", x.column(6, 1), -2);
        due("column -1", x.column(-1, 1), -2);
        due("supply 2", x.column(0, 2), -2);
        due("supply -1", x.column(0, -1), -2);
        due("still supply", x.column(0, 1), 1);
        rows(x, 0, 10);
        due("gap", x.gap(0, 0, 0), 10);
        x.column(0, 0);
        due("gap of use", x.gap(0, 0, 0), -10);
    }

    private static void said() {
        NationBooks x = begin(10);
        due("not said", x.said(0), NOT);
        due("code 720", x.said(720), BAD);
        due("code -1", x.said(-1), BAD);
        x.row(0, 0, 1, 0);
        x.row(1, 0, 2, 0);
        due("half goes up", x.said(0), 2);
        x.trust(0, 2);
        due("1 and a third goes down", x.said(0), 1);
        x.trust(1, 4);
        due("1 and two thirds goes up", x.said(0), 2);
        x.row(0, 719, 0, 0);
        due("0 is said", x.said(719), 0);
        promise = 11;
        due("weight", x.weight(0), 6);
        due("of an annual", x.weight(719), 2);
        due("none", x.weight(1), 0);
        due("code 720", x.weight(720), -2);
        due("code -1", x.weight(-1), -2);
        x.row(0, 0, 5, 9);
        due("a source counts once", x.weight(0), 6);
    }

    /** The last source in the last release counts as any other, and so does the first of 80 rows of one code. */
    private static void lastSource() {
        NationBooks x = begin(10);
        x.row(9, 5, 40, 9);
        x.row(9, 5, 30, 3);
        due("said", x.said(5), 40);
        due("bent", x.bent(5), 40);
        due("counts", x.rowIs(0, 4), 1);
        due("revision from it", x.revision(5, 3, 9), 10);
        due("revision to it", x.revision(5, 2, 3), 30);
        while (x.count(0) < 80) {
            x.row(9, 5, 20, 1);
        }
        due("behind all others", x.said(5), 40);
        due("a step of the oldest row", x.steps(5, 8, 9), 1);
        promise = 11;
        due("weight", x.weight(5), 1);
    }

    private static void bent() {
        NationBooks x = begin(12);
        rows(x, 0, 10, 20);
        due("annual not said: as said", x.bent(1), 20);
        due("annual not said: 0", x.bent(2), 0);
        rows(x, 576, 35);
        due("said one stays", x.bent(0), 10);
        due("rest in equal parts, the first gets 1", x.bent(2), 3);
        due("the other", x.bent(3), 2);
        x.row(0, 576, 25, 1);
        due("a rest below 0 is rounded down", x.bent(2), -2);
        due("and 1 goes to the first", x.bent(3), -3);
        due("next year is not bent", x.bent(4), 0);
        rows(x, 2, 0, 0);
        due("all said: by shares", x.bent(0), 8);
        due("the greater rest gets 1", x.bent(1), 17);
        due("nothing to share 0", x.bent(2), 0);
        rows(x, 12, 0, 0, 0, 0);
        rows(x, 579, 6);
        due("sum 0: in equal parts", x.bent(12), 2);
        due("second gets 1", x.bent(13), 2);
        due("third", x.bent(14), 1);
        rows(x, x.code(1, 3, 5, 8), 3, 3, 3, 3);
        rows(x, 719, 14);
        due("of like rests the first", x.bent(x.code(1, 3, 5, 9)), 4);
        due("the last", x.bent(575), 3);
        due("an annual is bad", x.bent(576), BAD);
        due("code -1", x.bent(-1), BAD);
        due("code 720", x.bent(720), BAD);
    }

    private static void shape() {
        NationBooks x = begin(13);
        rows(x, 4, 10, 20, 30);
        rows(x, 577, 30);
        due("a quarter is not said", x.shape(577), NOT);
        rows(x, 7, 40);
        due("7 11 12 shape", x.shape(577), 70);
        x.row(0, 577, 110, 1);
        due("11 22 33 44", x.shape(577), 10);
        due("annual not said", x.shape(576), NOT);
        due("a cell is bad", x.shape(575), BAD);
        due("720", x.shape(720), BAD);
        due("-1", x.shape(-1), BAD);
        x.asOf(0);
        due("as of then", x.shape(577), 70);
        rows(x, 0, 1, 2, 3, 4);
        due("the quarters are said, it is not", x.shape(576), NOT);
        rows(x, 576, 20);
        due("of its own year alone", x.shape(576), 10);
        rows(x, 9, 1, 2, 3);
        rows(x, 578, 20);
        due("the first quarter is not said", x.shape(578), NOT);
    }

    private static void fix() {
        NationBooks x = begin(14);
        due("fixed", x.fix(1, 3, 5, true), 1);
        due("already", x.fix(1, 3, 5, true), 0);
        due("loose", x.fix(1, 3, 5, false), 1);
        due("already", x.fix(1, 3, 5, false), 0);
        due("another", x.fix(0, 0, 0, false), 0);
        due("land", x.fix(2, 0, 0, true), -2);
        due("product", x.fix(0, 4, 0, true), -2);
        due("column", x.fix(0, 0, 6, true), -2);
        due("column", x.fix(0, 0, -1, true), -2);
        rows(x, 8, 9);
        due("moved into column 1", x.closed(20), -9);
        x.fix(0, 0, 1, true);
        due("fixed: stays", x.closed(20), 0);
        due("then into column 2", x.closed(32), -9);
        x.fix(0, 0, 1, false);
        due("loose again", x.closed(20), -9);
    }

    private static void rule() {
        NationBooks x = begin(15);
        due("first", x.rule(1), 0);
        due("then", x.rule(0), 1);
        due("2", x.rule(2), -2);
        due("-1", x.rule(-1), -2);
        due("unchanged", x.count(3), 0);
    }

    private static void gap() {
        NationBooks x = begin(16);
        rows(x, x.code(1, 2, 0, 3), 10);
        rows(x, x.code(1, 2, 1, 3), 20);
        rows(x, x.code(1, 2, 2, 3), 30);
        rows(x, x.code(1, 2, 3, 3), 1);
        rows(x, x.code(1, 2, 4, 3), 2);
        rows(x, x.code(1, 2, 5, 3), 4);
        due("gap", x.gap(1, 2, 3), 53);
        due("another", x.gap(1, 2, 2), 0);
        rows(x, x.annual(1, 2, 5, 0), 7);
        due("of bent ones", x.gap(1, 2, 2), -1);
        due("land", x.gap(-1, 0, 0), BAD);
        due("land", x.gap(2, 0, 0), BAD);
        due("product", x.gap(0, -1, 0), BAD);
        due("product", x.gap(0, 4, 0), BAD);
        due("quarter", x.gap(0, 0, 12), BAD);
        due("quarter", x.gap(0, 0, -1), BAD);
    }

    private static void closed() {
        NationBooks x = begin(17);
        int base = x.code(1, 3, 0, 11);
        rows(x, base, 100);
        due("rule 0: the least cost, the least column", x.closed(base + 12), -100);
        due("stays", x.closed(base), 100);
        rows(x, base + 12, 0);
        rows(x, base + 24, 0);
        due("a use rises", x.closed(base + 36), 100);
        rows(x, x.annual(1, 3, 3, 2), 0);
        due("the annual's weight costs too", x.closed(base + 48), 100);
        due("so it does not move", x.closed(base + 36), 0);
        x.rule(1);
        // costs 2 2 2 2 1 1, shares 1260 four times, 2520 twice: a part is 12 and a half or 25; 2 are left over
        long[] parts = {100 - 13, -13, -12, 12, 25, 25};
        for (int c = 0; c < 6; c++) {
            due("rule 1, column " + c, x.closed(base + 12 * c), parts[c]);
        }
        fixAll(x, 1, 3, 0, 1, 2, 3, 5);
        due("the loose one takes all", x.closed(base + 48), 100);
        x.fix(1, 3, 4, true);
        due("open: as bent", x.closed(base + 48), 0);
        due("open: as bent", x.closed(base), 100);
        due("an annual is bad", x.closed(576), BAD);
        due("-1", x.closed(-1), BAD);
        x = begin(17);
        x.rule(1);
        rows(x, 36, 7);
        // gap -7, costs 1 1 1 2 1 1: shares 2520 and 1260 of 13860; -1.27 and -0.64, rounded down -2 and -1;
        // 4 are left over, for the first four with the rest 0.73
        long[] below = {1, 1, 1, 7 - 1, -1, -2};
        for (int c = 0; c < 6; c++) {
            due("a gap below 0, column " + c, x.closed(12 * c), below[c]);
        }
        rows(x, 585, 0);
        x.trust(0, 7);
        // cost 15 of column 3: 2520 by 15 is 168
        fixAll(x, 0, 0, 0, 1, 2, 4);
        x.row(0, 36, 1000, 1);
        due("gap", x.gap(0, 0, 0), -1000);
        // shares 168 and 2520: -62.5 and -937.5, the first of like rests gets 1
        due("share by cost", x.closed(36), 1000 - 62);
        due("share by cost", x.closed(60), -938);
        x.trust(0, 8);
        // cost 17: 2520 by 17 is cut to 148; of 2668 parts are -55.47 and -944.53, the first has the greater rest
        due("a cut share", x.closed(36), 1000 - 55);
        due("a cut share", x.closed(60), -945);
        x = begin(17);
        x.rule(1);
        fixAll(x, 1, 0, 2, 3, 4, 5);
        rows(x, x.code(1, 0, 0, 4), 30000);
        due("shares 1260 and 2520", x.closed(x.code(1, 0, 0, 4)), 20000);
    }

    private static void moved() {
        NationBooks x = begin(18);
        rows(x, 36, 7);
        due("rule 0", x.moved(0, 0, 0), 7);
        x.rule(1);
        due("rule 1", x.moved(0, 0, 0), 7);
        due("nothing to move", x.moved(1, 0, 0), 0);
        rows(x, 575, 9);
        due("of the last", x.moved(1, 3, 11), 9);
        fixAll(x, 0, 0, 0, 1, 2, 3, 4, 5);
        due("open", x.moved(0, 0, 0), NOT);
        due("all fixed, no gap: not open", x.moved(0, 0, 1), 0);
        due("land", x.moved(2, 0, 0), BAD);
        due("land", x.moved(-1, 0, 0), BAD);
        due("product", x.moved(0, 4, 0), BAD);
        due("quarter", x.moved(0, 0, 12), BAD);
    }

    private static void total() {
        NationBooks x = begin(19);
        int[][] cells = {{0, 0, 1}, {0, 3, 20}, {1, 0, 300}, {1, 3, 4000}};
        for (int[] c : cells) {
            fixAll(x, c[0], c[1], 5);
            rows(x, x.code(c[0], c[1], 5, 11), c[2]);
        }
        due("one", x.total(1, 3, 5, 11), 4000);
        due("both lands", x.total(-1, 3, 5, 11), 4020);
        due("all products", x.total(0, -1, 5, 11), 21);
        due("all", x.total(-1, -1, 5, 11), 4321);
        due("closed, not bent", x.total(-1, -1, 0, 11), 4321);
        due("another quarter", x.total(-1, -1, 5, 10), 0);
        due("land", x.total(-2, 0, 0, 0), BAD);
        due("land", x.total(2, 0, 0, 0), BAD);
        due("product", x.total(0, -2, 0, 0), BAD);
        due("product", x.total(0, 4, 0, 0), BAD);
        due("column", x.total(0, 0, -1, 0), BAD);
        due("column", x.total(0, 0, 6, 0), BAD);
        due("quarter", x.total(0, 0, 0, -1), BAD);
        due("quarter", x.total(0, 0, 0, 12), BAD);
    }

    private static void open() {
        NationBooks x = begin(20);
        rows(x, x.code(1, 3, 0, 9), 1, 2, 3);
        due("none", x.open(), 0);
        fixAll(x, 1, 3, 0, 1, 2, 3, 4);
        due("one is loose", x.open(), 0);
        x.fix(1, 3, 5, true);
        due("three", x.open(), 3);
        rows(x, x.code(1, 3, 4, 10), 2);
        due("one has no gap", x.open(), 2);
        rows(x, 0, 5);
        due("a loose one more", x.open(), 2);
        fixAll(x, 0, 0, 0, 1, 2, 3, 4, 5);
        due("fixed too", x.open(), 3);
        x.fix(1, 3, 0, false);
        due("loose again", x.open(), 1);
    }

    private static void broken() {
        NationBooks x = begin(21);
        rows(x, 579, 10);
        due("moved into column 0, which no annual binds", x.broken(), 0);
        rows(x, 576, 20);
        due("gap 30 into column 2", x.broken(), 0);
        fixAll(x, 0, 0, 1, 2, 3, 4, 5);
        due("all in column 0: broken", x.broken(), 1);
        rows(x, 719, 6);
        due("in column 0 of another", x.broken(), 1);
        fixAll(x, 1, 3, 0, 1, 2, 3, 4);
        due("in column 5 itself", x.broken(), 2);
        promise = 22;
        due("first", x.breaks(0), 576);
        due("second", x.breaks(1), 719);
        due("no more", x.breaks(2), -1);
        due("far", x.breaks(Integer.MAX_VALUE), -1);
        due("below 0", x.breaks(-1), -2);
        due("below 0", x.breaks(Integer.MIN_VALUE), -2);
        x.fix(0, 0, 0, true);
        due("open ones are as bent", x.breaks(0), 719);
    }

    private static void price() {
        NationBooks x = begin(23);
        due("first", x.price(3, 11, 10), 100);
        due("then", x.price(3, 11, 1000), 10);
        due("then", x.price(3, 11, 999), 1000);
        due("another", x.price(3, 10, 100), 100);
        due("9", x.price(3, 11, 9), -2);
        due("1001", x.price(3, 11, 1001), -2);
        due("product", x.price(4, 0, 100), -2);
        due("product", x.price(-1, 0, 100), -2);
        due("quarter", x.price(0, 12, 100), -2);
        due("quarter", x.price(0, -1, 100), -2);
        due("unchanged", x.price(3, 11, 999), 999);
    }

    private static void volume() {
        NationBooks x = begin(24);
        fixAll(x, 0, 2, 4);
        fixAll(x, 1, 2, 4);
        rows(x, x.code(0, 2, 4, 5), 10);
        rows(x, x.code(1, 2, 4, 5), 25);
        due("at 100", x.volume(2, 4, 5), 35);
        x.price(2, 5, 33);
        due("both lands, rounded down", x.volume(2, 4, 5), 106);
        due("below 0 rounded down", x.volume(2, 0, 5), 106);
        x.column(0, 0);
        due("below 0 rounded down", x.volume(2, 0, 5), -107);
        due("product", x.volume(-1, 0, 0), BAD);
        due("product", x.volume(4, 0, 0), BAD);
        due("column", x.volume(0, 6, 0), BAD);
        due("column", x.volume(0, -1, 0), BAD);
        due("quarter", x.volume(0, 0, 12), BAD);
        due("quarter", x.volume(0, 0, -1), BAD);
        promise = 25;
        x.price(2, 8, 200);
        due("of year 0", x.atPrices(2, 4, 5, 0), 106 * 400);
        due("of year 1", x.atPrices(2, 4, 5, 1), 106 * 333);
        due("of year 2", x.atPrices(2, 4, 5, 2), 106 * 500);
        due("another product", x.atPrices(0, 4, 5, 2), 0);
        fixAll(x, 0, 3, 4);
        rows(x, x.code(0, 3, 4, 5), 7);
        due("all products", x.atPrices(-1, 4, 5, 2), 106 * 500 + 7 * 400);
        due("product", x.atPrices(-2, 0, 0, 0), BAD);
        due("product", x.atPrices(4, 0, 0, 0), BAD);
        due("column", x.atPrices(0, 6, 0, 0), BAD);
        due("column", x.atPrices(0, -1, 0, 0), BAD);
        due("quarter", x.atPrices(0, 0, 12, 0), BAD);
        due("quarter", x.atPrices(0, 0, -1, 0), BAD);
        due("year", x.atPrices(0, 0, 0, 3), BAD);
        due("year", x.atPrices(0, 0, 0, -1), BAD);
    }

    /** Products 0 and 1 of column 0 in land 0 at quarters 0 .. 8, as said. */
    private static NationBooks priced(int number) {
        NationBooks x = begin(number);
        fixAll(x, 0, 0, 0);
        fixAll(x, 0, 1, 0);
        rows(x, 0, 30, 40, 50, 60, 70, 80, 90, 100, 110);
        rows(x, 72, 60, 50, 40, 30, 20, 10, 5, 4, 3);
        return x;
    }

    private static void growth() {
        NationBooks x = priced(26);
        due("like prices", x.growth(-1, 0, 1), 1000000);
        due("one product, rounded down", x.growth(0, 0, 1), 1333333);
        for (int q = 0; q < 4; q++) {
            x.price(1, 4 + q, 50);
        }
        // volumes at 8: 110, 3; at 7: 100, 8; year 1: 400, 200
        due("by the prices of the year before", x.growth(-1, 0, 8), 44600L * 1000000 / 41600);
        // volumes at 4: 70, 40; at 3: 60, 30; year 0: 400, 400
        due("quarter 4 by year 0", x.growth(-1, 0, 4), 110L * 1000000 / 90);
        // volumes at 5: 80, 20; at 4: 70, 40; year 0
        due("quarter 5 by year 0", x.growth(-1, 0, 5), 100L * 1000000 / 110);
        due("nothing before", x.growth(2, 0, 1), -1);
        due("to 0", x.growth(-1, 0, 9), 0);
        due("from 0", x.growth(-1, 0, 10), -1);
        due("of a column below 0", x.growth(-1, 1, 1), -1);
        due("product", x.growth(4, 0, 1), BAD);
        due("product", x.growth(-2, 0, 1), BAD);
        due("column", x.growth(0, 6, 1), BAD);
        due("column", x.growth(0, -1, 1), BAD);
        due("quarter 0", x.growth(0, 0, 0), BAD);
        due("quarter 12", x.growth(0, 0, 12), BAD);
        due("quarter 11", x.growth(0, 0, 11), -1);
        fixAll(x, 1, 3, 5);
        rows(x, 574, 10, 15);
        due("product 3, quarter 11", x.growth(3, 5, 11), 1500000);
    }

    private static void chain() {
        NationBooks x = priced(27);
        due("at 0", x.chain(-1, 0, 0), 1000000);
        due("product at 1", x.chain(0, 0, 1), 1333333);
        due("product at 2", x.chain(0, 0, 2), 1666666);
        due("all at 3", x.chain(-1, 0, 3), 1000000);
        due("it stays without growth", x.chain(2, 0, 11), 1000000);
        due("0 stays", x.chain(-1, 0, 11), 0);
        due("product", x.chain(4, 0, 1), BAD);
        due("product", x.chain(-2, 0, 1), BAD);
        due("column", x.chain(0, 6, 1), BAD);
        due("column", x.chain(0, -1, 1), BAD);
        due("quarter", x.chain(0, 0, -1), BAD);
        due("quarter", x.chain(0, 0, 12), BAD);
        x = begin(27);
        fixAll(x, 0, 0, 0);
        rows(x, 0, 1, 100000, 50000, 1, 100000);
        due("growth is told whole", x.growth(0, 0, 1), 100000000000L);
        due("chain is cut to 10000000", x.chain(0, 0, 1), 10000000);
        due("and falls from there", x.chain(0, 0, 2), 5000000);
        due("further", x.chain(0, 0, 3), 100);
        due("growth of 10^11 is cut to 10^9", x.chain(0, 0, 4), 100000);
        x = begin(27);
        fixAll(x, 0, 0, 0);
        // a quarter of -300000 behind 100000: growth -3000000
        rows(x, 0, 100000, 100000, 100000);
        rows(x, 576, 0);
        due("growth below 0", x.growth(0, 0, 3), -3000000);
        due("chain below 0", x.chain(0, 0, 3), -3000000);
        due("from below 0 there is none: it stays", x.chain(0, 0, 11), -3000000);
        x = begin(27);
        fixAll(x, 0, 0, 0);
        x.price(0, 3, 10);
        rows(x, 0, 100000, 100000, 100000);
        rows(x, 576, 0);
        due("chain cut below", x.chain(0, 0, 3), -10000000);
        x = begin(27);
        fixAll(x, 0, 0, 0);
        rows(x, 0, 100000, 100, 100);
        rows(x, 576, 0);
        due("growth of -1002", x.growth(0, 0, 3), -1002000000);
        due("is cut to -1000", x.chain(0, 0, 3), -1000000);
        x = begin(27);
        fixAll(x, 0, 0, 0);
        x.price(0, 0, 10);
        x.price(0, 1, 10);
        x.price(0, 2, 10);
        x.price(0, 3, 1000);
        // volumes 1000000, 999990, 1000000; then the year's rest -299999 by 10, rounded down
        rows(x, 0, 100000, 99999, 100000);
        rows(x, 576, 0);
        due("volume below 0, rounded down", x.volume(0, 0, 3), -30000);
        due("growth", x.growth(0, 0, 3), -30000);
        due("chain rounded down", x.chain(0, 0, 2), 999999);
        due("chain rounded down below 0", x.chain(0, 0, 3), -30000);
    }

    /** A growth of -1 millionth is not NONE: the chain goes on with it. */
    private static void growthOfMinusOne() {
        NationBooks x = begin(27);
        fixAll(x, 0, 0, 0);
        x.price(0, 2, 10);
        x.price(0, 3, 1000);
        // the year's rest is -1, its volume -0.1, rounded down -1; ahead of it a volume of 1000000
        rows(x, 0, 0, 1, 100000);
        x.row(1, 0, 0, 0);
        rows(x, 576, 100000);
        due("volume ahead", x.volume(0, 0, 2), 1000000);
        due("volume", x.volume(0, 0, 3), -1);
        due("growth", x.growth(0, 0, 3), -1);
        due("chain at 2", x.chain(0, 0, 2), 10000000);
        due("chain at 3", x.chain(0, 0, 3), -10);
        promise = 28;
        due("a part there is", x.part(0, 0, 3), -1000001);
    }

    private static void part() {
        NationBooks x = priced(28);
        // quarter 1: rises 10 and -10 of 90: 111111.1 and -111111.1, rounded down -111112; 0 in all
        due("rounded down", x.part(0, 0, 1), 111111);
        due("the greatest rest gets 1", x.part(1, 0, 1), -111111);
        due("no part", x.part(2, 0, 1), 0);
        // quarter 9: all falls to 0, of 113: -973451.3 and -26548.7; -1000000 in all
        due("the greater rest", x.part(0, 0, 9), -973451);
        due("the smaller", x.part(1, 0, 9), -26549);
        due("growth is none", x.part(0, 0, 10), NOT);
        due("product", x.part(-1, 0, 1), BAD);
        due("product", x.part(4, 0, 1), BAD);
        due("column", x.part(0, 6, 1), BAD);
        due("column", x.part(0, -1, 1), BAD);
        due("quarter 0", x.part(0, 0, 0), BAD);
        due("quarter 12", x.part(0, 0, 12), BAD);
        x = begin(28);
        for (int p = 0; p < 4; p++) {
            fixAll(x, 0, p, 0);
        }
        // each of 0, 1, 2 rises by 1 of 7 in all: 142857.14, growth 428571.4: of like rests nothing is left over
        // then product 3 rises by 4 too: 571428.57, all 1000000 : 1 is left, for product 3
        rows(x, 0, 1, 2);
        rows(x, 72, 2, 3);
        rows(x, 144, 2, 3);
        rows(x, 216, 2, 6);
        due("0", x.part(0, 0, 1), 142857);
        due("2", x.part(2, 0, 1), 142857);
        due("3 with the greatest rest", x.part(3, 0, 1), 571429);
        x = begin(28);
        for (int p = 0; p < 4; p++) {
            fixAll(x, 0, p, 0);
        }
        // 3 of like rests by 1 of 3: 333333.3, 1 left for the first
        rows(x, 72, 1, 2);
        rows(x, 144, 1, 2);
        rows(x, 216, 1, 2);
        due("of like rests the first", x.part(1, 0, 1), 333334);
        due("not the second", x.part(2, 0, 1), 333333);
        due("product 0 without", x.part(0, 0, 1), 0);
        rows(x, 226, 4, 5);
        due("quarter 11", x.part(3, 0, 11), 250000);
    }

    private static void apart() {
        NationBooks x = priced(29);
        due("at 0", x.apart(0, 0), 0);
        // 12000 times 1.333333 is 15999.996; 24000 times 0.833333 is 19999.992; all 36000
        due("roundings at 1", x.apart(0, 1), 15999 + 19999 - 36000);
        x.price(0, 1, 200);
        // year 0: 500, 400; volumes 30, 60 then 20, 50: growth 30000 by 39000 is 0.769230; alone 0.666666, 0.833333
        long all = 39000L * 769230 / 1000000;
        due("with prices", x.apart(0, 1), 15000L * 666666 / 1000000 + 24000L * 833333 / 1000000 - all);
        due("column", x.apart(6, 0), BAD);
        due("column", x.apart(-1, 0), BAD);
        due("quarter", x.apart(0, 12), BAD);
        due("quarter", x.apart(0, -1), BAD);
        due("last", x.apart(5, 11), 0);
        x = begin(29);
        fixAll(x, 0, 0, 0);
        fixAll(x, 0, 1, 0);
        rows(x, 0, 10, 30, 30);
        rows(x, 72, 30, 0, 10);
        // alone: 3, 3 and 0, 0; together 0.75, then 40 by 30: 0.999999 of 16000 is 15999
        due("parts do not add", x.apart(0, 2), 12000 - 15999);
    }

    private static void trade() {
        NationBooks x = begin(30);
        due("not said", x.trade(1, 3, 11, 1, 100000), -1);
        due("was", x.trade(1, 3, 11, 1, 0), 100000);
        due("was", x.trade(1, 3, 11, 1, -1), 0);
        due("said no more", x.trade(1, 3, 11, 1, 5), -1);
        due("sold is another", x.trade(1, 3, 11, 0, 5), -1);
        due("value", x.trade(0, 0, 0, 0, 100001), -2);
        due("value", x.trade(0, 0, 0, 0, -2), -2);
        due("what", x.trade(0, 0, 0, 2, 0), -2);
        due("what", x.trade(0, 0, 0, -1, 0), -2);
        due("land", x.trade(2, 0, 0, 0, 0), -2);
        due("product", x.trade(0, 4, 0, 0, 0), -2);
        due("quarter", x.trade(0, 0, 12, 0, 0), -2);
        due("nothing was said", x.trade(0, 0, 0, 0, 0), -1);
        x = new NationBooks();
        for (int round = 0; round < 2; round++) {
            for (int i = 0; i < 192; i++) {
                int was = x.trade(i / 96, i / 24 % 4, i / 2 % 12, i % 2, 1000 + i);
                due("each for itself " + i, was, round == 0 ? -1 : 1000 + i);
            }
        }
        promise = 31;
        due("first", x.precise(1, 9), 1);
        due("then", x.precise(1, 1), 9);
        due("of the other", x.precise(0, 1), 1);
        due("land", x.precise(2, 1), -2);
        due("land", x.precise(-1, 1), -2);
        due("0", x.precise(0, 0), -2);
        due("10", x.precise(0, 10), -2);
    }

    private static void hiddenAndAgreed() {
        NationBooks x = begin(32);
        due("none said", x.hidden(1, 2, 3), -1000000);
        x.trade(1, 2, 3, 0, 70);
        due("one said", x.hidden(1, 2, 3), -1000000);
        x.trade(0, 2, 3, 1, 30);
        due("bought less sold", x.hidden(1, 2, 3), -40);
        due("the other way", x.hidden(0, 2, 3), -1000000);
        due("land", x.hidden(2, 0, 0), -2000000);
        due("land", x.hidden(-1, 0, 0), -2000000);
        due("product", x.hidden(0, 4, 0), -2000000);
        due("quarter", x.hidden(0, 0, 12), -2000000);
        promise = 33;
        due("mean", x.agreed(1, 2, 3), 50);
        x.precise(1, 2);
        due("56 and two thirds", x.agreed(1, 2, 3), 57);
        x.precise(0, 2);
        x.trade(0, 2, 3, 1, 31);
        due("half up", x.agreed(1, 2, 3), 51);
        x.trade(0, 2, 3, 1, -1);
        due("sold alone", x.agreed(1, 2, 3), 70);
        x.trade(1, 2, 3, 0, -1);
        due("none", x.agreed(1, 2, 3), 0);
        x.trade(0, 2, 3, 1, 31);
        due("bought alone", x.agreed(1, 2, 3), 31);
        due("land", x.agreed(2, 0, 0), -2);
        due("land", x.agreed(-1, 0, 0), -2);
        due("product", x.agreed(0, 4, 0), -2);
        due("quarter", x.agreed(0, 0, 12), -2);
        x.trade(0, 0, 0, 0, 100000);
        x.trade(1, 0, 0, 1, 100000);
        x.precise(0, 9);
        x.precise(1, 9);
        due("greatest", x.agreed(0, 0, 0), 100000);
    }

    private static void sectors() {
        NationBooks x = begin(34);
        due("flow", x.flow(5, 0, 11, 100000), 100000);
        due("summed", x.flow(5, 0, 11, 100000), 200000);
        due("back is another", x.flow(0, 5, 11, -100000), -100000);
        due("another quarter", x.flow(5, 0, 10, 0), 0);
        due("from", x.flow(6, 0, 0, 0), BAD);
        due("from", x.flow(-1, 0, 0, 0), BAD);
        due("to", x.flow(0, 6, 0, 0), BAD);
        due("to", x.flow(0, -1, 0, 0), BAD);
        due("itself", x.flow(3, 3, 0, 0), BAD);
        due("quarter", x.flow(0, 1, 12, 0), BAD);
        due("quarter", x.flow(0, 1, -1, 0), BAD);
        due("value", x.flow(0, 1, 0, 100001), BAD);
        due("value", x.flow(0, 1, 0, -100001), BAD);
        promise = 35;
        due("comes less goes", x.net(0, 11), 300000);
        due("of the other", x.net(5, 11), -300000);
        due("of none", x.net(1, 11), 0);
        due("sector", x.net(6, 0), BAD);
        due("sector", x.net(-1, 0), BAD);
        due("quarter", x.net(0, 12), BAD);
        due("quarter", x.net(0, -1), BAD);
        promise = 36;
        due("stock", x.stock(5, 11, -1000000), 1);
        due("again", x.stock(5, 11, 1000000), 1);
        due("value", x.stock(5, 11, 1000001), -2);
        due("value", x.stock(5, 11, -1000001), -2);
        due("sector", x.stock(6, 0, 0), -2);
        due("sector", x.stock(-1, 0, 0), -2);
        due("quarter", x.stock(0, 12, 0), -2);
        due("quarter", x.stock(0, -1, 0), -2);
        due("told", x.count(6), 1);
        due("the later holds", x.off(5, 11), 1300000);
        promise = 37;
        due("told no more", x.unstock(5, 11), 1);
        due("was not", x.unstock(5, 11), 0);
        due("sector", x.unstock(6, 0), -2);
        due("sector", x.unstock(-1, 0), -2);
        due("quarter", x.unstock(0, 12), -2);
        due("quarter", x.unstock(0, -1), -2);
        due("told", x.count(6), 0);
    }

    private static void dueAndOff() {
        NationBooks x = begin(38);
        for (int q = 0; q < 12; q++) {
            x.flow(0, 1, q, 1 << q);
        }
        due("from the first on", x.due(1, 0), 1);
        due("all", x.due(1, 11), 4095);
        due("below 0", x.due(0, 11), -4095);
        x.stock(1, 3, 5000);
        due("ahead of it", x.due(1, 2), 7);
        due("its own does not count", x.due(1, 3), 15);
        due("behind it", x.due(1, 4), 5016);
        x.stock(1, 5, 0);
        due("the latest, even 0", x.due(1, 6), 64);
        due("the latest ahead", x.due(1, 5), 5048);
        due("sector", x.due(6, 0), BAD);
        due("sector", x.due(-1, 0), BAD);
        due("quarter", x.due(0, 12), BAD);
        due("quarter", x.due(0, -1), BAD);
        promise = 39;
        due("stock less due", x.off(1, 5), -5048);
        due("of the first", x.off(1, 3), 4985);
        due("not told", x.off(1, 4), NOT);
        due("sector", x.off(6, 0), BAD);
        due("sector", x.off(-1, 0), BAD);
        due("quarter", x.off(0, 12), BAD);
        due("quarter", x.off(0, -1), BAD);
        x.unstock(1, 5);
        due("told no more", x.off(1, 5), NOT);
    }

    private static void typeAndRepeal() {
        NationBooks x = begin(40);
        due("byte 256", x.type(0, 256), -2);
        due("byte -1", x.type(0, -1), -2);
        due("law 4", x.type(4, 0), -2);
        due("law -1", x.type(-1, 0), -2);
        for (int i = 1; i <= 60; i++) {
            due("byte " + i, x.type(3, i == 1 ? 0 : 255), i);
        }
        due("full", x.type(3, 48), -4);
        due("bad ahead of full", x.type(3, 256), -2);
        due("another is empty", x.type(2, 48), 1);
        promise = 41;
        due("had", x.repeal(3), 60);
        due("empty", x.repeal(3), 0);
        due("law 4", x.repeal(4), -2);
        due("law -1", x.repeal(-1), -2);
        due("the other stays", x.count(7), 1);
        due("anew", x.type(3, 48), 1);
    }

    private static void fault() {
        begin(42);
        due("empty", faultOf(""), 0);
        String[] good = {"1=1", "c000=c135", "123456*c012-7+c100=0-000000", "0=c000+1*c000", "999999=1-1-1"};
        for (String law : good) {
            due(law, faultOf(law), -1);
        }
        Object[][] bad = {{"1", 1}, {"1+", 2}, {"+1=1", 0}, {"-1=1", 0}, {"=1", 0}, {"1=", 2}, {"1==1", 2}, {"1=1=1", 3},
            {"c", 1}, {"c0", 2}, {"c00", 3}, {"c000", 4}, {"c0000=1", 4}, {"c00x=1", 3}, {"c9x", 2}, {"c999", 1}, {"c200=1", 1},
            {"c040=1", 1}, {"c006=1", 1}, {"1=2*c006", 5}, {"c006x", 1}, {"1*", 2}, {"1*2", 2}, {"1*c", 3}, {"c000*2=1", 4},
            {"1*c000*2", 6}, {"1234567=1", 6}, {"123456c", 6}, {"1 =1", 1}, {"C000=1", 0}, {"1=1+", 4}, {"1=1 ", 3},
            {"1=c136+x", 3}, {"x", 0}, {"1+-1=0", 2}, {"1=" + (char) 200, 2}, {"1" + (char) 0, 1}, {"1=:", 2}, {"1=/", 2}};
        for (Object[] b : bad) {
            due((String) b[0], faultOf((String) b[0]), (Integer) b[1]);
        }
        String longest = "1=" + "1+".repeat(28) + "12";
        due("60 bytes", faultOf(longest), -1);
        due("60 bytes, more must come", faultOf("1=" + "1+".repeat(29)), 60);
        NationBooks x = new NationBooks();
        due("law 4", x.fault(4), -2);
        due("law -1", x.fault(-1), -2);
    }

    private static void left() {
        NationBooks x = begin(43);
        fixAll(x, 1, 2, 3);
        rows(x, x.code(1, 2, 3, 7), 50);
        type(x, 0, "c123-1=2*c123-7+1");
        due("of a quarter", x.left(0, 7), 49 - (100 - 7 + 1));
        due("of another", x.left(0, 6), -1 - (-7 + 1));
        type(x, 1, "999999*c123+999999*c123=0");
        due("great ones", x.left(1, 7), 2L * 999999 * 50);
        type(x, 2, "c120=c123");
        due("closed cells", x.left(2, 7), 0);
        due("a fault", x.left(3, 0), NOT);
        type(x, 3, "c120=c12");
        due("a fault", x.left(3, 7), NOT);
        due("law 4", x.left(4, 0), BAD);
        due("law -1", x.left(-1, 0), BAD);
        due("quarter 12", x.left(0, 12), BAD);
        due("quarter -1", x.left(0, -1), BAD);
        due("bad ahead of a fault", x.left(3, 12), BAD);
        promise = 44;
        due("laws 0 and 1", x.unkept(7), 2);
        due("law 0", x.unkept(6), 1);
        type(x, 3, "1=2");
        due("and law 3", x.unkept(6), 2);
        type(x, 0, "7=7");
        due("without law 0", x.unkept(6), 1);
        due("quarter 12", x.unkept(12), -2);
        due("quarter -1", x.unkept(-1), -2);
        x.repeal(1);
        type(x, 3, "c123=8");
        x.row(0, x.code(1, 2, 3, 6), 8, 1);
        due("of what is told now", x.unkept(6), 0);
        due("none", new NationBooks().unkept(0), 0);
    }

    private static void revisions() {
        NationBooks x = begin(45);
        x.row(2, 600, 10, 3);
        x.row(1, 600, 20, 3);
        x.row(2, 600, 40, 5);
        x.row(2, 600, 50, 5);
        x.row(1, 601, 99, 4);
        due("from not said", x.revision(600, 2, 3), 15);
        due("later", x.revision(600, 3, 5), 20);
        due("whole", x.revision(600, 0, 9), 35);
        due("nothing", x.revision(600, 5, 9), 0);
        due("never said", x.revision(0, 0, 9), 0);
        x.asOf(0);
        due("whatever all is as of", x.revision(600, 0, 9), 35);
        due("code", x.revision(720, 0, 9), BAD);
        due("code", x.revision(-1, 0, 9), BAD);
        due("from", x.revision(0, -1, 9), BAD);
        due("to", x.revision(0, 0, 10), BAD);
        due("not later", x.revision(0, 3, 3), BAD);
        due("not later", x.revision(0, 4, 3), BAD);
        promise = 46;
        due("steps", x.steps(600, 0, 9), 3);
        due("from is not in it", x.steps(600, 3, 9), 1);
        due("to is", x.steps(600, 0, 3), 2);
        due("the one behind from is", x.steps(600, 2, 4), 2);
        due("none", x.steps(600, 5, 9), 0);
        due("code", x.steps(720, 0, 9), -2);
        due("from", x.steps(0, -1, 9), -2);
        due("to", x.steps(0, 0, 10), -2);
        due("not later", x.steps(0, 3, 3), -2);
        promise = 47;
        long[][] steps = {{20, 1, 3}, {-5, 2, 3}, {20, 2, 5}};
        for (int i = 0; i < 3; i++) {
            for (int what = 0; what < 3; what++) {
                due("step " + i + " " + what, x.step(600, 0, 9, i, what), steps[i][what]);
            }
        }
        due("by its own from", x.step(600, 3, 9, 0, 2), 5);
        due("no such step", x.step(600, 0, 9, 3, 0), BAD);
        due("no such step", x.step(600, 0, 9, -1, 0), BAD);
        due("what 3", x.step(600, 0, 9, 0, 3), BAD);
        due("what -1", x.step(600, 0, 9, 0, -1), BAD);
        due("code", x.step(720, 0, 9, 0, 0), BAD);
        due("not later", x.step(600, 3, 3, 0, 0), BAD);
        due("to", x.step(600, 0, 10, 0, 0), BAD);
        x.row(1, 600, 20, 3);
        due("two rows of a source in a release are one step", x.steps(600, 0, 9), 3);
        x.row(0, 600, 20, 4);
        due("behind to there is none", x.steps(600, 0, 3), 2);
        due("behind to there is none", x.step(600, 0, 3, 2, 0), BAD);
    }

    private static void led() {
        NationBooks x = begin(48);
        x.row(0, x.code(1, 2, 3, 4), 1, 0);
        x.row(1, x.code(1, 2, 3, 4), 1, 0);
        x.row(0, x.code(1, 2, 3, 4), 1, 1);
        x.row(0, x.code(1, 2, 5, 7), 1, 0);
        x.row(0, x.annual(1, 2, 0, 1), 1, 0);
        x.row(0, x.annual(1, 2, 0, 0), 1, 0);
        x.row(0, x.code(1, 2, 3, 8), 1, 0);
        x.row(0, x.code(0, 2, 3, 4), 1, 0);
        x.row(0, x.code(1, 1, 3, 4), 1, 0);
        x.row(0, x.code(1, 2, 3, 3), 1, 0);
        due("of a code", x.led(x.code(1, 2, 3, 4), false), 2 + 4);
        due("of an annual", x.led(x.annual(1, 2, 0, 1), false), 16);
        due("of a closed cell", x.led(x.code(1, 2, 0, 5), true), 2 + 4 + 8 + 16);
        due("of none", x.led(x.code(1, 2, 0, 5), false), 0);
        x.asOf(0);
        due("as of 0", x.led(x.code(1, 2, 3, 4), false), 1 + 2);
        due("an annual has no closed one", x.led(576, true), BAD);
        due("code", x.led(720, false), BAD);
        due("code", x.led(-1, false), BAD);
        due("code", x.led(-1, true), BAD);
        while (x.count(0) < 80) {
            x.row(x.count(0) % 10, 100 + x.count(0) / 10, 5, 0);
        }
        due("row 62 is told", x.led(106, false), (1L << 60) + (1L << 61) + (1L << 62));
        due("row 79 is not", x.led(107, false), 0);
    }

    private static void sheets() {
        NationBooks x = begin(49);
        due("0 items", x.sheet(3, 2, 0), 0);
        due("60 items", x.sheet(3, 0, 60), 60);
        due("61", x.sheet(3, 0, 61), -2);
        due("sheet 4", x.sheet(4, 0, 1), -2);
        due("sheet -1", x.sheet(-1, 0, 1), -2);
        due("form 3", x.sheet(0, 3, 1), -2);
        due("form -1", x.sheet(0, -1, 1), -2);
        due("bad is no finding", x.count(8), 0);
        due("size", x.sheet(3, 1, -1), -15);
        due("finding", x.count(8), 5);
        due("bad ahead of size", x.sheet(3, 3, -1), -2);
        due("what was there stays", x.get(3, 0, 59), 0);
        x.put(3, 0, 59, 7);
        x.sheet(3, 0, 60);
        due("new items are 0", x.get(3, 0, 59), 0);
        promise = 50;
        due("had", x.lose(3), 60);
        due("null", x.lose(3), -11);
        due("null", x.lose(0), -11);
        due("sheet 4", x.lose(4), -2);
        due("sheet -1", x.lose(-1), -2);
        due("finding", x.count(8), 1);
    }

    private static void putAndGet() {
        NationBooks x = begin(51);
        due("null", x.put(0, 0, 0, 0), -11);
        due("bad ahead of null", x.put(0, 3, 0, 0), -2);
        due("sheet", x.put(4, 0, 0, 0), -2);
        due("sheet", x.put(-1, 0, 0, 0), -2);
        x.sheet(0, 0, 2);
        x.sheet(1, 1, 2);
        x.sheet(2, 2, 2);
        due("cast ahead of index", x.put(0, 1, 9, 0), -13);
        due("finding", x.count(8), 3);
        due("index", x.put(0, 0, 2, 0), -12);
        due("index", x.put(0, 0, -1, 0), -12);
        due("finding", x.count(8), 2);
        for (int form = 0; form < 3; form++) {
            due("put", x.put(form, form, 1, 0x12348765), 1);
        }
        promise = 52;
        due("byte", x.get(0, 0, 1), 0x65);
        due("short", x.get(1, 1, 1), (short) 0x8765);
        due("int", x.get(2, 2, 1), 0x12348765);
        x.put(0, 0, 1, 255);
        due("byte below 0", x.get(0, 0, 1), -1);
        due("the other item", x.get(2, 2, 0), 0);
        long least = Integer.MIN_VALUE;
        due("index", x.get(2, 2, 2), least);
        due("finding", x.count(8), 2);
        due("cast", x.get(2, 1, 2), least);
        due("finding", x.count(8), 3);
        due("null", x.get(3, 1, 2), least);
        due("finding", x.count(8), 1);
        x.get(2, 2, -1);
        due("index below 0", x.count(8), 2);
        x.sheet(2, 2, -1);
        due("sheet 4", x.get(4, 0, 0), least);
        due("form 3", x.get(3, 3, 0), least);
        due("form -1", x.get(3, -1, 0), least);
        due("bad is no finding", x.count(8), 5);
    }

    private static void copy() {
        NationBooks x = begin(53);
        x.sheet(0, 1, 5);
        for (int i = 0; i < 5; i++) {
            x.put(0, 1, i, i + 1);
        }
        due("null t", x.copy(0, 0, 1, 0, 0), -11);
        due("null s", x.copy(1, 0, 0, 0, 0), -11);
        due("sheet", x.copy(4, 0, 0, 0, 0), -2);
        due("bad ahead of null", x.copy(1, 0, 4, 0, 0), -2);
        due("sheet", x.copy(0, 0, -1, 0, 0), -2);
        x.sheet(1, 0, 5);
        due("store ahead of index", x.copy(0, -1, 1, 0, 0), -14);
        due("finding", x.count(8), 4);
        due("to itself, up", x.copy(0, 0, 0, 1, 4), 1);
        long[] up = {1, 1, 2, 3, 4};
        for (int i = 0; i < 5; i++) {
            due("up " + i, x.get(0, 1, i), up[i]);
        }
        due("to itself, down", x.copy(0, 2, 0, 0, 3), 1);
        long[] down = {2, 3, 4, 3, 4};
        for (int i = 0; i < 5; i++) {
            due("down " + i, x.get(0, 1, i), down[i]);
        }
        x.sheet(2, 1, 3);
        due("to another", x.copy(0, 1, 2, 1, 2), 1);
        due("first", x.get(2, 1, 0), 0);
        due("last", x.get(2, 1, 2), 4);
        due("none at the end", x.copy(0, 5, 2, 3, 0), 1);
        int[][] bad = {{-1, 0, 1}, {0, -1, 1}, {0, 0, -1}, {3, 0, 3}, {0, 1, 3}, {6, 0, 0}, {0, 4, 0},
            {Integer.MAX_VALUE, 0, 1}, {1, 0, Integer.MAX_VALUE}, {0, Integer.MAX_VALUE, 2}, {0, 0, Integer.MIN_VALUE}};
        for (int[] b : bad) {
            due("index", x.copy(0, b[0], 2, b[1], b[2]), -12);
        }
        due("finding", x.count(8), 2);
        due("nothing changed", x.get(2, 1, 0), 0);
    }

    private static void put(NationBooks x, int s, int form, int... items) {
        x.sheet(s, form, items.length);
        for (int i = 0; i < items.length; i++) {
            x.put(s, form, i, items[i]);
        }
    }

    private static void read() {
        NationBooks x = begin(54);
        due("null", x.read(0), -11);
        due("sheet 4", x.read(4), -2);
        due("sheet -1", x.read(-1), -2);
        put(x, 0, 1, 1, 719, 30000, 9, 2, 700, 50, 1, 3, 4, 5);
        due("whole ones", x.read(0), 2);
        due("the first", x.rowIs(0, 2), 30000);
        due("the second", x.rowIs(1, 1), 700);
        due("no third", x.count(0), 2);
        put(x, 0, 2, 1, 1, 1, 1, 1, 1, 100001, 1, 1, 1, 1, 1);
        due("as long as each may be", x.read(0), 1);
        due("the third is not read", x.count(0), 3);
        put(x, 0, 0, 1, 200, 1, 1);
        due("a byte of 200 is below 0", x.read(0), 0);
        put(x, 0, 0, 1, 100, 77, 1);
        due("bytes", x.read(0), 1);
        due("closed behind it", x.closed(100), 77);
        put(x, 0, 0);
        due("no items", x.read(0), 0);
        while (x.count(0) < 79) {
            x.row(0, 0, 0, 0);
        }
        put(x, 0, 2, 0, 1, 2, 3, 0, 1, 2, 3);
        due("until it is full", x.read(0), 1);
        due("full", x.read(0), 0);
        due("rows", x.count(0), 80);
    }

    private static void write() {
        NationBooks x = begin(55);
        fixAll(x, 1, 3, 5);
        int first = x.code(1, 3, 5, 0);
        rows(x, first, 1, 2, 3, 4, 5, 6, 7, 8, 9, 10, 300, 70000);
        due("null", x.write(0, 1, 3, 5), -11);
        due("bad ahead of null", x.write(0, 2, 3, 5), -2);
        due("land", x.write(0, -1, 3, 5), -2);
        due("product", x.write(0, 1, 4, 5), -2);
        due("column", x.write(0, 1, 3, 6), -2);
        due("sheet", x.write(4, 1, 3, 5), -2);
        due("sheet", x.write(-1, 1, 3, 5), -2);
        put(x, 0, 2, 9, 9, 9, 9, 9, 9, 9, 9, 9, 9, 9, 9, 9);
        due("all quarters", x.write(0, 1, 3, 5), 12);
        due("first", x.get(0, 2, 0), 1);
        due("last", x.get(0, 2, 11), 70000);
        due("behind it", x.get(0, 2, 12), 9);
        x.sheet(1, 1, 12);
        x.write(1, 1, 3, 5);
        due("the lowest bits of a short", x.get(1, 1, 11), (short) 70000);
        x.sheet(2, 0, 11);
        due("as many as there are", x.write(2, 1, 3, 5), 11);
        due("the lowest bits of a byte", x.get(2, 0, 10), 44);
        x.write(2, 1, 3, 0);
        due("closed ones", x.get(2, 0, 1), 2);
        x.sheet(2, 0, 0);
        due("none", x.write(2, 1, 3, 5), 0);
    }

    private static void count() {
        NationBooks x = begin(56);
        x.row(0, 0, 1, 0);
        x.row(0, 0, 1, 5);
        x.row(0, 5, 1, 7);
        x.asOf(6);
        x.rule(1);
        x.column(5, 1);
        x.column(4, 1);
        fixAll(x, 1, 1, 0, 1, 2);
        x.stock(0, 0, 0);
        type(x, 0, "123");
        type(x, 1, "12");
        type(x, 3, "12");
        x.lose(1);
        long[] counts = {3, 1, 6, 1, 5, 3, 1, 7, 1};
        for (int what = 0; what < 9; what++) {
            due("what " + what, x.count(what), counts[what]);
        }
        due("what 9", x.count(9), -2);
        due("what -1", x.count(-1), -2);
        x.asOf(4);
        due("row 0 counts then", x.count(1), 1);
        x.asOf(7);
        due("rows 1 and 2 count then", x.count(1), 2);
    }

    private static long folded(NationBooks x) {
        List<Long> all = new ArrayList<>();
        for (int what = 0; what <= 7; what++) {
            all.add((long) x.count(what));
        }
        all.add((long) x.open());
        all.add((long) x.broken());
        for (int c = 0; c < 6; c++) {
            for (int q = 0; q < 12; q++) {
                all.add(x.total(-1, -1, c, q));
            }
        }
        for (int c = 0; c < 6; c++) {
            all.add(x.chain(-1, c, 11));
        }
        for (int s = 0; s < 6; s++) {
            all.add(x.net(s, 0));
        }
        for (int law = 0; law < 4; law++) {
            all.add((long) x.fault(law));
        }
        long h = 17;
        for (long v : all) {
            h = 31 * h + v;
        }
        return h;
    }

    private static void digest() {
        NationBooks x = priced(57);
        due("fresh is folded anew", x.digest(), folded(x));
        x.flow(0, 1, 0, 5);
        x.flow(3, 1, 1, 5);
        type(x, 2, "1=1");
        rows(x, 719, 44);
        fixAll(x, 1, 3, 0, 1, 2, 3, 4);
        fixAll(x, 1, 0, 0, 1, 2, 3, 4, 5);
        rows(x, x.code(1, 0, 0, 0), 8);
        x.price(0, 6, 77);
        x.stock(2, 2, 2);
        for (int c = 0; c < 6; c++) {
            x.column(c, 1);
            rows(x, x.code(0, 2, c, 9), 10 + c, 30 - c, 50);
            x.fix(0, 2, c, true);
        }
        due("chains at 11", x.chain(2, 0, 11) - x.chain(2, 0, 10), 4999998 - 3000000);
        due("open", x.open(), 4);
        due("broken", x.broken(), 1);
        due("folded", x.digest(), folded(x));
        long before = x.digest();
        x.lose(0);
        due("a finding is not in it", x.digest(), before);
    }

    public static void main(String[] args) {
        newObject();
        trust();
        codes();
        decode();
        rowCall();
        rowIs();
        asOf();
        column();
        said();
        lastSource();
        bent();
        shape();
        fix();
        rule();
        gap();
        closed();
        moved();
        total();
        open();
        broken();
        price();
        volume();
        growth();
        chain();
        growthOfMinusOne();
        part();
        apart();
        trade();
        hiddenAndAgreed();
        sectors();
        dueAndOff();
        typeAndRepeal();
        fault();
        left();
        revisions();
        led();
        sheets();
        putAndGet();
        copy();
        read();
        write();
        count();
        digest();
        System.out.println(checks + " checks, " + wrong + " wrong");
        if (wrong != 0) System.exit(1);
    }
}
