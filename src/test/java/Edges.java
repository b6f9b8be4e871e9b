import java.io.IOException;
import java.lang.annotation.Retention;
import java.lang.annotation.RetentionPolicy;
import java.lang.reflect.InvocationTargetException;
import java.lang.reflect.Method;
import java.lang.reflect.Modifier;
import java.util.Arrays;
import java.util.HashMap;
import java.util.Map;

/**
 * Runs tests of edges. Each test quotes the words of the document that it holds the class to; words that the
 * document does not have, and words of the document that no test quotes, are failures too.
 */
abstract class Edges {
    /** Where in the document a test's words stand, and the words. */
    @Retention(RetentionPolicy.RUNTIME)
    @interface Says {
        String at();

        String words();
    }

    /** What an object is told ahead of the call that is looked at. */
    interface Telling {
        void tell(NationBooks x);
    }

    static final int LEAST_INT = Integer.MIN_VALUE;
    static final long LEAST = Long.MIN_VALUE;
    static final long BAD = LEAST + 2, NOT = LEAST + 3;

    /** One object of each for all tests, so that what it tells is reckoned once. */
    static final Telling NOTHING = x -> { };
    static final Telling RANGES = Edges::tellRanges;
    static final Telling SHEETS = Edges::tellSheets;

    private static final Map<String, Method> METHODS = methods();
    private static String current = "";
    private static int checks = 0;
    private static int wrong = 0;

    private static Map<String, Method> methods() {
        Map<String, Method> out = new HashMap<>();
        for (Method m : NationBooks.class.getDeclaredMethods()) {
            if (Modifier.isPublic(m.getModifiers())) out.put(m.getName(), m);
        }
        return out;
    }

    // ---- tests

    static void due(String call, long got, long want) {
        checks++;
        if (got != want) fail(call + " answered " + got + ", due is " + want);
    }

    static void fail(String what) {
        wrong++;
        System.out.println(current + ": " + what);
    }

    /** Runs the tests of a class, and ends the program with 1 if one of them fails. */
    static void run(Class<?> tests, String... places) throws IOException, IllegalAccessException {
        if (failures(tests, places) != 0) System.exit(1);
    }

    private static int failures(Class<?> tests, String... places) throws IOException, IllegalAccessException {
        Quotes quotes = new Quotes(places);
        int number = 0;
        for (Method test : tests.getDeclaredMethods()) {
            Says says = test.getAnnotation(Says.class);
            if (says == null) continue;
            number++;
            current = says.at() + ", " + test.getName();
            if (!quotes.mark(says.at(), says.words())) fail("the document does not say there: " + says.words());
            if (says.words().matches(".*\\. [A-Z].*")) fail("more than one sentence: " + says.words());
            runOne(test);
        }
        current = tests.getSimpleName();
        for (String words : quotes.unmarked()) {
            fail("no test quotes: " + words);
        }
        System.out.println(number + " tests, " + checks + " checks, " + wrong + " wrong");
        return wrong;
    }

    private static void runOne(Method test) throws IllegalAccessException {
        int before = checks;
        test.setAccessible(true);
        try {
            test.invoke(null, new NationBooks());
        } catch (InvocationTargetException e) {
            fail("threw " + e.getCause());
        }
        if (checks == before) fail("looks at nothing");
    }

    // ---- telling

    static int cell(int land, int product, int column, int quarter) {
        return 288 * land + 72 * product + 12 * column + quarter;
    }

    static int annual(int land, int product, int column, int year) {
        return 576 + 72 * land + 18 * product + 3 * column + year;
    }

    /** Rows of source 0 in release 0 of codes from the first on. */
    static void rows(NationBooks x, int firstCode, int... values) {
        for (int i = 0; i < values.length; i++) {
            x.row(0, firstCode + i, values[i], 0);
        }
    }

    /** Values of column 0 in land 0 that stay as said, from quarter 0 on. */
    static void said(NationBooks x, int product, int... values) {
        fix(x, 0, product, 0);
        rows(x, cell(0, product, 0, 0), values);
    }

    static void fix(NationBooks x, int land, int product, int... columns) {
        for (int column : columns) {
            x.fix(land, product, column, true);
        }
    }

    static void law(NationBooks x, int law, String text) {
        x.repeal(law);
        for (char c : text.toCharArray()) {
            x.type(law, c);
        }
    }

    static int faultOf(String text) {
        NationBooks x = new NationBooks();
        law(x, 0, text);
        return x.fault(0);
    }

    static void faultDue(String text, int place) {
        due("fault of \"" + text + "\"", faultOf(text), place);
    }

    static void sheet(NationBooks x, int s, int form, int... items) {
        x.sheet(s, form, items.length);
        for (int i = 0; i < items.length; i++) {
            x.put(s, form, i, items[i]);
        }
    }

    /** Sheet 0 is lost; 1 and 3 are of like forms. */
    static void tellSheets(NationBooks x) {
        sheet(x, 1, 1, 11, 12, 13, 14);
        sheet(x, 2, 2, 21, 22, 23);
        sheet(x, 3, 1, 31, 32);
    }

    static void itemsDue(NationBooks x, int s, int form, int... items) {
        for (int i = 0; i < items.length; i++) {
            due("item " + i + " of sheet " + s, x.get(s, form, i), items[i]);
        }
    }

    static void bentDue(NationBooks x, int firstCell, long... values) {
        for (int i = 0; i < values.length; i++) {
            due("bent(" + (firstCell + i) + ")", x.bent(firstCell + i), values[i]);
        }
    }

    /** Closed values of all columns of land 0, product 0, quarter 0. */
    static void columnsDue(NationBooks x, long... values) {
        for (int column = 0; column < values.length; column++) {
            due("closed(" + 12 * column + ")", x.closed(12 * column), values[column]);
        }
    }

    // ---- refusals

    static long ask(NationBooks x, String name, Object... arguments) {
        try {
            return ((Number) METHODS.get(name).invoke(x, arguments)).longValue();
        } catch (ReflectiveOperationException e) {
            throw new IllegalStateException(name + Arrays.toString(arguments), e);
        }
    }

    static long badOf(String name) {
        switch (name) {
            case "rowIs": return -1000000;
            case "hidden": return -2000000;
            case "get": return LEAST_INT;
            default: return METHODS.get(name).getReturnType() == long.class ? BAD : NationBooks.BAD;
        }
    }

    /** The call is refused with this answer, and nothing has changed. */
    static void refused(Telling told, long answer, String name, Object... arguments) {
        Probes probes = Probes.of(told);
        NationBooks x = probes.book();
        String call = name + Arrays.toString(arguments);
        due(call, ask(x, name, arguments), answer);
        String change = probes.changeBy(name, arguments, false);
        due(call + " and then: " + change, change.isEmpty() ? 0 : 1, 0);
    }

    static void bad(Telling told, String name, Object... arguments) {
        refused(told, badOf(name), name, arguments);
    }

    /** The call is a finding, told by count() 8, and nothing else has changed. */
    static void found(Telling told, int finding, String name, Object... arguments) {
        Probes probes = Probes.of(told);
        NationBooks x = probes.book();
        String call = name + Arrays.toString(arguments);
        due(call, ask(x, name, arguments), name.equals("get") ? LEAST_INT : -10 - finding);
        due("count(8) behind " + call, x.count(8), finding);
        String change = probes.changeBy(name, arguments, true);
        due(call + " and then: " + change, change.isEmpty() ? 0 : 1, 0);
    }

    // ---- ranges

    /** What the object of ranges is told: enough that no call in its range is refused as BAD. */
    static void tellRanges(NationBooks x) {
        x.row(0, 0, 10, 1);
        x.row(1, 0, 20, 2);
        x.row(0, 0, 30, 3);
        x.row(0, 0, 40, 9);
        x.row(2, 719, 5, 9);
        x.row(0, 576, 90, 0);
        for (int s = 0; s < 4; s++) {
            x.sheet(s, 0, 8);
        }
        law(x, 0, "1=1");
        law(x, 3, "c000=7");
        x.trust(1, 2);
        x.asOf(5);
        x.fix(0, 0, 3, true);
        x.price(0, 0, 90);
        x.trade(0, 0, 0, 0, 5);
        x.precise(1, 4);
        x.flow(2, 1, 0, 6);
        x.stock(2, 0, 7);
        x.sheet(0, 0, -1);
    }

    /**
     * Each call with the kinds of its numbers. What is told of "free" ones is not a range, or its edges are
     * other findings; "flag" is a boolean.
     */
    private static final String[] CALLS = {
        "trust source trust", "code land product column quarter", "annual land product column year",
        "decode code fiveThings", "row source code value release", "rowIs row fiveThings", "asOf release",
        "column column isSupply", "said code", "weight code", "bent cell", "shape annual",
        "fix land product column flag", "rule rule", "gap land product quarter", "closed cell",
        "moved land product quarter", "total anyLand anyProduct column quarter", "breaks place",
        "price product quarter price", "volume product column quarter", "atPrices anyProduct column quarter year",
        "growth anyProduct column laterQuarter", "chain anyProduct column quarter",
        "part product column laterQuarter", "apart column quarter", "trade land product quarter soldOrBought sold",
        "precise land precision", "hidden land product quarter", "agreed land product quarter",
        "flow sector otherSector quarter flow", "net sector quarter", "stock sector quarter stock",
        "unstock sector quarter", "due sector quarter", "off sector quarter", "type law byte", "repeal law",
        "fault law", "left law quarter", "unkept quarter", "revision code from to", "steps code from to",
        "step code from to step threeThings", "led code flag", "sheet sheet form free", "lose sheet",
        "put sheet form free free", "get sheet formOfSheet free", "copy sheet free sheet free free", "read sheet",
        "write sheet land product column", "count nineThings",
    };

    /** Of each kind the least, the greatest, and one that is used while another number is looked at. */
    private static int[] rangeOf(String kind) {
        switch (kind) {
            case "land": return new int[] {0, 1, 0};
            case "anyLand": return new int[] {-1, 1, 0};
            case "product": return new int[] {0, 3, 0};
            case "anyProduct": return new int[] {-1, 3, 0};
            case "column": return new int[] {0, 5, 0};
            case "quarter": return new int[] {0, 11, 0};
            case "laterQuarter": return new int[] {1, 11, 1};
            case "year": return new int[] {0, 2, 0};
            case "source": return new int[] {0, 9, 0};
            case "trust": case "precision": return new int[] {1, 9, 3};
            case "code": return new int[] {0, 719, 0};
            case "cell": return new int[] {0, 575, 0};
            case "annual": return new int[] {576, 719, 576};
            case "value": return new int[] {0, 100000, 1};
            case "release": return new int[] {0, 9, 0};
            case "row": return new int[] {0, 5, 0};
            case "isSupply": case "rule": case "soldOrBought": return new int[] {0, 1, 1};
            case "threeThings": return new int[] {0, 2, 0};
            case "fiveThings": return new int[] {0, 4, 0};
            case "nineThings": return new int[] {0, 8, 0};
            case "place": return new int[] {0, Integer.MAX_VALUE, 0};
            case "price": return new int[] {10, 1000, 50};
            case "sold": return new int[] {-1, 100000, 4};
            case "sector": return new int[] {0, 5, 2};
            case "otherSector": return new int[] {0, 5, 1};
            case "flow": return new int[] {-100000, 100000, 1};
            case "stock": return new int[] {-1000000, 1000000, 1};
            case "law": return new int[] {0, 3, 0};
            case "byte": return new int[] {0, 255, 48};
            case "from": return new int[] {0, 8, 0};
            case "to": return new int[] {1, 9, 9};
            case "step": return new int[] {0, 3, 0};
            case "sheet": return new int[] {0, 3, 0};
            case "form": case "formOfSheet": return new int[] {0, 2, 0};
            case "free": return new int[] {LEAST_INT, Integer.MAX_VALUE, 0};
            default: throw new IllegalStateException(kind);
        }
    }

    /** A call's numbers of these kinds at the edges of their ranges, and beyond. */
    static void rangesOfKinds(String... kinds) {
        int before = checks;
        for (String call : CALLS) {
            String[] words = call.split(" ");
            for (int i = 1; i < words.length; i++) {
                if (Arrays.asList(kinds).contains(words[i])) rangeOfNumber(words, i);
            }
        }
        if (checks == before) fail("there is no kind " + Arrays.toString(kinds));
    }

    /** All numbers of a call at the edges of their ranges, and beyond. */
    static void rangesOfCall(String name) {
        for (String call : CALLS) {
            String[] words = call.split(" ");
            if (!words[0].equals(name)) continue;
            for (int i = 1; i < words.length; i++) {
                if (!words[i].equals("flag")) rangeOfNumber(words, i);
            }
            return;
        }
        fail("there is no call " + name);
    }

    private static Object[] inRange(String[] words) {
        Object[] out = new Object[words.length - 1];
        for (int i = 1; i < words.length; i++) {
            out[i - 1] = words[i].equals("flag") ? (Object) false : (Object) rangeOf(words[i])[2];
        }
        return out;
    }

    private static void rangeOfNumber(String[] words, int number) {
        int[] range = rangeOf(words[number]);
        Object[] arguments = inRange(words);
        if (range[0] > LEAST_INT) {
            arguments[number - 1] = range[0] - 1;
            bad(RANGES, words[0], arguments);
            arguments[number - 1] = LEAST_INT;
            bad(RANGES, words[0], arguments);
        }
        if (range[1] < Integer.MAX_VALUE) {
            arguments[number - 1] = range[1] + 1;
            bad(RANGES, words[0], arguments);
            arguments[number - 1] = Integer.MAX_VALUE;
            bad(RANGES, words[0], arguments);
        }
        for (int edge : new int[] {range[0], range[1]}) {
            arguments[number - 1] = edge;
            if (!words[number].equals("free")) notBad(words[0], arguments);
        }
    }

    /** Of get() a finding answers as BAD does, but is told by count() 8. */
    private static void notBad(String name, Object[] arguments) {
        NationBooks x = Probes.of(RANGES).book();
        boolean isBad = ask(x, name, arguments) == badOf(name) && x.count(8) == 5;
        due(name + Arrays.toString(arguments) + " is refused", isBad ? 1 : 0, 0);
    }
}
