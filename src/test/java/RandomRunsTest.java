import java.lang.reflect.Method;
import java.util.ArrayList;
import java.util.HashMap;
import java.util.List;
import java.util.Map;
import java.util.Random;

/** Runs of seeded calls, fair and wrong ones, on the class and on the second reading of the document. */
public final class RandomRunsTest {
    // An object is good for 512 calls; the last law, and the digest, may come behind these.
    private static final int CALLS = 509;
    private static final long SEED = 20261116L;
    /** Each call, how often it comes, and what its arguments are. */
    private static final String[] CALLS_TOLD = {
        "trust 6 source grade", "code 1 land product column quarter", "annual 1 land product column year",
        "decode 1 code decoded", "row 60 source rowcode value release", "rowIs 4 row decoded", "asOf 4 release",
        "column 3 column bit", "said 8 code", "weight 6 code", "bent 10 cell", "shape 10 annual",
        "fix 14 land product column is", "rule 4 bit", "gap 10 land product quarter", "closed 16 cell",
        "moved 10 land product quarter", "total 6 anyland anyproduct column quarter", "open 2", "broken 3",
        "breaks 3 few", "price 8 product quarter price", "volume 5 product column quarter",
        "atPrices 5 anyproduct column quarter year", "growth 8 anyproduct column later",
        "chain 6 anyproduct column quarter", "part 10 product column later", "apart 4 column quarter",
        "trade 14 land product quarter bit traded", "precise 4 land grade", "hidden 8 land product quarter",
        "agreed 10 land product quarter", "flow 14 sector sector quarter flow", "net 6 sector quarter",
        "stock 8 sector quarter stock", "unstock 4 sector quarter", "due 8 sector quarter", "off 8 sector quarter",
        "type 2 law byte", "repeal 2 law", "fault 4 law", "left 8 law quarter", "unkept 4 quarter",
        "revision 6 rowcode release release", "steps 6 rowcode release release",
        "step 14 rowcode release release few stepped", "led 8 code is", "sheet 8 sheet form size", "lose 2 sheet",
        "put 14 sheet form item any", "get 10 sheet form item", "copy 12 sheet item sheet item item",
        "read 6 sheet", "write 6 sheet land product column", "count 5 counted", "digest 1",
    };

    private final Random random;
    private final Map<String, Method> fast = new HashMap<>();
    private final Map<String, Method> plain = new HashMap<>();
    private final List<String[]> hat = new ArrayList<>();
    private NationBooks books = new NationBooks();
    private NaiveBooks naive = new NaiveBooks();
    private int made = 0;
    // A narrow run talks of few things, so that what is told meets.
    private boolean isNarrow = false;
    private final StringBuilder trail = new StringBuilder();

    private RandomRunsTest(long seed) {
        random = new Random(seed);
        for (Method m : NationBooks.class.getDeclaredMethods()) {
            if (java.lang.reflect.Modifier.isPublic(m.getModifiers())) fast.put(m.getName(), m);
        }
        for (Method m : NaiveBooks.class.getDeclaredMethods()) {
            if (java.lang.reflect.Modifier.isPublic(m.getModifiers())) plain.put(m.getName(), m);
        }
        for (String told : CALLS_TOLD) {
            String[] words = told.split(" ");
            for (int i = 0; i < Integer.parseInt(words[1]); i++) {
                hat.add(words);
            }
        }
    }

    private int upTo(int most) {
        return random.nextInt(most + 1);
    }

    private int narrow(int few, int most) {
        return upTo(isNarrow ? few : most);
    }

    private int wild() {
        int[] odd = {-1, -2, 2, 3, 4, 6, 9, 10, 12, 60, 61, 256, 575, 576, 720, 1001, 100001, -100001, 1000001,
            Integer.MIN_VALUE, Integer.MAX_VALUE, Integer.MAX_VALUE - 1};
        return odd[random.nextInt(odd.length)];
    }

    private int cell() {
        return 288 * narrow(0, 1) + 72 * narrow(1, 3) + 12 * narrow(4, 5) + narrow(4, 11);
    }

    private int annual() {
        return 576 + 72 * narrow(0, 1) + 18 * narrow(1, 3) + 3 * narrow(4, 5) + narrow(1, 2);
    }

    private int value() {
        switch (upTo(3)) {
            case 0: return upTo(9);
            case 1: return upTo(200);
            case 2: return 100000 - upTo(1);
            default: return upTo(100000);
        }
    }

    private int fair(String what) {
        switch (what) {
            case "source": return narrow(3, 9);
            case "grade": return 1 + upTo(8);
            case "land": return narrow(0, 1);
            case "product": return narrow(1, 3);
            case "column": return upTo(5);
            case "quarter": return narrow(4, 11);
            case "later": return 1 + narrow(4, 10);
            case "year": return narrow(1, 2);
            case "anyland": return upTo(2) - 1;
            case "anyproduct": return upTo(4) - 1;
            case "cell": return cell();
            case "annual": return annual();
            case "code": case "rowcode": return upTo(3) == 0 ? annual() : cell();
            case "decoded": return upTo(4);
            case "value": return value();
            case "release": return upTo(9);
            case "row": return upTo(79);
            case "bit": return upTo(1);
            case "few": return upTo(5);
            case "price": return upTo(1) == 0 ? 10 + upTo(990) : 10 + upTo(30);
            case "traded": return upTo(5) == 0 ? -1 : value();
            case "sector": return narrow(2, 5);
            case "flow": return upTo(200000) - 100000;
            case "stock": return upTo(2000000) - 1000000;
            case "law": return narrow(1, 3);
            case "byte": return upTo(255);
            case "stepped": return upTo(2);
            case "sheet": return upTo(3);
            case "form": return upTo(2);
            case "size": return upTo(9) == 0 ? upTo(60) : upTo(20);
            case "item": return upTo(12);
            case "any": return upTo(1) == 0 ? value() : random.nextInt();
            case "counted": return upTo(8);
            default: throw new IllegalStateException(what);
        }
    }

    private boolean call(String name, Object... arguments) throws ReflectiveOperationException {
        naive.forget();
        long got = ((Number) fast.get(name).invoke(books, arguments)).longValue();
        long want = ((Number) plain.get(name).invoke(naive, arguments)).longValue();
        made++;
        trail.append(name).append(java.util.Arrays.toString(arguments)).append(" = ").append(got).append('\n');
        if (got != want) {
            System.out.println(trail);
            System.out.println("due is " + want);
        }
        return got == want;
    }

    private boolean callOne() throws ReflectiveOperationException {
        if (upTo(30) == 0) return typeLaw();
        if (upTo(60) == 0) return sheetOfRows();
        String[] words = hat.get(random.nextInt(hat.size()));
        Object[] arguments = new Object[words.length - 2];
        int wrong = upTo(11) == 0 && arguments.length > 0 ? random.nextInt(arguments.length) : -1;
        for (int i = 0; i < arguments.length; i++) {
            if (words[i + 2].equals("is")) arguments[i] = random.nextBoolean();
            else arguments[i] = i == wrong ? wild() : fair(words[i + 2]);
        }
        return call(words[0], arguments);
    }

    private String term() {
        String number = String.valueOf(random.nextInt((int) Math.pow(10, 1 + upTo(5))));
        String cell = "c" + narrow(0, 1) + narrow(1, 3) + upTo(5);
        switch (upTo(2)) {
            case 0: return number;
            case 1: return cell;
            default: return number + "*" + cell;
        }
    }

    private String law() {
        StringBuilder text = new StringBuilder(term());
        boolean isRight = false;
        for (int n = upTo(4) + 1; n > 0; n--) {
            if (!isRight && (n == 1 || upTo(2) == 0)) {
                isRight = true;
                text.append('=');
            } else {
                text.append(upTo(1) == 0 ? '+' : '-');
            }
            text.append(term());
        }
        if (upTo(2) == 0) {
            String signs = "c*=+-0123456789x ";
            int place = upTo(text.length() - 1);
            text.setCharAt(place, signs.charAt(upTo(signs.length() - 1)));
        }
        if (upTo(5) == 0) text.setLength(upTo(text.length()));
        return text.toString();
    }

    private boolean typeLaw() throws ReflectiveOperationException {
        int law = fair("law");
        boolean good = upTo(7) == 0 || call("repeal", law);
        String text = law();
        for (int i = 0; i < text.length() && made < CALLS - 2; i++) {
            good &= call("type", law, (int) text.charAt(i));
        }
        return good && call("fault", law) && call("left", law, fair("quarter"));
    }

    private boolean sheetOfRows() throws ReflectiveOperationException {
        int s = upTo(3);
        int form = upTo(2);
        int n = upTo(17);
        boolean good = call("sheet", s, form, n);
        String[] kinds = {"source", "rowcode", "value", "release"};
        for (int i = 0; i < n && made < CALLS - 2; i++) {
            good &= call("put", s, form, i, upTo(30) == 0 ? wild() : fair(kinds[i % 4]));
        }
        return good && call("read", s);
    }

    private boolean run() throws ReflectiveOperationException {
        books = new NationBooks();
        naive = new NaiveBooks();
        made = 0;
        isNarrow = upTo(3) > 0;
        trail.setLength(0);
        boolean good = true;
        while (made < CALLS && good) {
            good = callOne();
        }
        return good && call("digest");
    }

    public static void main(String[] args) throws ReflectiveOperationException {
        int runs = args.length > 0 ? Integer.parseInt(args[0]) : 150;
        long seed = args.length > 1 ? Long.parseLong(args[1]) : SEED;
        RandomRunsTest test = new RandomRunsTest(seed);
        for (int i = 0; i < runs; i++) {
            if (!test.run()) {
                System.out.println("run " + i + " of seed " + seed + " answers otherwise");
                System.exit(1);
            }
        }
        System.out.println(runs + " runs answer as the second reading does");
    }
}
