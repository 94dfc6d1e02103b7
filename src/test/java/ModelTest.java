import java.lang.reflect.Method;
import java.util.HashMap;
import java.util.Map;
import java.util.Random;

/** Random runs of calls: each answer of the class is held against that of the plain model. */
public final class ModelTest {
    private static final int RUNS = 1500;
    private static final int CALLS = 500;
    private static final int[] EDGES = {Integer.MIN_VALUE, -1000000001, -1000000000, -100000001, -100000000, -1000001,
        -1000000, -2, -1, 0, 1, 2, 7, 8, 9, 12, 13, 20, 21, 31, 32, 99, 100, 101, 200, 201, 399, 400, 100000, 100001,
        999999, 1000000, 1000001, 100000000, 100000001, Integer.MAX_VALUE};
    private static final String[] ASKED = {"fault", "tier", "sale", "is", "partner", "asset", "step", "special",
        "ended", "row", "breaks", "gain", "below", "tried", "even", "fills", "years", "exit", "first", "write", "octet"};
    private static final String[] DONE = {"come", "come", "go", "duty", "ratio", "pay", "draw", "buy", "buy", "sell",
        "market", "market", "lose", "lose", "lose", "borrow", "repay", "repay", "earn", "earn", "close", "close", "close",
        "hand", "back", "keep", "restore"};

    private static final Map<String, Method> METHODS = new HashMap<>();

    private final Random random;
    private final PartnerBooks books = new PartnerBooks();
    private final PlainModel model = new PlainModel();
    private final int scale;
    private final StringBuilder story = new StringBuilder();
    private boolean isWrong;

    private ModelTest(long seed) {
        random = new Random(seed);
        scale = new int[] {3, 12, 200, 5000, 1000000}[random.nextInt(5)];
    }

    public static void main(String[] args) throws Exception {
        for (Method method : PartnerBooks.class.getDeclaredMethods()) {
            if (java.lang.reflect.Modifier.isPublic(method.getModifiers())) {
                METHODS.put(method.getName(), method);
            }
        }
        long from = args.length > 0 ? Long.parseLong(args[0]) : 1;
        int runs = args.length > 1 ? Integer.parseInt(args[1]) : RUNS;
        for (long seed = from; seed < from + runs; seed++) {
            Check.part("run " + seed);
            ModelTest test = new ModelTest(seed);
            for (int k = 0; k < CALLS && !test.isWrong; k++) {
                test.oneMore();
            }
            if (test.isWrong) {
                System.out.println(test.story);
                break;
            }
        }
        Check.finish("ModelTest");
    }

    private void oneMore() throws Exception {
        int kind = random.nextInt(100);
        if (kind < 3) {
            text(new TextMaker(random, scale).tiers(), "tiers");
        } else if (kind < 6) {
            text(new TextMaker(random, scale).specials(), "specials");
        } else if (kind < 12) {
            text(new TextMaker(random, scale).acts(), "acts");
        } else if (kind < 14) {
            call(random.nextInt(3) == 0 ? "end" : "feed");
        } else if (kind < 60) {
            call(DONE[random.nextInt(DONE.length)]);
        } else {
            call(ASKED[random.nextInt(ASKED.length)]);
        }
        if (random.nextInt(20) == 0) {
            lookAtAll();
        }
    }

    private void lookAtAll() throws Exception {
        for (int what = 0; what <= 12; what++) {
            call("is", what);
        }
        for (int k = -1; k < 8; k++) {
            for (int what = 0; what <= 7; what++) {
                call("partner", k, what);
                call("step", k, what);
            }
        }
        for (int k = 0; k < 9; k++) {
            call("tier", k, random.nextInt(9));
            call("special", k, random.nextInt(3));
        }
    }

    private void text(String text, String reading) throws Exception {
        if (random.nextInt(10) != 0) {
            call("end", 0);
        }
        for (int at = 0; at < text.length(); at += 20) {
            int[] words = new int[5];
            for (int k = 0; k < 20; k++) {
                int c = at + k < text.length() ? text.charAt(at + k) & 255 : 32;
                words[k / 4] |= c << 24 - 8 * (k % 4);
            }
            call("feed", words);
        }
        if (random.nextInt(5) != 0) {
            call("end", text.length());
        }
        story.append("// ").append(text).append('\n');
        call(reading);
        call("fault");
        if (reading.equals("acts")) {
            call("ended");
            for (int k = 0; k < 4; k++) {
                call("row", random.nextInt(31) - 1);
            }
        }
    }

    private void call(String name) throws Exception {
        int[] arguments = new int[METHODS.get(name).getParameterCount()];
        for (int k = 0; k < arguments.length; k++) {
            arguments[k] = argument(name, k);
        }
        call(name, arguments);
    }

    private int argument(String name, int k) {
        if (random.nextInt(60) == 0) {
            return random.nextBoolean() ? EDGES[random.nextInt(EDGES.length)] : random.nextInt();
        }
        boolean isWho = k == 0 && !name.matches("feed|end|sale|is|buy|earn|breaks|fills|keep|restore|octet|row");
        if (isWho || name.equals("sale") && k == 1 || name.equals("hand") && k == 1) {
            return name.matches("gain|step") ? random.nextInt(9) - 1 : random.nextInt(name.equals("tier") ? 10 : 8);
        }
        switch (name) {
            case "is": return random.nextInt(14);
            case "tier": return random.nextInt(10);
            case "partner": return random.nextInt(7);
            case "asset": return random.nextInt(4);
            case "step": return random.nextInt(8);
            case "special": return random.nextInt(3);
            case "keep":
            case "restore": return random.nextInt(2);
            case "octet": return random.nextInt(80) - 1;
            case "end": return random.nextInt(40) - 1;
            case "feed": return random.nextInt();
            case "breaks": return random.nextInt(60);
            case "row": return random.nextInt(32) - 1;
            case "hand": return random.nextInt(102);
            case "ratio": return random.nextInt(4) == 0 ? 0 : random.nextInt(20);
            case "fills": return k == 1 ? random.nextInt(2) : random.nextInt(scale * 4);
            case "sale": return random.nextInt(scale * 4) - scale;
            case "years": return k == 2 ? 1 + random.nextInt(5) : amountEitherWay();
            case "even": return k == 2 ? random.nextInt(60) : amountEitherWay();
            case "earn":
            case "tried": return amountEitherWay();
            case "lose":
            case "repay": return 1 + random.nextInt(Math.max(1, scale / 2));
            default: return random.nextInt(scale + 1);
        }
    }

    private int amountEitherWay() {
        int n = random.nextInt(scale + 1);
        return random.nextInt(3) == 0 ? n : random.nextInt(2) == 0 ? -n : n / 4;
    }

    private void call(String name, int... arguments) throws Exception {
        if (isWrong) {
            return;
        }
        Object[] boxed = new Object[arguments.length];
        StringBuilder told = new StringBuilder(name).append('(');
        for (int k = 0; k < arguments.length; k++) {
            boxed[k] = arguments[k];
            told.append(k == 0 ? "" : ", ").append(arguments[k]);
        }
        told.append(')');
        Object answer = METHODS.get(name).invoke(books, boxed);
        long got = answer instanceof Boolean b ? b ? 1 : 0 : (Integer) answer;
        long due = model.call(name, arguments);
        story.append(told).append(" -> ").append(got).append('\n');
        Check.same(told.toString(), got, due);
        isWrong = got != due;
    }
}
