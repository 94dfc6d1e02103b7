import java.math.BigInteger;
import java.util.ArrayDeque;
import java.util.ArrayList;
import java.util.Deque;
import java.util.List;
import java.util.Map;
import java.util.TreeMap;

/** A second reading of the document, written for plainness alone: the tests hold the class against it. */
final class PlainModel {
    private static final int NONE = -1;
    private static final int OUT = -1000000000;

    static final class Partner {
        long capital;
        long duty;
        long ratio = 1;
        long share;
        long owed;

        Partner copy() {
            Partner other = new Partner();
            other.capital = capital;
            other.duty = duty;
            other.ratio = ratio;
            other.share = share;
            other.owed = owed;
            return other;
        }

        long floor() {
            return 0 - (duty + share);
        }
    }

    record Asset(long book, long market, long debt) {
    }

    /** A tier: its sum (null: the last one) and weights by partner. */
    record Tier(Long sum, Map<Integer, Long> weights) {
    }

    record Thing(char operator, String word, int value) {
    }

    record Special(int receiver, List<Thing> sum, List<Thing> left, char relation, List<Thing> right) {
    }

    record Act(String word, int who, int sum) {
    }

    static final class Told {
        final List<Map<Integer, Long>> rows = new ArrayList<>();
        long leftover;

        Told() {
            for (int k = 0; k < 7; k++) {
                rows.add(new TreeMap<>());
            }
        }
    }

    /** The books; tiers, specials and what was told are never changed once they stand. */
    static final class World {
        TreeMap<Integer, Partner> partners = new TreeMap<>();
        TreeMap<Integer, Asset> assets = new TreeMap<>();
        long cash;
        long result;
        long year;
        long closedHeld;
        List<Tier> tiers = plainTiers();
        List<Special> specials = List.of();
        Told told;

        World copy() {
            World other = new World();
            partners.forEach((p, partner) -> other.partners.put(p, partner.copy()));
            other.assets.putAll(assets);
            other.cash = cash;
            other.result = result;
            other.year = year;
            other.closedHeld = closedHeld;
            other.tiers = tiers;
            other.specials = specials;
            other.told = told;
            return other;
        }

        long held() {
            return assets.values().stream().mapToLong(a -> Math.max(0, a.debt - a.book)).sum();
        }

        long net() {
            return cash + assets.values().stream().mapToLong(a -> a.book - a.debt).sum();
        }

        long capital() {
            return partners.values().stream().mapToLong(q -> q.capital).sum();
        }

        long shares() {
            return partners.values().stream().mapToLong(q -> q.share).sum();
        }

        long owed() {
            return partners.values().stream().mapToLong(q -> q.owed).sum();
        }

        long more() {
            return assets.values().stream().mapToLong(a -> a.market - a.book).sum();
        }

        Map<Integer, Long> evenly() {
            Map<Integer, Long> weights = new TreeMap<>();
            partners.keySet().forEach(p -> weights.put(p, 1L));
            return weights;
        }

        Map<Integer, Long> ratios(Iterable<Integer> among) {
            Map<Integer, Long> weights = new TreeMap<>();
            Map<Integer, Long> ones = new TreeMap<>();
            for (int p : among) {
                weights.put(p, partners.get(p).ratio);
                ones.put(p, 1L);
            }
            return sum(weights) > 0 ? weights : ones;
        }

        /** The weights of a tier of those there. */
        Map<Integer, Long> weights(Tier tier) {
            Map<Integer, Long> weights = new TreeMap<>(tier.weights);
            weights.keySet().retainAll(partners.keySet());
            return weights;
        }

        Map<Integer, Long> sale(long n) {
            Map<Integer, Long> given = new TreeMap<>();
            partners.keySet().forEach(p -> given.put(p, 0L));
            Tier last = tiers.get(tiers.size() - 1);
            Map<Integer, Long> lastWeights = weights(last).isEmpty() ? evenly() : weights(last);
            if (n < 0) {
                dealt(-n, lastWeights).forEach((p, part) -> given.merge(p, -part, Long::sum));
                return given;
            }
            long left = n;
            for (Tier tier : tiers) {
                if (left > 0 && tier.sum != null && !weights(tier).isEmpty()) {
                    long now = Math.min(tier.sum, left);
                    dealt(now, weights(tier)).forEach((p, part) -> given.merge(p, part, Long::sum));
                    left -= now;
                }
            }
            if (left > 0) {
                dealt(left, lastWeights).forEach((p, part) -> given.merge(p, part, Long::sum));
            }
            return given;
        }

        long gap(int p, long withResult) {
            return sale(capital() + withResult).get(p) - partners.get(p).capital;
        }

        void close() {
            told = new Told();
            long rise = held() - closedHeld;
            if (-rise > 0) {
                Map<Integer, Long> by = new TreeMap<>();
                partners.forEach((p, q) -> by.put(p, q.share));
                dealt(Math.min(-rise, shares()), by).forEach((p, part) -> {
                    partners.get(p).share -= part;
                    partners.get(p).owed += part;
                    told.rows.get(0).put(p, part);
                });
            }
            Map<Integer, Long> byOwed = new TreeMap<>();
            partners.forEach((p, q) -> byOwed.put(p, q.owed));
            dealt(Math.min(Math.max(result, 0), owed()), byOwed).forEach((p, part) -> {
                partners.get(p).capital += part;
                partners.get(p).owed -= part;
                result -= part;
                told.rows.get(1).put(p, part);
            });
            dealt(Math.min(Math.max(rise, 0), Math.max(-result, 0)), ratios(partners.keySet())).forEach((p, part) -> {
                partners.get(p).capital -= part;
                partners.get(p).share += part;
                result += part;
                told.rows.get(2).put(p, part);
            });
            Map<Integer, Long> missing = new TreeMap<>();
            partners.forEach((p, q) -> missing.put(p, Math.max(0, q.floor() - q.capital)));
            dealt(Math.min(Math.max(result, 0), sum(missing)), missing).forEach((p, part) -> {
                partners.get(p).capital += part;
                result -= part;
                told.rows.get(3).put(p, part);
            });
            for (Special special : specials) {
                long gift = gift(special);
                if (gift > 0) {
                    partners.get(special.receiver).capital += gift;
                    result -= gift;
                    told.rows.get(4).merge(special.receiver, gift, Long::sum);
                }
            }
            shareByTargets(result);
            result = 0;
            closedHeld = held();
            year++;
        }

        void shareByTargets(long sum) {
            Map<Integer, Long> weights = new TreeMap<>();
            partners.keySet().forEach(p -> weights.put(p, Math.max(0, sum > 0 ? gap(p, sum) : -gap(p, sum))));
            if (sum > 0) {
                dealt(sum, weights).forEach((p, part) -> {
                    partners.get(p).capital += part;
                    told.rows.get(5).put(p, part);
                    told.rows.get(6).put(p, part);
                });
            } else if (sum < 0) {
                Map<Integer, Long> losses = new TreeMap<>();
                partners.keySet().forEach(p -> losses.put(p, 0L));
                losses.putAll(dealt(-sum, weights));
                losses.forEach((p, loss) -> told.rows.get(5).put(p, -loss));
                limit(losses);
                losses.forEach((p, loss) -> told.rows.get(6).put(p, -loss));
                losses.forEach((p, loss) -> partners.get(p).capital -= loss);
            }
        }

        void limit(Map<Integer, Long> losses) {
            Map<Integer, Long> room = new TreeMap<>();
            partners.forEach((p, q) -> room.put(p, Math.max(0, q.capital - q.floor())));
            while (partners.keySet().stream().anyMatch(p -> losses.get(p) > room.get(p))) {
                long above = 0;
                for (int p : partners.keySet()) {
                    above += Math.max(0, losses.get(p) - room.get(p));
                    losses.put(p, Math.min(losses.get(p), room.get(p)));
                }
                List<Integer> others = partners.keySet().stream().filter(p -> losses.get(p) < room.get(p)).toList();
                if (others.isEmpty()) {
                    losses.merge(partners.firstKey(), above, Long::sum);
                    told.leftover = above;
                    return;
                }
                dealt(above, ratios(others)).forEach((p, part) -> losses.merge(p, part, Long::sum));
            }
        }

        void valueAnew() {
            long more = more();
            assets.replaceAll((i, a) -> new Asset(a.market, a.market, a.debt));
            told = new Told();
            if (!partners.isEmpty()) {
                shareByTargets(more);
            }
        }

        int amount(Thing thing) {
            Partner q = partners.getOrDefault(thing.value, new Partner());
            return switch (thing.word) {
                case "result" -> (int) result;
                case "cash" -> (int) cash;
                case "held" -> (int) held();
                case "year" -> (int) year;
                case "net" -> (int) net();
                case "capital" -> (int) q.capital;
                case "share" -> (int) q.share;
                default -> thing.value;
            };
        }

        int amount(List<Thing> things) {
            List<Integer> products = new ArrayList<>();
            for (Thing thing : things) {
                int v = amount(thing);
                int last = products.isEmpty() ? 0 : products.get(products.size() - 1);
                switch (thing.operator) {
                    case '+' -> products.add(v);
                    // A product is turned at its first thing, its quotient by things that follow is cut alike.
                    case '-' -> products.add(v);
                    case '*' -> products.set(products.size() - 1, last * v);
                    default -> products.set(products.size() - 1, v == 0 ? 0 : last / v);
                }
            }
            int at = 0;
            int sum = 0;
            for (Thing thing : things) {
                if (thing.operator == '+') {
                    sum += products.get(at++);
                } else if (thing.operator == '-') {
                    sum -= products.get(at++);
                }
            }
            return sum;
        }

        long gift(Special s) {
            if (!partners.containsKey(s.receiver) || result <= 0) {
                return 0;
            }
            if (s.relation == '<' && amount(s.left) >= amount(s.right)) {
                return 0;
            }
            if (s.relation == '>' && amount(s.left) <= amount(s.right)) {
                return 0;
            }
            return Math.min(result, Math.max(0, amount(s.sum)));
        }
    }

    /** The place of a text's fault. */
    static final class Fault extends Exception {
        private static final long serialVersionUID = 1L;
        final int place;

        Fault(int place) {
            this.place = place;
        }
    }

    record Token(String text, int place) {
    }

    private final List<Integer> tape = new ArrayList<>();
    private World world = new World();
    private final Deque<World> deeds = new ArrayDeque<>();
    private final World[] kept = new World[2];
    private int fault = NONE;
    private int ended = NONE;
    private List<Integer> rows = List.of();
    private String written = "";

    static List<Tier> plainTiers() {
        Map<Integer, Long> weights = new TreeMap<>();
        for (int p = 0; p < 8; p++) {
            weights.put(p, 1L);
        }
        return List.of(new Tier(null, weights));
    }

    static long sum(Map<Integer, Long> weights) {
        return weights.values().stream().mapToLong(w -> w).sum();
    }

    static Map<Integer, Long> dealt(long n, Map<Integer, Long> weights) {
        Map<Integer, Long> parts = new TreeMap<>();
        BigInteger all = BigInteger.valueOf(sum(weights));
        if (n == 0 || all.signum() == 0) {
            return parts;
        }
        long left = n;
        for (Map.Entry<Integer, Long> e : weights.entrySet()) {
            long part = BigInteger.valueOf(n).multiply(BigInteger.valueOf(e.getValue())).divide(all).longValueExact();
            parts.put(e.getKey(), part);
            left -= part;
        }
        while (left > 0) {
            for (Map.Entry<Integer, Long> e : weights.entrySet()) {
                if (left > 0 && e.getValue() > 0) {
                    parts.merge(e.getKey(), 1L, Long::sum);
                    left--;
                }
            }
        }
        return parts;
    }

    // ---- texts

    private List<Token> tokens;
    private int at;

    private void startText() {
        StringBuilder text = new StringBuilder();
        tape.forEach(b -> text.append((char) (int) b));
        tape.clear();
        tokens = new ArrayList<>();
        at = 0;
        java.util.regex.Matcher m = java.util.regex.Pattern.compile("[a-z]+|[0-9]+|[^ ]", java.util.regex.Pattern.DOTALL)
            .matcher(text);
        while (m.find()) {
            tokens.add(new Token(m.group(), m.start()));
        }
        tokens.add(new Token("", text.length()));
    }

    private String peek() {
        return tokens.get(at).text;
    }

    private Fault wrong() {
        return new Fault(tokens.get(at).place);
    }

    private void need(String text) throws Fault {
        if (!peek().equals(text)) {
            throw wrong();
        }
        at++;
    }

    private boolean take(String text) {
        boolean is = peek().equals(text);
        if (is) {
            at++;
        }
        return is;
    }

    private int partner() throws Fault {
        if (!peek().matches("[a-h]")) {
            throw wrong();
        }
        return tokens.get(at++).text.charAt(0) - 'a';
    }

    private int number(int least, int most) throws Fault {
        if (!peek().matches("[0-9]+")) {
            throw wrong();
        }
        BigInteger n = new BigInteger(peek());
        if (n.compareTo(BigInteger.valueOf(least)) < 0 || n.compareTo(BigInteger.valueOf(most)) > 0) {
            throw wrong();
        }
        at++;
        return n.intValueExact();
    }

    private Map<Integer, Long> gives() throws Fault {
        need("to");
        Map<Integer, Long> weights = new TreeMap<>();
        do {
            if (peek().matches("[a-h]") && weights.containsKey(peek().charAt(0) - 'a')) {
                throw wrong();
            }
            int p = partner();
            weights.put(p, (long) number(1, 99));
        } while (take("+"));
        need(";");
        return weights;
    }

    private List<Tier> readTiers() throws Fault {
        List<Tier> read = new ArrayList<>();
        if (peek().isEmpty()) {
            return read;
        }
        while (peek().equals("first")) {
            if (read.size() == 8) {
                throw wrong();
            }
            at++;
            long n = number(1, 999999);
            read.add(new Tier(n, gives()));
        }
        need("rest");
        read.add(new Tier(null, gives()));
        need("");
        return read;
    }

    private List<Thing> readSum(int[] things) throws Fault {
        List<Thing> read = new ArrayList<>();
        char operator = '+';
        while (true) {
            String word = peek();
            if (things[0] == 40) {
                throw wrong();
            }
            things[0]++;
            if (word.matches("[0-9]+")) {
                read.add(new Thing(operator, "number", number(0, 999999)));
            } else if (word.matches("result|cash|held|year|net")) {
                at++;
                read.add(new Thing(operator, word, NONE));
            } else if (word.matches("capital|share")) {
                at++;
                read.add(new Thing(operator, word, partner()));
            } else {
                throw wrong();
            }
            if (!peek().matches("[-+*/]")) {
                return read;
            }
            operator = tokens.get(at++).text.charAt(0);
        }
    }

    private List<Special> readSpecials() throws Fault {
        List<Special> read = new ArrayList<>();
        int[] things = {0};
        while (!peek().isEmpty()) {
            if (read.size() == 8) {
                throw wrong();
            }
            need("give");
            int receiver = partner();
            List<Thing> sum = readSum(things);
            List<Thing> left = List.of();
            List<Thing> right = List.of();
            char relation = ' ';
            if (take("when")) {
                left = readSum(things);
                if (!peek().matches("[<>]")) {
                    throw wrong();
                }
                relation = tokens.get(at++).text.charAt(0);
                right = readSum(things);
            }
            need(";");
            read.add(new Special(receiver, sum, left, relation, right));
        }
        return read;
    }

    private List<Act> readActs() throws Fault {
        List<Act> read = new ArrayList<>();
        while (!peek().isEmpty()) {
            String word = peek();
            if (read.size() == 30) {
                throw wrong();
            }
            if (!word.matches("close|earn|lose|borrow|repay|market|pay|draw|come|go")) {
                throw wrong();
            }
            at++;
            int who = 0;
            int n = 0;
            if (word.matches("lose|borrow|repay|market")) {
                who = number(0, 7);
                n = number(0, 1000000);
            } else if (word.matches("pay|draw|come")) {
                who = partner();
                n = number(0, 1000000);
            } else if (word.equals("go")) {
                who = partner();
            } else if (word.equals("earn")) {
                n = take("-") ? -number(0, 1000000) : number(0, 1000000);
            }
            need(";");
            read.add(new Act(word, who, n));
        }
        return read;
    }

    // ---- calls

    /** What the call answers; a boolean counts 1 or 0. */
    long call(String name, int... a) {
        switch (name) {
            case "feed": return feed(a);
            case "end": return end(a[0]);
            case "tiers": return tiers();
            case "fault": return fault;
            case "tier": return tier(a[0], a[1]);
            case "sale": return !there(a[1]) || Math.abs((long) a[0]) > 100000000 ? OUT : world.sale(a[0]).get(a[1]);
            case "is": return is(a[0]);
            case "partner": return partner(a[0], a[1]);
            case "asset": return asset(a[0], a[1]);
            case "buy": return buy(a[0], a[1], a[2]);
            case "step": return step(a[0], a[1]);
            case "specials": return specials();
            case "special": return special(a[0], a[1]);
            case "acts": return acts();
            case "ended": return ended;
            case "row": return a[0] >= 0 && a[0] < rows.size() ? rows.get(a[0]) : OUT;
            case "hand": return hand(a[0], a[1], a[2]);
            case "breaks": return breaks(a[0]);
            case "gain": return gain(a[0]);
            case "below": return below();
            case "tried": return outside(a[1]) || !there(a[0]) ? OUT : paper(a[1], 1).partners.get(a[0]).capital;
            case "even": return even(a[0], a[1], a[2]);
            case "back": return back();
            case "fills": return fills(a[0], a[1]);
            case "years":
                return outside(a[1]) || a[2] < 1 || a[2] > 20 || !there(a[0]) ? OUT
                    : paper(a[1], a[2]).partners.get(a[0]).capital;
            case "exit": return exit(a[0]);
            case "first": return first();
            case "keep": return keep(a[0]) ? 1 : 0;
            case "restore": return restore(a[0]) ? 1 : 0;
            case "write": return write();
            case "octet": return a[0] >= 0 && a[0] < written.length() ? written.charAt(a[0]) : NONE;
            default: return change(name, a);
        }
    }

    private boolean there(int p) {
        return world.partners.containsKey(p);
    }

    private static boolean outside(int n) {
        return n < -1000000 || n > 1000000;
    }

    private void deed() {
        deeds.addLast(world.copy());
        if (deeds.size() > 12) {
            deeds.removeFirst();
        }
    }

    /** The calls that may be acts too, and those like them: refused ones leave no deed. */
    private long change(String name, int[] a) {
        int who = a.length > 0 ? a[0] : 0;
        int n = a.length > 1 ? a[1] : 0;
        if (name.equals("earn")) {
            n = a[0];
            who = 0;
        }
        Long answer = actAsDeed(name, who, n);
        if (answer == null) {
            return List.of("go", "pay", "draw", "sell", "earn").contains(name) ? OUT : NONE;
        }
        return answer;
    }

    private Long actAsDeed(String name, int who, int n) {
        World was = world.copy();
        Long answer = act(name, who, n);
        if (answer != null) {
            deeds.addLast(was);
            if (deeds.size() > 12) {
                deeds.removeFirst();
            }
        }
        return answer;
    }

    /** Null: refused, and nothing is done. */
    private Long act(String name, int who, int n) {
        Partner q = world.partners.get(who);
        Asset s = world.assets.get(who);
        boolean isSum = n >= 0 && n <= 1000000;
        switch (name) {
            case "close":
                if (world.partners.isEmpty()) {
                    return null;
                }
                world.close();
                return world.year;
            case "earn":
                if (outside(n)) {
                    return null;
                }
                world.result += n;
                world.cash += n;
                return world.result;
            case "lose":
                if (s == null || n < 1 || n > s.book) {
                    return null;
                }
                world.assets.put(who, new Asset(s.book - n, s.market, s.debt));
                world.result -= n;
                return s.book - n;
            case "borrow":
                if (s == null || n < 1 || s.debt + n > 1000000) {
                    return null;
                }
                world.assets.put(who, new Asset(s.book, s.market, s.debt + n));
                world.cash += n;
                return s.debt + n;
            case "repay":
                if (s == null || n < 1 || n > s.debt) {
                    return null;
                }
                world.assets.put(who, new Asset(s.book, s.market, s.debt - n));
                world.cash -= n;
                return s.debt - n;
            case "market":
                if (s == null || !isSum) {
                    return null;
                }
                world.assets.put(who, new Asset(s.book, n, s.debt));
                return s.market;
            case "sell":
                if (s == null) {
                    return null;
                }
                world.assets.remove(who);
                world.cash += s.market - s.debt;
                world.result += s.market - s.book;
                return world.result;
            case "pay":
            case "draw":
                if (q == null || !isSum || n == 0) {
                    return null;
                }
                q.capital += name.equals("pay") ? n : -n;
                world.cash += name.equals("pay") ? n : -n;
                return q.capital;
            case "come":
                return who < 0 || who > 7 || q != null || !isSum || world.result != 0 ? null : come(who, n);
            case "go":
                return q == null || world.partners.size() == 1 || world.result != 0 ? null : go(who);
            case "duty":
                if (q == null || n < 0 || n > 100000) {
                    return null;
                }
                long duty = q.duty;
                q.duty = n;
                return duty;
            case "ratio":
                if (q == null || n < 0 || n > 99) {
                    return null;
                }
                long ratio = q.ratio;
                q.ratio = n;
                return ratio;
            default:
                throw new IllegalArgumentException(name);
        }
    }

    private long come(int p, int n) {
        boolean isFirst = world.partners.isEmpty();
        long more = world.more();
        world.valueAnew();
        Partner q = new Partner();
        q.capital = isFirst ? more + n : n;
        world.cash += n;
        world.partners.put(p, q);
        return q.capital;
    }

    private long go(int p) {
        world.valueAnew();
        Partner q = world.partners.remove(p);
        Map<Integer, Long> others = world.ratios(world.partners.keySet());
        dealt(q.share, others).forEach((o, part) -> world.partners.get(o).share += part);
        dealt(q.owed, others).forEach((o, part) -> world.partners.get(o).owed += part);
        if (q.capital >= 0) {
            world.cash -= q.capital;
            return q.capital;
        }
        long pays = Math.min(-q.capital, q.duty);
        world.cash += pays;
        dealt(-q.capital - pays, others).forEach((o, part) -> world.partners.get(o).capital -= part);
        return -pays;
    }

    private long feed(int[] a) {
        if (tape.size() + 20 > 400) {
            return NONE;
        }
        for (int word : a) {
            for (int k = 3; k >= 0; k--) {
                tape.add(word >>> 8 * k & 255);
            }
        }
        return tape.size();
    }

    private long end(int n) {
        if (n < 0 || n > tape.size()) {
            return NONE;
        }
        tape.subList(n, tape.size()).clear();
        return n;
    }

    private long tiers() {
        startText();
        try {
            List<Tier> read = readTiers();
            fault = NONE;
            deed();
            world.tiers = read.isEmpty() ? plainTiers() : read;
            return read.size();
        } catch (Fault f) {
            fault = f.place;
            return NONE;
        }
    }

    private long specials() {
        startText();
        try {
            List<Special> read = readSpecials();
            fault = NONE;
            deed();
            world.specials = read;
            return read.size();
        } catch (Fault f) {
            fault = f.place;
            return NONE;
        }
    }

    private long acts() {
        startText();
        List<Act> read;
        try {
            read = readActs();
        } catch (Fault f) {
            fault = f.place;
            return NONE;
        }
        fault = NONE;
        ended = NONE;
        rows = new ArrayList<>();
        for (Act act : read) {
            Long answer = actAsDeed(act.word, act.who, act.sum);
            if (answer == null) {
                ended = rows.size();
                break;
            }
            rows.add((int) (long) answer);
        }
        return rows.size();
    }

    private long tier(int k, int what) {
        if (k < 0 || k >= world.tiers.size() || what < 0 || what > 8) {
            return -2;
        }
        Tier tier = world.tiers.get(k);
        if (what == 0) {
            return tier.sum == null ? NONE : tier.sum;
        }
        return tier.weights.getOrDefault(what - 1, 0L);
    }

    private long is(int what) {
        int partners = 0;
        int assets = 0;
        for (int p : world.partners.keySet()) {
            partners += 1 << p;
        }
        for (int i : world.assets.keySet()) {
            assets += 1 << i;
        }
        long[] answers = {world.year, world.result, world.cash, world.net(), world.held(), world.closedHeld, partners,
            assets, world.capital(), world.shares(), world.owed(), deeds.size(), tape.size()};
        if (world.net() != world.capital() + world.result) {
            throw new IllegalStateException("NET is not all CAPITAL and RESULT");
        }
        return what < 0 || what > 12 ? OUT : answers[what];
    }

    private long partner(int p, int what) {
        if (!there(p) || what < 0 || what > 6) {
            return OUT;
        }
        Partner q = world.partners.get(p);
        long[] answers = {q.capital, q.duty, q.ratio, q.share, q.owed, q.floor(), world.gap(p, world.result)};
        return answers[what];
    }

    private long asset(int i, int what) {
        Asset s = world.assets.get(i);
        if (s == null || what < 0 || what > 2) {
            return NONE;
        }
        return what == 0 ? s.book : what == 1 ? s.market : s.debt;
    }

    private long buy(int book, int market, int debt) {
        for (int n : new int[] {book, market, debt}) {
            if (n < 0 || n > 1000000) {
                return NONE;
            }
        }
        for (int i = 0; i < 8; i++) {
            if (!world.assets.containsKey(i)) {
                deed();
                world.assets.put(i, new Asset(book, market, debt));
                world.cash -= book - debt;
                return i;
            }
        }
        return NONE;
    }

    private long step(int p, int what) {
        if (world.told == null || p < NONE || p > 7 || what < 0 || what > (p == NONE ? 7 : 6)) {
            return OUT;
        }
        if (what == 7) {
            return world.told.leftover;
        }
        Map<Integer, Long> row = world.told.rows.get(what);
        return p == NONE ? sum(row) : row.getOrDefault(p, 0L);
    }

    private long special(int k, int what) {
        if (k < 0 || k >= world.specials.size() || what < 0 || what > 2) {
            return OUT;
        }
        Special s = world.specials.get(k);
        return what == 0 ? s.receiver : what == 1 ? world.amount(s.sum) : world.gift(s);
    }

    private long hand(int p, int q, int part) {
        if (!there(p) || q < 0 || q > 7 || p == q || part < 1 || part > 100) {
            return OUT;
        }
        deed();
        Partner from = world.partners.get(p);
        Partner to = world.partners.computeIfAbsent(q, k -> new Partner());
        long capital = from.capital * part / 100;
        long share = from.share * part / 100;
        long owed = from.owed * part / 100;
        from.capital -= capital;
        from.share -= share;
        from.owed -= owed;
        to.capital += capital;
        to.share += share;
        to.owed += owed;
        return to.capital;
    }

    private World paper(int more, int many) {
        World on = world.copy();
        for (int k = 0; k < many; k++) {
            on.result += more;
            on.cash += more;
            on.close();
        }
        return on;
    }

    private long breaks(int m) {
        if (m < 1 || m > 200 || world.partners.isEmpty()) {
            return NONE;
        }
        for (int n = 1; n <= m; n++) {
            if (paper(-n, 1).told.leftover > 0) {
                return n;
            }
        }
        return NONE;
    }

    private long gain(int i) {
        if (i == NONE) {
            return world.more();
        }
        Asset s = world.assets.get(i);
        return s == null ? OUT : s.market - s.book;
    }

    private long below() {
        int bits = 0;
        for (Map.Entry<Integer, Partner> e : world.partners.entrySet()) {
            if (e.getValue().capital < e.getValue().floor()) {
                bits += 1 << e.getKey();
            }
        }
        return bits;
    }

    private long even(int p, int c, int m) {
        if (!there(p) || m < 0 || m > 200) {
            return NONE;
        }
        for (int n = 0; n <= m; n++) {
            if (paper(n, 1).partners.get(p).capital >= c) {
                return n;
            }
        }
        return NONE;
    }

    private long back() {
        if (deeds.isEmpty()) {
            return NONE;
        }
        world = deeds.removeLast();
        return deeds.size();
    }

    private long fills(int n, int what) {
        if (n < 0 || n > 100000000 || world.partners.isEmpty() || what < 0 || what > 1) {
            return OUT;
        }
        long left = n;
        int count = 0;
        for (Tier tier : world.tiers) {
            if (tier.sum != null && left > 0 && !world.weights(tier).isEmpty()) {
                count++;
                left -= Math.min(left, tier.sum);
            }
        }
        return what == 1 ? left : left > 0 ? count + 1 : count;
    }

    private long exit(int p) {
        if (!there(p)) {
            return OUT;
        }
        World on = paper(0, 1);
        on.valueAnew();
        Partner q = on.partners.get(p);
        return q.capital < -q.duty ? -q.duty : q.capital;
    }

    private long first() {
        if (world.partners.isEmpty()) {
            return NONE;
        }
        World on = world.copy();
        on.valueAnew();
        Map<Integer, Long> given = on.sale(on.capital());
        int best = on.partners.firstKey();
        for (int p : on.partners.keySet()) {
            if (given.get(p) > given.get(best)) {
                best = p;
            }
        }
        return best;
    }

    private boolean keep(int k) {
        if (k < 0 || k > 1) {
            return false;
        }
        kept[k] = world.copy();
        return true;
    }

    private boolean restore(int k) {
        if (k < 0 || k > 1 || kept[k] == null) {
            return false;
        }
        deed();
        world = kept[k].copy();
        return true;
    }

    private long write() {
        StringBuilder text = new StringBuilder();
        world.partners.forEach((p, q) -> text.append((char) ('a' + p)).append(':').append(q.capital).append(',')
            .append(q.share).append(',').append(q.owed).append(';'));
        written = text.append('=').append(world.net()).append('.').toString();
        return written.length();
    }
}
