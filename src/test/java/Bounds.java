import java.lang.reflect.Method;
import java.util.Arrays;
import java.util.Comparator;
import java.util.Set;
import java.util.function.IntSupplier;
import java.util.regex.Matcher;
import java.util.regex.Pattern;

/** What the boundary tests share: each is a method named promiseNN_.. after the promise whose boundary it looks at. */
abstract class Bounds {
    static final int NONE = PartnerBooks.NONE;
    static final int OUT = -1000000000;
    static final int MIN = Integer.MIN_VALUE;
    static final int MAX = Integer.MAX_VALUE;

    private static final Pattern NAME = Pattern.compile("promise(\\d\\d)_\\w+");

    Bounds() {
    }

    /** Runs each boundary test of the class, and notes the promises that they are named after. */
    static void runAll(Class<?> tests, Set<Integer> promises) throws ReflectiveOperationException {
        Method[] methods = tests.getDeclaredMethods();
        Arrays.sort(methods, Comparator.comparing(Method::getName));
        for (Method method : methods) {
            Matcher name = NAME.matcher(method.getName());
            if (name.matches()) {
                Check.part(method.getName());
                method.invoke(null);
                promises.add(Integer.parseInt(name.group(1)));
            }
        }
    }

    /** PARTNERS 0 on, each come with his sum. */
    static PartnerBooks books(int... sums) {
        PartnerBooks x = new PartnerBooks();
        for (int p = 0; p < sums.length; p++) {
            x.come(p, sums[p]);
        }
        return x;
    }

    /** A call that is refused: it answers so, and nothing that can be asked for is another than ahead of it. */
    static void refused(PartnerBooks x, String call, int due, IntSupplier made) {
        String was = picture(x);
        Check.same(call, made.getAsInt(), due);
        Check.yes(call + " is refused, so nothing is done", was.equals(picture(x)));
    }

    /** A call that only tells: nothing that can be asked for is another than ahead of it. */
    static void told(PartnerBooks x, String call, int due, IntSupplier made) {
        String was = picture(x);
        Check.same(call, made.getAsInt(), due);
        Check.yes(call + " tells, and nothing is done", was.equals(picture(x)));
    }

    static void capitals(PartnerBooks x, int... due) {
        for (int p = 0; p < due.length; p++) {
            Check.same("partner(" + p + ", 0)", x.partner(p, 0), due[p]);
        }
    }

    static void shares(PartnerBooks x, int... due) {
        for (int p = 0; p < due.length; p++) {
            Check.same("partner(" + p + ", 3)", x.partner(p, 3), due[p]);
        }
    }

    static void owed(PartnerBooks x, int... due) {
        for (int p = 0; p < due.length; p++) {
            Check.same("partner(" + p + ", 4)", x.partner(p, 4), due[p]);
        }
    }

    /** A row of step(), from PARTNER 0 on, with its sum. */
    static void steps(PartnerBooks x, int what, int... due) {
        int all = 0;
        for (int p = 0; p < due.length; p++) {
            Check.same("step(" + p + ", " + what + ")", x.step(p, what), due[p]);
            all += due[p];
        }
        Check.same("step(NONE, " + what + ")", x.step(NONE, what), all);
    }

    /** NET is CASH and all BOOKS less all DEBTS, and all CAPITAL and RESULT together. */
    static void sums(PartnerBooks x) {
        int net = x.is(2);
        for (int i = 0; i < 8; i++) {
            if (x.asset(i, 0) != NONE) {
                net += x.asset(i, 0) - x.asset(i, 2);
            }
        }
        Check.same("is(3)", x.is(3), net);
        if (x.is(6) != 0 || x.is(1) == 0) {
            Check.same("is(8) + is(1)", x.is(8) + x.is(1), net);
        }
    }

    /** All that can be asked for without a change, as a text. */
    static String picture(PartnerBooks x) {
        StringBuilder text = new StringBuilder(accounts(x));
        text.append(x.is(11)).append(' ').append(x.is(12)).append(' ');
        text.append(x.fault()).append(' ').append(x.ended()).append(' ');
        for (int k = 0; k <= 30; k++) {
            text.append(x.row(k)).append(' ');
        }
        for (int k = 0; k < 400 && x.octet(k) != NONE; k++) {
            text.append((char) x.octet(k));
        }
        return text.toString();
    }

    /** What is taken back and KEPT, as a text. */
    static String accounts(PartnerBooks x) {
        StringBuilder text = new StringBuilder();
        for (int what = 0; what <= 10; what++) {
            text.append(x.is(what)).append(' ');
        }
        for (int k = NONE; k <= 8; k++) {
            for (int what = 0; what <= 8; what++) {
                text.append(x.partner(k, what)).append(' ').append(x.asset(k, what)).append(' ');
                text.append(x.step(k, what)).append(' ').append(x.tier(k, what)).append(' ');
                text.append(x.special(k, what)).append(' ');
            }
        }
        return text.toString();
    }

    static String blanks(int many) {
        return " ".repeat(Math.max(0, many));
    }
}
