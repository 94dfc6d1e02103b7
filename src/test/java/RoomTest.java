import java.lang.management.ManagementFactory;
import java.lang.reflect.InvocationTargetException;
import java.lang.reflect.Method;
import java.lang.reflect.Modifier;
import java.util.ArrayList;
import java.util.Comparator;
import java.util.List;
import java.util.Random;

/** That the dearest runs of calls make little, and that no call throws, for any arguments in any state. */
public final class RoomTest {
    private static final com.sun.management.ThreadMXBean THREADS =
        (com.sun.management.ThreadMXBean) ManagementFactory.getThreadMXBean();

    public static void main(String[] args) throws Exception {
        roomOfAnObject();
        roomOfAskedCalls();
        roomOfTexts();
        neverThrows();
        Check.finish("RoomTest");
    }

    private static long made() {
        return THREADS.getThreadAllocatedBytes(Thread.currentThread().getId());
    }

    private static PartnerBooks fullBooks() {
        PartnerBooks x = new PartnerBooks();
        for (int p = 0; p < 8; p++) {
            x.come(p, 1000 + p);
            x.buy(100 * p, 900, 50 * p);
        }
        Check.tiers(x, "first 100 to a 1;first 200 to b 1+c 2;first 300 to d 1;rest to a 1+b 2+c 3+d 4+e 5+f 6+g 7+h 8;");
        Check.specials(x, "give a net/100+held;give b capital a/2 when cash>5;");
        return x;
    }

    private static void roomOfAnObject() {
        Check.part("an object");
        fullBooks();
        long was = made();
        PartnerBooks x = new PartnerBooks();
        long bytes = made() - was;
        Check.yes("a new object takes " + bytes + " bytes", bytes < 40000 && x.is(0) == 0);
    }

    private static void roomOfAskedCalls() {
        Check.part("asked calls");
        PartnerBooks x = fullBooks();
        x.keep(0);
        x.keep(1);
        for (int round = 0; round < 2; round++) {
            long was = made();
            for (int k = 0; k < 60; k++) {
                x.even(k % 8, 1000000, 200);
                x.breaks(200);
                x.years(k % 8, -500, 20);
                x.exit(k % 8);
                x.earn(k - 30);
                x.close();
                x.write();
                x.keep(k % 2);
                x.restore(k % 2);
                x.back();
                x.first();
            }
            long bytes = made() - was;
            Check.yes("they make " + bytes + " bytes", round == 0 || bytes == 0);
        }
    }

    private static void roomOfTexts() {
        Check.part("texts");
        PartnerBooks x = fullBooks();
        for (int round = 0; round < 2; round++) {
            long was = made();
            for (int k = 0; k < 512; k++) {
                switch (k % 4) {
                    case 0 -> x.tiers();
                    case 1 -> x.specials();
                    case 2 -> x.acts();
                    default -> x.feed(k, k, k, k, k);
                }
            }
            long bytes = made() - was;
            Check.yes("they make " + bytes + " bytes", bytes < 600000);
        }
    }

    private static void neverThrows() throws Exception {
        Check.part("no call throws");
        List<Method> methods = new ArrayList<>();
        for (Method method : PartnerBooks.class.getDeclaredMethods()) {
            if (Modifier.isPublic(method.getModifiers())) {
                methods.add(method);
            }
        }
        methods.sort(Comparator.comparing(Method::getName));
        Random random = new Random(7);
        for (int run = 0; run < 60; run++) {
            PartnerBooks x = run % 2 == 0 ? new PartnerBooks() : fullBooks();
            for (int k = 0; k < 5000; k++) {
                if (random.nextInt(30) == 0) {
                    Check.acts(x, "earn 1000000;pay a 1000000;draw b 1000000;market 0 1000000;close;come c 1;go c;");
                }
                Method method = methods.get(random.nextInt(methods.size()));
                Object[] arguments = new Object[method.getParameterCount()];
                for (int n = 0; n < arguments.length; n++) {
                    arguments[n] = argument(random);
                }
                try {
                    method.invoke(x, arguments);
                } catch (InvocationTargetException thrown) {
                    Check.yes(method.getName() + " threw " + thrown.getCause(), false);
                }
            }
        }
        Check.yes("all calls ended", true);
    }

    private static int argument(Random random) {
        switch (random.nextInt(6)) {
            case 0: return random.nextInt();
            case 1: return random.nextBoolean() ? Integer.MAX_VALUE : Integer.MIN_VALUE;
            case 2: return 999990 + random.nextInt(12);
            case 3: return random.nextInt(1000) - 100;
            default: return random.nextInt(12) - 2;
        }
    }
}
