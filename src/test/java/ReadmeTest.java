import java.io.ByteArrayOutputStream;
import java.io.PrintStream;
import java.lang.reflect.Method;
import java.lang.reflect.Modifier;
import java.net.URL;
import java.net.URLClassLoader;
import java.nio.charset.StandardCharsets;
import java.nio.file.Files;
import java.nio.file.Path;
import java.util.Arrays;
import java.util.Comparator;
import java.util.List;
import java.util.Map;
import java.util.TreeMap;
import java.util.regex.Matcher;
import java.util.regex.Pattern;
import java.util.stream.Stream;
import javax.tools.JavaCompiler;
import javax.tools.ToolProvider;

/** What README.md tells: its program prints what stands there, and refused calls answer as its table says. */
public final class ReadmeTest {
    private static final String NEVER = "is never refused";

    public static void main(String[] args) throws Exception {
        String readme = Files.readString(Path.of("README.md"));
        program(readme);
        Map<String, String> told = table(readme);
        everyCallIsTold(told);
        refusedOfNewObject(told);
        refusedTexts(told);
        neverRefused(told);
        answersThatAreNoRefusal();
        Check.finish("ReadmeTest");
    }

    private static String block(String readme, String kind) {
        Matcher m = Pattern.compile("(?s)```" + kind + "\n(.*?)```").matcher(readme);
        Check.yes("there is a block of " + kind, m.find());
        return m.group(1);
    }

    private static void program(String readme) throws Exception {
        Check.part("the program");
        Path folder = Files.createTempDirectory("readme");
        Path file = folder.resolve("Example.java");
        Files.writeString(file, block(readme, "java"));
        JavaCompiler compiler = ToolProvider.getSystemJavaCompiler();
        int failed = compiler.run(null, null, null, "-d", folder.toString(), "src/main/java/PartnerBooks.java",
            file.toString());
        Check.same("javac", failed, 0);
        if (failed == 0) {
            String due = block(readme, "text");
            String got = printed(folder);
            Check.yes("it prints\n" + got + "and README.md tells\n" + due, got.equals(due));
        }
        remove(folder);
    }

    private static String printed(Path folder) throws Exception {
        PrintStream screen = System.out;
        ByteArrayOutputStream caught = new ByteArrayOutputStream();
        URL[] places = {folder.toUri().toURL()};
        try (URLClassLoader loader = new URLClassLoader(places, ClassLoader.getPlatformClassLoader())) {
            System.setOut(new PrintStream(caught, true, StandardCharsets.UTF_8));
            Method main = loader.loadClass("Example").getMethod("main", String[].class);
            main.invoke(null, (Object) new String[0]);
        } finally {
            System.setOut(screen);
        }
        return caught.toString(StandardCharsets.UTF_8).replace(System.lineSeparator(), "\n");
    }

    private static void remove(Path folder) throws Exception {
        List<Path> all;
        try (Stream<Path> walk = Files.walk(folder)) {
            all = walk.sorted(Comparator.reverseOrder()).toList();
        }
        for (Path path : all) {
            Files.delete(path);
        }
    }

    /** By the name of each call: its answer, as the table's first column has it. */
    private static Map<String, String> table(String readme) {
        Check.part("the table");
        Map<String, String> told = new TreeMap<>();
        Matcher row = Pattern.compile("(?m)^\\| ([^|]+) \\| (`[^|]+`) \\|$").matcher(readme);
        while (row.find()) {
            Matcher name = Pattern.compile("`(\\w+)`").matcher(row.group(2));
            while (name.find()) {
                Check.yes(name.group(1) + " is told once", told.put(name.group(1), row.group(1)) == null);
            }
        }
        return told;
    }

    private static List<Method> calls() {
        return Arrays.stream(PartnerBooks.class.getDeclaredMethods())
            .filter(method -> Modifier.isPublic(method.getModifiers()))
            .sorted(Comparator.comparing(Method::getName)).toList();
    }

    private static void everyCallIsTold(Map<String, String> told) {
        for (Method method : calls()) {
            Check.yes(method.getName() + " is told", told.containsKey(method.getName()));
        }
        Check.same("how many calls are told", told.size(), calls().size());
    }

    private static long answerOf(String told) {
        Matcher number = Pattern.compile("-\\d+").matcher(told);
        return number.find() ? Long.parseLong(number.group()) : 0;
    }

    /** Numbers that none of them takes, and nobody there; a text is refused by its fault, a feed by a full tape. */
    private static void refusedOfNewObject(Map<String, String> told) throws Exception {
        Check.part("refused calls");
        for (Method method : calls()) {
            String due = told.getOrDefault(method.getName(), NEVER);
            if (due.equals(NEVER) || method.getName().matches("feed|tiers|specials|acts")) {
                continue;
            }
            Object[] arguments = new Object[method.getParameterCount()];
            Arrays.fill(arguments, Integer.MIN_VALUE);
            Object answer = method.invoke(new PartnerBooks(), arguments);
            Check.yes(method.getName() + " answers false or a number", answer instanceof Boolean == due.equals("`false`"));
            Check.same(method.getName(), answer instanceof Boolean is ? is ? 1 : 0 : (Integer) answer, answerOf(due));
        }
    }

    private static void refusedTexts(Map<String, String> told) {
        PartnerBooks x = new PartnerBooks();
        Check.same("tiers", Check.tiers(x, "!"), answerOf(told.get("tiers")));
        Check.same("the tape behind it", x.is(12), 0);
        Check.same("specials", Check.specials(x, "!"), answerOf(told.get("specials")));
        Check.same("the tape behind it", x.is(12), 0);
        Check.same("acts", Check.acts(x, "!"), answerOf(told.get("acts")));
        Check.same("the tape behind it", x.is(12), 0);
        for (int k = 1; k <= 20; k++) {
            Check.same("feed", x.feed(0, 0, 0, 0, 0), 20 * k);
        }
        Check.same("feed", x.feed(0, 0, 0, 0, 0), answerOf(told.get("feed")));
    }

    private static void neverRefused(Map<String, String> told) {
        Check.part("calls that are never refused");
        PartnerBooks x = new PartnerBooks();
        for (Method method : calls()) {
            if (told.getOrDefault(method.getName(), "").equals(NEVER)) {
                Check.same(method.getName() + " takes nothing", method.getParameterCount(), 0);
            }
        }
        Check.same("below", x.below(), 0);
        Check.same("write", x.write(), 3);
    }

    private static void answersThatAreNoRefusal() {
        Check.part("answers that are no refusal");
        PartnerBooks x = new PartnerBooks();
        Check.same("tier", x.tier(0, 0), PartnerBooks.NONE);
        x.buy(6, 0, 0);
        Check.same("come", x.come(0, 5), PartnerBooks.NONE);
        Check.same("who is there", x.is(6), 1);
        Check.same("CAPITAL", x.partner(0, 0), -1);
        Check.same("specials", Check.specials(x, "give a 0 - 500000 * 2000;"), 1);
        Check.same("special", x.special(0, 1), -1000000000);
    }
}
