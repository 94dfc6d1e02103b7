import java.lang.reflect.Constructor;
import java.lang.reflect.Executable;
import java.lang.reflect.Field;
import java.lang.reflect.Method;
import java.lang.reflect.Modifier;
import java.nio.file.Files;
import java.nio.file.Path;
import java.util.ArrayList;
import java.util.Arrays;
import java.util.List;
import java.util.Map;
import java.util.Set;
import java.util.TreeMap;
import java.util.TreeSet;
import java.util.regex.Matcher;
import java.util.regex.Pattern;

/** The public face as the document writes it, and the rules of LANGUAGE.md that can be looked at. */
public final class FaceTest {
    private static final String[] FORBIDDEN = {"\\bthrow\\b", "\\bthrows\\b", "\\btry\\b", "\\bcatch\\b",
        "\\bsynchronized\\b", "\\bassert\\b", "->", "::", "\\bequals\\(\\)", "\\bhashCode\\b", "\\btoString\\b",
        "Exact\\b", "\\bSystem\\.(?!arraycopy)", "\\bRandom\\b", "\\bThread\\b", "\\bvar\\b", "\\bsealed\\b",
        "\"\\s*\\+", "\\+\\s*\"", "\\bstatic\\s*\\{", "\\bLong\\b", "\\bObject\\b", "\\bnative\\b", "\\bvolatile\\b"};

    private static final Pattern METHOD =
        Pattern.compile("(?m)^( +)((?:[\\w\\[\\]]+ )+)(\\w+)\\(([^)]*)\\) \\{$");

    public static void main(String[] args) throws Exception {
        String shared = System.getenv().getOrDefault("PARTNER_BOOKS_SHARED", "../shared");
        face(Files.readString(Path.of(shared, "DOC.md")));
        String source = Files.readString(Path.of("src/main/java/PartnerBooks.java"));
        String code = withoutComments(source);
        words(source, code);
        methods(code);
        depth(code);
        members();
        Check.finish("FaceTest");
    }

    private static void face(String document) {
        Check.part("the face");
        int from = document.indexOf("public final class PartnerBooks {");
        String face = document.substring(from, document.indexOf("```", from));
        Set<String> due = new TreeSet<>();
        Matcher m = Pattern.compile("public (?:(int|boolean) )?(\\w+)\\(([^)]*)\\);").matcher(face);
        while (m.find()) {
            String kinds = m.group(3).replaceAll("\\b(int) \\w+", "$1");
            due.add((m.group(1) == null ? "" : m.group(1) + " ") + m.group(2) + "(" + kinds + ")");
        }
        Set<String> got = new TreeSet<>();
        for (Constructor<?> c : PartnerBooks.class.getDeclaredConstructors()) {
            got.add("PartnerBooks(" + kinds(c) + ")");
            Check.yes("the constructor is public", Modifier.isPublic(c.getModifiers()));
        }
        for (Method method : PartnerBooks.class.getDeclaredMethods()) {
            if (!Modifier.isPrivate(method.getModifiers())) {
                got.add(method.getReturnType() + " " + method.getName() + "(" + kinds(method) + ")");
                Check.yes(method.getName() + " is public", Modifier.isPublic(method.getModifiers()));
            }
        }
        Check.same("how many members the document has", due.size(), 45);
        Check.yes("the face is that of the document: " + due + got, due.equals(got));
        for (Field field : PartnerBooks.class.getDeclaredFields()) {
            boolean isNone = field.getName().equals("NONE");
            Check.yes(field.getName() + " is private, or NONE", isNone || Modifier.isPrivate(field.getModifiers()));
        }
        Check.yes("the class is final", Modifier.isFinal(PartnerBooks.class.getModifiers()));
    }

    private static String kinds(Executable of) {
        List<String> kinds = new ArrayList<>();
        for (Class<?> kind : of.getParameterTypes()) {
            kinds.add(kind.getName());
        }
        return String.join(", ", kinds);
    }

    private static String withoutComments(String source) {
        return source.replaceAll("(?s)/\\*.*?\\*/", "").replaceAll("//[^\n]*", "");
    }

    private static void words(String source, String code) {
        Check.part("words of the source");
        for (String word : FORBIDDEN) {
            Matcher m = Pattern.compile(word).matcher(code);
            Check.no(word + (m.find() ? " at " + code.substring(Math.max(0, m.start() - 30), m.end()) : ""),
                Pattern.compile(word).matcher(code).find());
        }
        Check.yes("signs 1 to 127 alone", source.chars().allMatch(c -> c > 0 && c < 128));
        Matcher imports = Pattern.compile("import ([^;]+);").matcher(code);
        while (imports.find()) {
            Check.yes("import " + imports.group(1),
                Set.of("java.util.Arrays", "java.util.ArrayList", "java.util.List").contains(imports.group(1)));
        }
        Matcher library = Pattern.compile("\\b(Arrays|Math|System|Integer)\\.(\\w+)").matcher(code);
        while (library.find()) {
            Check.yes(library.group(), Set.of("Arrays.fill", "Math.max", "Math.min", "Math.abs", "System.arraycopy")
                .contains(library.group()));
        }
        Check.no("package", Pattern.compile("(?m)^package").matcher(code).find());
    }

    private static boolean isMethod(Matcher m) {
        return !m.group(2).matches(" *(else|return|new|if|for|while|switch) .*")
            && !m.group(3).matches("if|for|while|switch") && Character.isLowerCase(m.group(3).charAt(0));
    }

    private static void methods(String code) {
        Check.part("methods of the source");
        Matcher m = METHOD.matcher(code);
        int count = 0;
        while (m.find()) {
            if (!isMethod(m)) {
                continue;
            }
            count++;
            int end = code.indexOf("\n" + m.group(1) + "}\n", m.end());
            long lines = code.substring(m.start(), end).lines().count();
            Check.yes(m.group(3) + " has " + lines + " lines", lines <= 60);
            Check.yes(m.group(3) + " takes seven at most", m.group(4).isBlank() || m.group(4).split(",").length <= 7);
        }
        Check.yes("methods were found: " + count, count > 100);
    }

    /** The longest chain of calls: names are the methods' own, so the source's words tell who calls whom. */
    private static void depth(String code) {
        Check.part("depth of calls");
        Map<String, String> bodies = new TreeMap<>();
        Matcher m = METHOD.matcher(code);
        while (m.find()) {
            if (isMethod(m)) {
                String body = code.substring(m.end(), code.indexOf("\n" + m.group(1) + "}\n", m.end()));
                Check.yes(m.group(3) + " is the name of one method alone", bodies.put(m.group(3), body) == null);
            }
        }
        for (String name : bodies.keySet()) {
            int depth = depth(name, bodies, 0);
            Check.yes(name + " goes " + depth + " deep", depth <= 8);
        }
    }

    private static int depth(String name, Map<String, String> bodies, int above) {
        if (above > 20) {
            return above;
        }
        int deepest = 0;
        Matcher m = Pattern.compile("(new )?\\b(\\w+)\\(").matcher(bodies.getOrDefault(name, ""));
        while (m.find()) {
            if (m.group(1) == null && !m.group(2).matches("if|for|while|switch|return")) {
                deepest = Math.max(deepest, depth(m.group(2), bodies, above + 1));
            }
        }
        return deepest + 1;
    }

    private static void members() {
        Check.part("members");
        Set<String> open = new TreeSet<>();
        for (Method method : PartnerBooks.class.getDeclaredMethods()) {
            if (Modifier.isPublic(method.getModifiers())) {
                open.add(method.getName());
            }
        }
        List<Class<?>> classes = new ArrayList<>(Arrays.asList(PartnerBooks.class.getDeclaredClasses()));
        Check.yes("twelve classes at most", classes.size() + 1 <= 12);
        classes.add(PartnerBooks.class);
        for (Class<?> one : classes) {
            Check.yes(one + " is static or the class itself",
                one == PartnerBooks.class || Modifier.isStatic(one.getModifiers()) && !Modifier.isPublic(one.getModifiers()));
            int fields = 0;
            for (Field field : one.getDeclaredFields()) {
                boolean isStatic = Modifier.isStatic(field.getModifiers());
                Check.yes(one + ": a static field is final", !isStatic || Modifier.isFinal(field.getModifiers()));
                fields += isStatic ? 0 : 1;
            }
            Check.yes(one + " has " + fields + " fields", fields <= 20);
            for (Method method : one.getDeclaredMethods()) {
                boolean isFace = one == PartnerBooks.class && Modifier.isPublic(method.getModifiers());
                Check.yes(one + "." + method.getName() + " has a name of its own",
                    isFace || !open.contains(method.getName()));
            }
        }
    }
}
