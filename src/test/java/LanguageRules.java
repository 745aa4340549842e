import java.io.IOException;
import java.lang.reflect.Array;
import java.lang.reflect.Field;
import java.lang.reflect.Method;
import java.lang.reflect.Modifier;
import java.nio.charset.StandardCharsets;
import java.nio.file.Files;
import java.nio.file.Path;
import java.util.ArrayList;
import java.util.Arrays;
import java.util.HashSet;
import java.util.IdentityHashMap;
import java.util.List;
import java.util.Map;
import java.util.Set;
import java.util.TreeSet;
import java.util.regex.Matcher;
import java.util.regex.Pattern;

/** What of LANGUAGE.md can be seen from the source (the first argument) and from the class. */
public final class LanguageRules {
    private static final String FACE = "boolean fact(int,boolean)|boolean price(int,int)|int feed(int,int,int,int,int)|int law(int)"
            + "|int wish(int,int)|int clause(int,int)|boolean drop(int)|int wished(int)|int tried(int,int)|int days(int)"
            + "|int fits(int)|int wishIs(int,int)|int why(int,int)|int joke(int)|int freeing()|int inOrder(int,int)"
            + "|int byWishes(int,int)|int follows(int,int,int)|int word(int,int)|int power(int,int)|int like(int,int)"
            + "|int ladder(int,int)|long likely(int,int)|int asked(int,int,int)|int questions(int,int,int)|int copy()"
            + "|int compare(int)|int dead(int,int)|int summer(int)|int hindered(int,int)|int friends(int,int)|int keep()"
            + "|boolean undo()|int check(int)|int count(int)";
    private static final int MOST_ELEMENTS = 7000;
    private static int wrong = 0;

    private LanguageRules() {
    }

    private static void must(boolean is, String what) {
        if (!is) {
            wrong++;
            System.out.println("LanguageRules: " + what);
        }
    }

    public static void main(String[] args) throws IOException, IllegalAccessException {
        String source = Files.readString(Path.of(args[0]), StandardCharsets.US_ASCII);
        String code = source.replaceAll("(?s)/\\*.*?\\*/", " ").replaceAll("//[^\n]*", " ");
        words(code);
        methodLengths(code);
        face();
        classes();
        room();
        System.out.println("LanguageRules: " + wrong + " rules are broken");
        if (wrong != 0) {
            System.exit(1);
        }
    }

    private static void words(String code) {
        String[] refused = {"\\bthrow\\b", "\\bthrows\\b", "\\btry\\b", "\\bcatch\\b", "\\bsynchronized\\b", "\\bassert\\b",
            "->", "::", "\\bimport\\b", "\\bpackage\\b", "Exact\\b", "\\bprotected\\b", "\\bdouble\\b", "\\bfloat\\b",
            "\\btoString\\b", "\\bhashCode\\b", "\\bstatic\\s*\\{", "\\bwhile\\b", "\\bnative\\b", "\\bvolatile\\b"};
        for (String word : refused) {
            must(!Pattern.compile(word).matcher(code).find(), "the source has " + word);
        }
        Matcher library = Pattern.compile("\\b([A-Z][a-z]\\w*)\\.(\\w+)").matcher(code);
        Set<String> known = new HashSet<>(Arrays.asList("Integer.bitCount", "Long.bitCount", "Math.max", "Math.min",
                "System.arraycopy"));
        Set<String> own = new HashSet<>(Arrays.asList("Tables"));
        while (library.find()) {
            must(known.contains(library.group()) || own.contains(library.group(1)), "the source uses " + library.group());
        }
    }

    /** A method's lines, and at most seven parameters. */
    private static void methodLengths(String code) {
        String[] lines = code.split("\n", -1);
        Pattern head = Pattern.compile("^( {4}| {8})(public|private|static|[a-z]|Law|Book|Prices)[^=;]*\\(([^)]*)\\) \\{$");
        for (int i = 0; i < lines.length; i++) {
            Matcher matcher = head.matcher(lines[i]);
            if (matcher.matches()) {
                int end = i;
                while (!lines[end].equals(matcher.group(1) + "}")) {
                    end++;
                }
                must(end - i < 60, "a long method: " + lines[i].trim());
                must(matcher.group(3).split(",").length <= 7, "many parameters: " + lines[i].trim());
            }
        }
    }

    private static void face() {
        Set<String> due = new TreeSet<>(Arrays.asList(FACE.split("\\|")));
        Set<String> found = new TreeSet<>();
        Set<String> names = new HashSet<>();
        for (Method method : PactYears.class.getDeclaredMethods()) {
            int modifiers = method.getModifiers();
            if (Modifier.isPublic(modifiers)) {
                List<String> types = new ArrayList<>();
                for (Class<?> type : method.getParameterTypes()) {
                    types.add(type.getName());
                }
                found.add(method.getReturnType().getName() + " " + method.getName() + "(" + String.join(",", types) + ")");
                names.add(method.getName());
            } else {
                must(Modifier.isPrivate(modifiers), method.getName() + " is neither public nor private");
            }
        }
        must(found.equals(due), "the face is " + found);
        for (Class<?> type : allClasses()) {
            for (Method method : type.getDeclaredMethods()) {
                boolean isFace = type == PactYears.class && Modifier.isPublic(method.getModifiers());
                must(isFace || !names.contains(method.getName()), method.getName() + " bears the name of a public one");
            }
        }
        must(Modifier.isFinal(PactYears.class.getModifiers()), "the class is not final");
        must(PactYears.class.getConstructors().length == 1, "constructors");
    }

    private static List<Class<?>> allClasses() {
        List<Class<?>> all = new ArrayList<>();
        all.add(PactYears.class);
        all.addAll(Arrays.asList(PactYears.class.getDeclaredClasses()));
        return all;
    }

    private static void classes() {
        must(allClasses().size() <= 12, "there are " + allClasses().size() + " classes");
        for (Class<?> type : allClasses()) {
            must(type == PactYears.class || Modifier.isStatic(type.getModifiers()), type + " is not static");
            must(type.getDeclaredClasses().length == 0 || type == PactYears.class, type + " has classes inside");
            int fields = 0;
            for (Field field : type.getDeclaredFields()) {
                if (Modifier.isStatic(field.getModifiers())) {
                    must(Modifier.isFinal(field.getModifiers()), field + " is static and not final");
                } else {
                    fields++;
                }
                boolean isNone = field.getName().equals("NONE");
                must(type != PactYears.class || Modifier.isPrivate(field.getModifiers()) || isNone, field + " can be seen");
            }
            must(fields <= 20, type + " has " + fields + " fields");
        }
    }

    /** Fields and elements of one object with all that it holds: many of them share a room. */
    private static void room() throws IllegalAccessException {
        Map<Object, Boolean> seen = new IdentityHashMap<>();
        List<Object> open = new ArrayList<>();
        open.add(new PactYears());
        int elements = 0;
        while (!open.isEmpty()) {
            Object one = open.remove(open.size() - 1);
            if (one == null || one instanceof String || seen.put(one, true) != null) {
                continue;
            }
            if (one.getClass().isArray()) {
                elements += Array.getLength(one);
                for (int i = 0; i < Array.getLength(one) && !one.getClass().getComponentType().isPrimitive(); i++) {
                    open.add(Array.get(one, i));
                }
                continue;
            }
            for (Class<?> type = one.getClass(); type != Object.class; type = type.getSuperclass()) {
                for (Field field : type.getDeclaredFields()) {
                    if (!Modifier.isStatic(field.getModifiers())) {
                        elements++;
                        field.setAccessible(true);
                        if (!field.getType().isPrimitive()) {
                            open.add(field.get(one));
                        }
                    }
                }
            }
        }
        System.out.println("LanguageRules: one object has " + seen.size() + " objects and arrays, " + elements + " fields and elements");
        must(elements <= MOST_ELEMENTS, "one object has " + elements + " fields and elements");
    }
}
