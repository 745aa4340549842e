import java.lang.reflect.InvocationTargetException;
import java.lang.reflect.Method;
import java.lang.reflect.Modifier;
import java.util.Arrays;
import java.util.Comparator;
import java.util.HashSet;
import java.util.Set;

/**
 * What the tests of single sentences share. Each test is one method without arguments that begins
 * with of(..): which promise and which sentence of the document it is for. What is refused is
 * asked on objects of every kind beside a twin that isn't asked: behind it both must answer alike.
 */
abstract class Sentences extends Telling {
    interface Call {
        long on(PactYears x);
    }

    interface CallWith {
        long on(PactYears x, int argument);
    }

    enum Kind { NEW, SOME, FULL, FREE, FETCHED }

    static final Set<Integer> PROMISES = new HashSet<>();
    static final StringBuilder NOT_IN_DOCUMENT = new StringBuilder();
    static int tests = 0;
    static int answers = 0;
    static int wrong = 0;
    private static String document = "";
    private static String told = "";
    private static int sentences = 0;

    static void read(String text) {
        document = text.replaceAll("\\s+", " ");
    }

    static boolean isRead() {
        return !document.isEmpty();
    }

    /** Promise 0: what it is, and what stands there for all of them. */
    static void of(int promise, String sentence) {
        sentences++;
        PROMISES.add(promise);
        told = "promise " + promise + ", \"" + sentence + "\": ";
        if (!document.contains(sentence.replaceAll("\\s+", " "))) {
            NOT_IN_DOCUMENT.append(told).append('\n');
        }
    }

    static void due(String what, long got, long want) {
        answers++;
        if (got != want) {
            wrong++;
            System.out.println(told + what + " answered " + got + ", due is " + want);
        }
    }

    static void due(String what, boolean got, boolean want) {
        due(what, got ? 1 : 0, want ? 1 : 0);
    }

    /** All tests of a class; each must tell just one sentence. */
    static void runAll(Class<?> one) {
        Method[] methods = one.getDeclaredMethods();
        Arrays.sort(methods, Comparator.comparing(Method::getName));
        for (Method method : methods) {
            boolean isTest = method.getParameterCount() == 0 && method.getReturnType() == void.class
                    && Modifier.isStatic(method.getModifiers()) && !method.isSynthetic();
            if (!isTest) {
                continue;
            }
            sentences = 0;
            told = method.getName() + ": ";
            try {
                method.invoke(null);
            } catch (InvocationTargetException thrown) {
                wrong++;
                System.out.println(told + "threw " + thrown.getCause());
            } catch (IllegalAccessException refused) {
                throw new IllegalStateException(refused);
            }
            tests++;
            if (sentences != 1) {
                wrong++;
                System.out.println(method.getName() + " is for " + sentences + " sentences");
            }
        }
    }

    // ---- objects of every kind

    /** 240 bytes, 16 RULES: the last one, to its last byte, takes 36 DAYS; the others never hold. */
    static String longestLaw() {
        return repeat("d1(99999=0)", 15, ";") + ";d10" + repeat("+1", 26, "") + "(1=1)";
    }

    static final String TWENTY = "2(a,b,c)|d&e&!f|g&!h";

    static PactYears made(Kind kind) {
        PactYears x = new PactYears();
        if (kind == Kind.NEW) {
            return x;
        }
        boolean isFull = kind == Kind.FULL || kind == Kind.FETCHED;
        String[] wishes = {"a&b", "!a", "c|d", "2(a,d,e)", "e^f", "!c|g", "h", "1"};
        String[] clauses = {"1", "!(a&j)", "a|!a", "!i|h", "1|b", "!(i&j)", "a|1", "d|!d"};
        x.fact(1, true);
        for (int k = 0; k < 8; k++) {
            if (isFull || k == 0 || k == 2 || k == 5) {
                wish(x, k, wishes[k]);
                clause(x, k, clauses[k]);
            }
        }
        law(x, "d5*c+1(1=1);g7(c>0);x(n=7)" + (isFull ? repeat(";x(1=0)", 13, "") : ""));
        x.price(0, 0);
        x.price(9, 99);
        x.copy();
        clause(x, 5, "!(a&f)");
        x.wished(0);
        if (kind == Kind.FREE) {
            x.keep();
            wish(x, 7, "0");
            x.wished(7);
        }
        if (isFull) {
            x.keep();
            x.wished(2);
            x.days(kind == Kind.FULL ? 100 : 8640);
        }
        feed(x, isFull ? longestLaw() + TWENTY : TWENTY);
        return x;
    }

    /** What an object answers: all that can be seen without asking, then what it KEPT and its tape. */
    static int[] observed(PactYears x) {
        int[] seen = new int[400];
        int at = standing(x, seen, 0);
        for (int what = 0; what <= 5; what++) {
            seen[at++] = x.fits(what);
        }
        for (int what = 0; what <= 2; what++) {
            seen[at++] = x.compare(what);
        }
        at = wishesOf(x, seen, at);
        seen[at++] = x.undo() ? 1 : 0;
        at = standing(x, seen, at);
        at = wishesOf(x, seen, at);
        int bytes = x.count(8);
        seen[at++] = bytes >= 240 ? x.law(240) : x.wish(7, 20);
        wishesOf(x, seen, at);
        return seen;
    }

    private static int standing(PactYears x, int[] seen, int from) {
        int at = from;
        for (int what = 0; what <= 29; what++) {
            seen[at++] = x.count(what);
        }
        return at;
    }

    private static int wishesOf(PactYears x, int[] seen, int from) {
        int at = from;
        for (int k = 0; k < 8; k++) {
            for (int what = 0; what <= 4; what++) {
                seen[at++] = x.wishIs(k, what);
            }
            seen[at++] = x.tried(k, 0);
            seen[at++] = x.tried(k, 1);
            seen[at++] = x.tried(k, 4);
        }
        return at;
    }

    static void same(String what, PactYears one, PactYears twin) {
        int[] seen = observed(one);
        int[] wanted = observed(twin);
        answers++;
        for (int i = 0; i < seen.length; i++) {
            if (seen[i] != wanted[i]) {
                wrong++;
                System.out.println(told + what + ": the " + i + "th look behind it saw " + seen[i] + ", due is " + wanted[i]);
                return;
            }
        }
    }

    // ---- what is refused

    static void refusedBy(Kind kind, String what, long want, Call call) {
        PactYears one = made(kind);
        due(what + " (" + kind + ")", call.on(one), want);
        same(what + " (" + kind + ")", one, made(kind));
    }

    static void refused(String what, long want, Call call) {
        for (Kind kind : Kind.values()) {
            refusedBy(kind, what, want, call);
        }
    }

    static void none(String what, Call call) {
        refused(what, -1, call);
    }

    static void noneFor(String what, int[] arguments, CallWith call) {
        for (int argument : arguments) {
            none(what + " " + argument, x -> call.on(x, argument));
        }
    }

    /** The first ones beyond both bounds, far ones, and those that shifts or sums would wrap into them. */
    static int[] outside(int least, int most) {
        return new int[] {least - 1, most + 1, least - 2, most + 2, least + 32, least + 256, least - 256, 65536 + least,
            Integer.MIN_VALUE, Integer.MIN_VALUE + most + 1, Integer.MAX_VALUE};
    }

    /** For bounds that are far from one another. */
    static int[] farOutside(int least, int most) {
        return new int[] {least - 1, most + 1, -least - 2, -most, most + 256, 65536 + most, Integer.MIN_VALUE,
            Integer.MIN_VALUE + most, Integer.MAX_VALUE};
    }

    /** No FACTS (bits). */
    static int[] noFacts() {
        return new int[] {-1, 1024, 1025, 2047, -1024, 1 << 16, Integer.MIN_VALUE, Integer.MIN_VALUE + 1, Integer.MAX_VALUE};
    }
}
