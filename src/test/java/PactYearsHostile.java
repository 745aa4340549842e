import java.lang.reflect.InvocationTargetException;
import java.lang.reflect.Method;
import java.util.ArrayList;
import java.util.Arrays;
import java.util.List;

/**
 * Every call with every mixture of wild arguments, in several STATES of the object: none may throw,
 * and one that is refused may change nothing.
 */
public final class PactYearsHostile {
    private static final int[] WILD = {Integer.MIN_VALUE, Integer.MIN_VALUE + 20, -1000, -33, -2, -1, 0, 1, 2, 3, 4, 5, 7, 8, 9,
        10, 11, 12, 19, 20, 21, 29, 30, 31, 32, 63, 64, 100, 101, 240, 241, 255, 256, 260, 261, 360, 361, 1023, 1024, 8640,
        8641, 65536, Integer.MAX_VALUE - 20, Integer.MAX_VALUE};
    private static final int[] FEW = {Integer.MIN_VALUE, -1, 0, 1, 3, 7, 8, 9, 10, 20, 1023, 1024, Integer.MAX_VALUE};
    private static int calls = 0;
    private static int wrong = 0;

    private PactYearsHostile() {
    }

    public static void main(String[] args) {
        for (int kind = 0; kind < 6; kind++) {
            for (Method method : PactYears.class.getDeclaredMethods()) {
                if (java.lang.reflect.Modifier.isPublic(method.getModifiers())) {
                    allMixtures(kind, method);
                }
            }
        }
        System.out.println("Hostile: " + calls + " calls, " + wrong + " wrong");
        if (wrong != 0) {
            System.exit(1);
        }
    }

    private static void feed(PactYears x, String text) {
        for (int from = 0; from < text.length(); from += 20) {
            int[] fives = new int[5];
            for (int i = 0; i < 20; i++) {
                fives[i / 4] = fives[i / 4] << 8 | (from + i < text.length() ? text.charAt(from + i) : 0);
            }
            x.feed(fives[0], fives[1], fives[2], fives[3], fives[4]);
        }
    }

    private static PactYears made(int kind) {
        PactYears x = new PactYears();
        String[] wishes = {"a", "b&!c", "2(a,d,j)", "0", "1", "e^f^g", "!a|h", "i&j"};
        for (int k = 0; k < 8 && kind > 0; k++) {
            feed(x, wishes[k]);
            x.wish(k, wishes[k].length());
        }
        String[] clauses = {"!a|b", "!(c&d)", "1", kind == 4 ? "0" : "!j|i"};
        for (int k = 0; k < 4 && kind > 1; k++) {
            feed(x, clauses[k]);
            x.clause(2 * k, clauses[k].length());
        }
        if (kind > 1) {
            String law = "d5*c+y/m(1=1);gn%z+3(w<6|1/0=1);x(c>4&w*w*w>0)";
            feed(x, law);
            x.law(law.length());
            x.price(3, 99);
            x.price(5, 0);
            x.wished(0);
        }
        if (kind == 3) {
            x.keep();
            x.wished(3);
        }
        if (kind == 5) {
            x.days(8640);
        }
        if (kind % 2 == 1) {
            feed(x, "\0\1\0\0\0\1\1\0\0\0\1\2\0\3\0\3");
        }
        return x;
    }

    private static String seen(PactYears x) {
        StringBuilder seen = new StringBuilder();
        for (int what = 0; what < 30; what += what == 9 ? 11 : 1) {
            seen.append(x.count(what)).append(' ');
        }
        for (int k = 0; k < 8; k++) {
            seen.append(x.wishIs(k, 0)).append(' ');
        }
        return seen.append(x.fits(0)).append(' ').append(x.compare(2)).toString();
    }

    private static void allMixtures(int kind, Method method) {
        Class<?>[] types = method.getParameterTypes();
        List<Object[]> all = new ArrayList<>();
        all.add(new Object[types.length]);
        for (int place = 0; place < types.length; place++) {
            List<Object[]> more = new ArrayList<>();
            for (Object[] one : all) {
                if (types[place] == boolean.class) {
                    for (boolean is : new boolean[] {false, true}) {
                        more.add(with(one, place, is));
                    }
                } else if (method.getName().equals("feed")) {
                    more.add(with(one, place, WILD[place * 7]));
                } else {
                    for (int wild : types.length > 2 ? FEW : WILD) {
                        more.add(with(one, place, wild));
                    }
                }
            }
            all = more;
        }
        PactYears x = made(kind);
        String before = seen(x);
        int turn = 0;
        for (Object[] one : all) {
            turn++;
            Object answer = call(x, method, one);
            boolean refused = Boolean.FALSE.equals(answer)
                    || !method.getName().equals("check") && (Integer.valueOf(-1).equals(answer) || Long.valueOf(-1).equals(answer));
            String after = seen(x);
            if (refused && !after.equals(before)) {
                tell(kind, method, one, "was refused and changed something");
            }
            // an object is promised for 512 calls, and seen() takes some 30
            if (!after.equals(before) || turn % 12 == 0) {
                x = made(kind);
            }
        }
    }

    private static Object[] with(Object[] one, int place, Object value) {
        Object[] more = Arrays.copyOf(one, one.length);
        more[place] = value;
        return more;
    }

    private static Object call(PactYears x, Method method, Object[] arguments) {
        calls++;
        try {
            return method.invoke(x, arguments);
        } catch (InvocationTargetException thrown) {
            tell(kind(x), method, arguments, "threw " + thrown.getCause());
            return null;
        } catch (IllegalAccessException refused) {
            throw new IllegalStateException(refused);
        }
    }

    private static int kind(PactYears x) {
        return x.count(9);
    }

    private static void tell(int kind, Method method, Object[] arguments, String what) {
        wrong++;
        System.out.println("kind " + kind + ": " + method.getName() + Arrays.toString(arguments) + " " + what);
    }
}
