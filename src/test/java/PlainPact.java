import java.util.ArrayList;
import java.util.Arrays;
import java.util.List;

/** The document's calls in their plainest form: STATE by STATE, row by row, without a thought for speed. */
final class PlainPact {
    private static final class At implements Cloneable {
        int state;
        int day;
        int sins;
        int granted;
        int spent;
        boolean free;

        At twin() {
            At twin = new At();
            twin.state = state;
            twin.day = day;
            twin.sins = sins;
            twin.granted = granted;
            twin.spent = spent;
            twin.free = free;
            return twin;
        }
    }

    private At at = new At();
    private At kept;
    private final int[] prices = {1, 1, 1, 1, 1, 1, 1, 1, 1, 1};
    private String tape = "";
    private String law = "";
    private int rules;
    private final boolean[][] wishes = new boolean[8][];
    private final boolean[][] clauses = new boolean[8][];
    private boolean[] other;

    PlainPact() {
        other = new boolean[1024];
        Arrays.fill(other, true);
    }

    private static boolean in(int x, int least, int most) {
        return x >= least && x <= most;
    }

    private static int size(boolean[] states) {
        int size = 0;
        for (boolean is : states) {
            size += is ? 1 : 0;
        }
        return size;
    }

    private boolean fit(int state) {
        return fit(state, 255);
    }

    private boolean fit(int state, int which) {
        for (int k = 0; k < 8; k++) {
            if (clauses[k] != null && (which >> k & 1) == 1 && !clauses[k][state]) {
                return false;
            }
        }
        return true;
    }

    private boolean told(int k) {
        return in(k, 0, 7) && wishes[k] != null;
    }

    private boolean allTold(int bits) {
        for (int k = 0; k < 32; k++) {
            if ((bits >> k & 1) == 1 && !told(k)) {
                return false;
            }
        }
        return true;
    }

    private static int bits(boolean[][] book) {
        int bits = 0;
        for (int k = 0; k < 8; k++) {
            bits |= book[k] != null ? 1 << k : 0;
        }
        return bits;
    }

    private int pricesOf(int facts) {
        int sum = 0;
        for (int i = 0; i < 10; i++) {
            sum += (facts >> i & 1) * prices[i];
        }
        return sum;
    }

    boolean fact(int i, boolean is) {
        if (!in(i, 0, 9)) {
            return false;
        }
        at.state = at.state & ~(1 << i) | (is ? 1 << i : 0);
        return true;
    }

    boolean price(int i, int days) {
        if (!in(i, 0, 9) || !in(days, 0, 99)) {
            return false;
        }
        prices[i] = days;
        return true;
    }

    int feed(int a, int b, int c, int d, int e) {
        if (tape.length() > 240) {
            return -1;
        }
        StringBuilder more = new StringBuilder(tape);
        for (int four : new int[] {a, b, c, d, e}) {
            more.append((char) (four >>> 24)).append((char) (four >>> 16 & 255));
            more.append((char) (four >>> 8 & 255)).append((char) (four & 255));
        }
        tape = more.toString();
        return tape.length();
    }

    int law(int n) {
        if (!in(n, 1, 240) || tape.length() < n) {
            return -1;
        }
        String text = tape.substring(0, n);
        tape = "";
        int answer = PlainTexts.law(text);
        if (answer > 0) {
            law = text;
            rules = answer;
        }
        return answer;
    }

    private int tell(boolean[][] book, int k, int n) {
        if (!in(k, 0, 7) || !in(n, 1, 100) || tape.length() < n) {
            return -1;
        }
        String text = tape.substring(0, n);
        tape = "";
        int fault = PlainTexts.formulaFault(text);
        if (fault != 0) {
            return fault;
        }
        book[k] = new boolean[1024];
        for (int s = 0; s < 1024; s++) {
            book[k][s] = PlainTexts.holds(text, s);
        }
        return size(book[k]);
    }

    int wish(int k, int n) {
        int answer = tell(wishes, k, n);
        if (answer >= 0) {
            at.spent &= ~(1 << k);
        }
        return answer;
    }

    int clause(int k, int n) {
        return tell(clauses, k, n);
    }

    boolean drop(int k) {
        if (!in(k, 0, 7) || clauses[k] == null) {
            return false;
        }
        clauses[k] = null;
        return true;
    }

    /** The answer, THE STATE then, changes, PRICES, SINS; what is granted is done in at. */
    private int[] wished(At at, int k) {
        int ahead = at.state;
        if (at.free || at.day == 8640) {
            return new int[] {-5, ahead, 0, 0, 0};
        }
        if ((at.spent >> k & 1) == 1) {
            return new int[] {-4, ahead, 0, 0, 0};
        }
        int best = -1;
        for (int s = 0; s < 1024; s++) {
            if (fit(s) && wishes[k][s] && (best < 0 || nearer(s ^ ahead, best ^ ahead))) {
                best = s;
            }
        }
        if (best < 0) {
            at.free = true;
            return new int[] {-2, ahead, 0, 0, 0};
        }
        int changes = Integer.bitCount(best ^ ahead);
        int paid = pricesOf(best ^ ahead);
        int[] values = {k, changes, paid, Integer.bitCount(ahead), at.granted, at.day / 360, at.day % 360 / 30, at.sins};
        if (PlainTexts.worth(law, 'x', values) != null) {
            return new int[] {-3, ahead, 0, 0, 0};
        }
        Integer d = PlainTexts.worth(law, 'd', values);
        Integer g = PlainTexts.worth(law, 'g', values);
        int days = d == null || d < 0 ? 0 : d > 999 ? 999 : d;
        int sins = g == null || g < 0 ? 0 : g > 99 ? 99 : g;
        at.state = best;
        at.day = Math.min(8640, at.day + days);
        at.sins = Math.min(9999, at.sins + sins);
        at.granted++;
        at.spent |= 1 << k;
        return new int[] {days, best, changes, paid, sins};
    }

    private boolean nearer(int one, int two) {
        int byPrice = pricesOf(one) - pricesOf(two);
        int byMany = Integer.bitCount(one) - Integer.bitCount(two);
        return byPrice < 0 || byPrice == 0 && byMany < 0;
    }

    int wished(int k) {
        return told(k) ? wished(at, k)[0] : -1;
    }

    int tried(int k, int what) {
        return told(k) && in(what, 0, 4) ? wished(at.twin(), k)[what] : -1;
    }

    int days(int n) {
        if (!in(n, 1, 8640)) {
            return -1;
        }
        at.day = Math.min(8640, at.day + n);
        return at.day;
    }

    private List<Integer> fitting() {
        List<Integer> states = new ArrayList<>();
        for (int s = 0; s < 1024; s++) {
            if (fit(s)) {
                states.add(s);
            }
        }
        return states;
    }

    private static int allOf(List<Integer> states) {
        int bits = 1023;
        for (int s : states) {
            bits &= s;
        }
        return bits;
    }

    private static int noneOf(List<Integer> states) {
        int bits = 1023;
        for (int s : states) {
            bits &= ~s;
        }
        return bits;
    }

    int fits(int what) {
        List<Integer> states = fitting();
        if (what == 0) {
            return states.size();
        }
        if (what == 5) {
            return fit(at.state) ? 1 : 0;
        }
        if (!in(what, 1, 4)) {
            return -1;
        }
        if (states.isEmpty()) {
            return -2;
        }
        return what == 1 ? states.get(0) : what == 2 ? states.get(states.size() - 1)
                : what == 3 ? allOf(states) : noneOf(states);
    }

    int wishIs(int k, int what) {
        if (!told(k) || !in(what, 0, 4)) {
            return -1;
        }
        if (what == 1) {
            return wishes[k][at.state] ? 1 : 0;
        }
        if (what == 2) {
            return at.spent >> k & 1;
        }
        int many = 0;
        for (int s : fitting()) {
            many += wishes[k][s] ? 1 : 0;
        }
        if (what == 0) {
            return many;
        }
        int on = 0;
        int falls = 0;
        for (int i = 0; i < 10; i++) {
            for (int s = 0; s < 1024; s++) {
                if (wishes[k][s] != wishes[k][s ^ 1 << i]) {
                    on |= 1 << i;
                    if ((s >> i & 1) == 0 && wishes[k][s]) {
                        falls |= 1 << i;
                    }
                }
            }
        }
        return what == 3 ? on : on & ~falls;
    }

    int why(int k, int what) {
        if (!told(k) || !in(what, 0, 1)) {
            return -1;
        }
        for (int many = 0; many <= 8; many++) {
            for (int bits = 0; bits < 256; bits++) {
                if (Integer.bitCount(bits) == many && (bits & ~bits(clauses)) == 0) {
                    boolean can = false;
                    for (int s = 0; s < 1024; s++) {
                        can |= wishes[k][s] && fit(s, bits);
                    }
                    if (!can) {
                        return what == 0 ? many : bits;
                    }
                }
            }
        }
        return -2;
    }

    int joke(int what) {
        if (!in(what, 0, 1)) {
            return -1;
        }
        int which = -2;
        int most = -1;
        for (int k = 0; k < 8; k++) {
            if (clauses[k] != null) {
                int more = 0;
                for (int s = 0; s < 1024; s++) {
                    more += !fit(s) && fit(s, 255 & ~(1 << k)) ? 1 : 0;
                }
                if (more > most) {
                    most = more;
                    which = k;
                }
            }
        }
        return what == 0 ? which : Math.max(0, most);
    }

    int freeing() {
        int bits = 0;
        for (int k = 0; k < 8; k++) {
            if (told(k) && wishIs(k, 0) == 0) {
                bits |= 1 << k;
            }
        }
        return bits;
    }

    private static void rows(List<Integer> from, List<Integer> row, int places, List<List<Integer>> all) {
        if (row.size() == places) {
            all.add(new ArrayList<>(row));
            return;
        }
        for (int one : from) {
            if (!row.contains(one)) {
                row.add(one);
                rows(from, row, places, all);
                row.remove(row.size() - 1);
            }
        }
    }

    private static List<List<Integer>> rows(int bits, int places) {
        List<Integer> from = new ArrayList<>();
        for (int k = 0; k < 10; k++) {
            if ((bits >> k & 1) == 1) {
                from.add(k);
            }
        }
        List<List<Integer>> all = new ArrayList<>();
        rows(from, new ArrayList<>(), places, all);
        return all;
    }

    int inOrder(int wishes, int what) {
        int places = Integer.bitCount(wishes);
        if (!allTold(wishes) || !in(places, 1, 5) || what != 20 && !in(what, 0, places - 1)) {
            return -1;
        }
        int least = Integer.MAX_VALUE;
        List<Integer> best = null;
        for (List<Integer> row : rows(wishes, places)) {
            At trial = at.twin();
            int days = 0;
            boolean can = true;
            for (int k : row) {
                int took = can ? wished(trial, k)[0] : -1;
                can &= took >= 0;
                days += took;
            }
            if (can && days < least) {
                least = days;
                best = row;
            }
        }
        return best == null ? -2 : what == 20 ? least : best.get(what);
    }

    int byWishes(int k, int what) {
        if (!told(k) || what != 20 && !in(what, 0, 3)) {
            return -1;
        }
        for (int places = 0; places <= 4; places++) {
            for (List<Integer> row : rows(bits(wishes) & ~(1 << k), places)) {
                At trial = at.twin();
                boolean can = true;
                for (int j : row) {
                    can = can && wished(trial, j)[0] >= 0;
                }
                if (can && wishes[k][trial.state]) {
                    return what == 20 ? places : what < places ? row.get(what) : -4;
                }
            }
        }
        return -2;
    }

    int follows(int k, int j, int what) {
        if (!told(k) || !told(j) || !in(what, 0, 2)) {
            return -1;
        }
        boolean follows = true;
        int apart = 0;
        for (int s : fitting()) {
            follows &= !wishes[k][s] || wishes[j][s];
            apart += wishes[k][s] != wishes[j][s] ? 1 : 0;
        }
        return what == 0 ? (follows ? 1 : 0) : what == 1 ? (apart == 0 ? 1 : 0) : apart;
    }

    int word(int k, int what) {
        if (!told(k) || !in(what, 0, 2)) {
            return -1;
        }
        for (int many = 0; many <= 10; many++) {
            for (int facts = 0; facts < 1024; facts++) {
                if (Integer.bitCount(facts) == many) {
                    boolean[] fails = new boolean[1024];
                    for (int s = 0; s < 1024; s++) {
                        fails[s & facts] |= !wishes[k][s];
                    }
                    for (int so = 0; so < 1024; so++) {
                        if ((so & ~facts) == 0 && !fails[so]) {
                            return what == 0 ? many : what == 1 ? facts : so;
                        }
                    }
                }
            }
        }
        return -2;
    }

    int power(int k, int i) {
        if (!told(k) || !in(i, 0, 9)) {
            return -1;
        }
        int many = 0;
        for (int s = 0; s < 1024; s++) {
            many += wishes[k][s] != wishes[k][s ^ 1 << i] ? 1 : 0;
        }
        return many;
    }

    int like(int k, int i) {
        if (!told(k) || !in(i, 0, 9)) {
            return -1;
        }
        int bits = 0;
        for (int j = 0; j < 10; j++) {
            boolean same = j != i;
            for (int s = 0; s < 1024; s++) {
                int one = s >> i & 1;
                int two = s >> j & 1;
                int moved = s & ~(1 << i) & ~(1 << j) | two << i | one << j;
                same &= wishes[k][s] == wishes[k][moved];
            }
            bits |= same ? 1 << j : 0;
        }
        return bits;
    }

    int ladder(int k, int what) {
        if (!told(k) || !in(what, 0, 1)) {
            return -1;
        }
        int steps = stepsFrom(at.state, k);
        if (steps < 0) {
            return -2;
        }
        if (what == 0) {
            return steps;
        }
        for (int i = 0; i < 10 && steps > 0; i++) {
            if (stepsFrom(at.state ^ 1 << i, k) == steps - 1) {
                return i;
            }
        }
        return -3;
    }

    private int stepsFrom(int from, int k) {
        int[] steps = new int[1024];
        Arrays.fill(steps, -1);
        List<Integer> queue = new ArrayList<>();
        if (fit(from)) {
            steps[from] = 0;
            queue.add(from);
        }
        for (int q = 0; q < queue.size(); q++) {
            int s = queue.get(q);
            if (wishes[k][s]) {
                return steps[s];
            }
            for (int i = 0; i < 10; i++) {
                int next = s ^ 1 << i;
                if (fit(next) && steps[next] < 0) {
                    steps[next] = steps[s] + 1;
                    queue.add(next);
                }
            }
        }
        return -1;
    }

    long likely(int k, int what) {
        if (!told(k) || !in(what, 0, 1) || tape.length() < 10) {
            return -1;
        }
        String tenths = tape.substring(0, 10);
        tape = "";
        java.math.BigInteger above = java.math.BigInteger.ZERO;
        for (int s = 0; s < 1024; s++) {
            long weight = 1;
            for (int i = 0; i < 10; i++) {
                if (tenths.charAt(i) > 10) {
                    return -2;
                }
                weight *= (s >> i & 1) == 1 ? tenths.charAt(i) : 10 - tenths.charAt(i);
            }
            if (wishes[k][s]) {
                above = above.add(java.math.BigInteger.valueOf(weight));
            }
        }
        java.math.BigInteger below = java.math.BigInteger.TEN.pow(10);
        java.math.BigInteger common = above.gcd(below);
        return (what == 0 ? above : below).divide(common).longValueExact();
    }

    private List<Integer> asked(int facts, int so) {
        List<Integer> states = new ArrayList<>();
        for (int s : fitting()) {
            if ((s & facts) == (so & facts)) {
                states.add(s);
            }
        }
        return states;
    }

    private static List<Integer> part(List<Integer> states, int i, int is) {
        List<Integer> part = new ArrayList<>();
        for (int s : states) {
            if ((s >> i & 1) == is) {
                part.add(s);
            }
        }
        return part;
    }

    private static int toAsk(List<Integer> states, int facts) {
        int best = -2;
        int least = states.size();
        for (int i = 0; i < 10; i++) {
            int greater = Math.max(part(states, i, 0).size(), part(states, i, 1).size());
            if ((facts >> i & 1) == 0 && greater < least) {
                least = greater;
                best = i;
            }
        }
        return best;
    }

    int asked(int facts, int so, int what) {
        if (!in(facts, 0, 1023) || !in(so, 0, 1023) || !in(what, 0, 4)) {
            return -1;
        }
        List<Integer> states = asked(facts, so);
        switch (what) {
            case 0:
                return states.size();
            case 1:
                return states.isEmpty() ? -2 : states.get(0);
            case 2:
                return states.isEmpty() ? 0 : allOf(states) & ~facts;
            case 3:
                return states.isEmpty() ? 0 : noneOf(states) & ~facts;
            default:
                return toAsk(states, facts);
        }
    }

    int questions(int facts, int so, int n) {
        if (!in(facts, 0, 1023) || !in(so, 0, 1023) || !in(n, 0, 10)) {
            return -1;
        }
        List<Integer> states = asked(facts, so);
        int known = facts;
        for (int turn = 0; turn < n && toAsk(states, known) >= 0; turn++) {
            int i = toAsk(states, known);
            List<Integer> without = part(states, i, 0);
            List<Integer> with = part(states, i, 1);
            states = with.size() > without.size() ? with : without;
            known |= 1 << i;
        }
        return states.size();
    }

    int copy() {
        for (int s = 0; s < 1024; s++) {
            other[s] = fit(s);
        }
        return size(other);
    }

    int compare(int what) {
        int[] many = new int[3];
        for (int s = 0; s < 1024; s++) {
            many[0] += fit(s) && !other[s] ? 1 : 0;
            many[1] += !fit(s) && other[s] ? 1 : 0;
            many[2] += fit(s) && other[s] ? 1 : 0;
        }
        return in(what, 0, 2) ? many[what] : -1;
    }

    int dead(int n, int what) {
        if (!in(n, 1, 8) || tape.length() < 2 * n) {
            return -1;
        }
        int[] states = new int[n];
        boolean above = false;
        for (int i = 0; i < n; i++) {
            states[i] = tape.charAt(2 * i) * 256 + tape.charAt(2 * i + 1);
            above |= states[i] > 1023;
        }
        tape = "";
        if (above) {
            return -2;
        }
        if (what != 10 && !in(what, 0, n - 1)) {
            return -4;
        }
        int least = Integer.MAX_VALUE;
        List<Integer> best = null;
        for (List<Integer> row : rows((1 << n) - 1, n)) {
            int paid = 0;
            int from = at.state;
            for (int i : row) {
                paid += pricesOf(from ^ states[i]);
                from = states[i];
            }
            if (paid < least) {
                least = paid;
                best = row;
            }
        }
        return what == 10 ? least : best.get(what);
    }

    int summer(int n) {
        if (!in(n, 1, 360) || at.free || at.day == 8640) {
            return -1;
        }
        int begun = 0;
        for (int day = 0; day < n; day += 30) {
            begun++;
        }
        int cost = begun * (in(at.day % 360, 150, 239) ? 20 : 10);
        at.sins = Math.min(9999, at.sins + cost);
        at.day = Math.max(0, at.day - n);
        return cost;
    }

    int hindered(int facts, int what) {
        if (!in(facts, 1, 1023) || !in(what, 0, 1)) {
            return -1;
        }
        int which = -1;
        int most = -1;
        for (int i = 0; i < 10; i++) {
            if ((facts >> i & 1) == 1) {
                int many = 0;
                for (int s : fitting()) {
                    many += fit(s ^ 1 << i) ? 0 : 1;
                }
                if (many > most) {
                    most = many;
                    which = i;
                }
            }
        }
        return what == 0 ? which : most;
    }

    int friends(int wishes, int what) {
        if (!allTold(wishes) || !in(Integer.bitCount(wishes), 2, 6) || !in(what, 0, 1)) {
            return -1;
        }
        for (int many = 1; many <= 6; many++) {
            for (int bits = 1; bits < 256; bits++) {
                if (Integer.bitCount(bits) == many && (bits & ~wishes) == 0 && !together(bits)) {
                    return what == 0 ? many : bits;
                }
            }
        }
        return -2;
    }

    private boolean together(int bits) {
        for (int s : fitting()) {
            boolean all = true;
            for (int k = 0; k < 8; k++) {
                all &= (bits >> k & 1) == 0 || wishes[k][s];
            }
            if (all) {
                return true;
            }
        }
        return false;
    }

    int keep() {
        kept = at.twin();
        return at.day;
    }

    boolean undo() {
        if (kept == null) {
            return false;
        }
        at = kept.twin();
        return true;
    }

    int check(int n) {
        if (!in(n, 0, 10) || tape.length() < n) {
            return -2;
        }
        String told = tape;
        tape = "";
        for (int i = 0; i < n; i++) {
            if (told.charAt(i) != (at.state >> i & 1)) {
                return i;
            }
        }
        return -1;
    }

    int count(int what) {
        if (in(what, 20, 29)) {
            return prices[what - 20];
        }
        int[] counts = {at.state, at.day, at.sins, at.granted, bits(wishes), bits(clauses), at.spent, rules,
            tape.length(), at.free ? 1 : at.day == 8640 ? 2 : 0};
        return in(what, 0, 9) ? counts[what] : -1;
    }
}
