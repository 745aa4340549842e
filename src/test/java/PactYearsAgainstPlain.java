import java.util.Random;

/**
 * Runs of chance calls (the same ones each time) on the program and on PlainPact: all answers must
 * be alike. A run keeps to the 512 calls that an object is promised for. The first argument, if
 * there is one, tells how many runs; the second the first seed.
 */
public final class PactYearsAgainstPlain {
    private static final String WISH_SIGNS = "abcdefghij01234567890!()&|^,, xw";
    private static final String LAW_SIGNS = "dgx()[]!&|<>=+-*/%wcpsnymz0123456789; a";
    private static int wrong = 0;
    private static int calls = 0;

    private final Random random;
    private final long seed;
    private final PactYears x = new PactYears();
    private final PlainPact plain = new PlainPact();
    private String lastText = "";
    private int made;
    private int letters = 10;
    private boolean isPlain;

    private PactYearsAgainstPlain(long seed) {
        this.seed = seed;
        this.random = new Random(seed);
    }

    public static void main(String[] args) {
        int runs = args.length > 0 ? Integer.parseInt(args[0]) : 60;
        long first = args.length > 1 ? Long.parseLong(args[1]) : 1;
        for (long seed = first; seed < first + runs && wrong < 20; seed++) {
            new PactYearsAgainstPlain(seed).run();
        }
        System.out.println("AgainstPlain: " + calls + " calls, " + wrong + " answers are not alike");
        if (wrong != 0) {
            System.exit(1);
        }
    }

    private void run() {
        int before = wrong;
        int quiet = random.nextInt(3);
        letters = 3 + random.nextInt(8);
        isPlain = random.nextBoolean();
        for (int turn = random.nextInt(12); turn > 0; turn--) {
            tellWish();
        }
        for (int turn = random.nextInt(8); turn > 0; turn--) {
            tellClause();
        }
        if (random.nextBoolean()) {
            tellLaw();
        }
        due("keep()", x.keep(), plain.keep());
        for (int turn = 0; turn < 160 && made < 480 && wrong == before; turn++) {
            oneCall(quiet);
            if (plain.count(9) != 0 && random.nextInt(3) == 0) {
                due("undo()", one(x.undo()), one(plain.undo()));
            }
            int what = random.nextInt(10);
            due("count(" + what + ")", x.count(what), plain.count(what));
            due("count(0)", x.count(0), plain.count(0));
        }
    }

    private void due(String call, long got, long want) {
        calls++;
        made++;
        if (got != want) {
            wrong++;
            System.out.println("seed " + seed + ": " + call + " answered " + got + ", due is " + want
                    + " (the last text: " + lastText + ")");
        }
    }

    private static long one(boolean is) {
        return is ? 1 : 0;
    }

    private int upTo(int n) {
        return random.nextInt(n + 1);
    }

    private int wishOne() {
        return random.nextInt(25) == 0 ? random.nextInt(14) - 3 : random.nextInt(8);
    }

    private int toldWish() {
        int told = plain.count(4);
        for (int turn = 0; turn < 20 && told != 0; turn++) {
            int k = random.nextInt(8);
            if ((told >> k & 1) == 1) {
                return k;
            }
        }
        return wishOne();
    }

    private int fact() {
        return random.nextInt(25) == 0 ? random.nextInt(20) - 5 : random.nextInt(10);
    }

    private int what(int most) {
        return random.nextInt(20) == 0 ? random.nextInt(most + 6) - 3 : upTo(most);
    }

    private int facts() {
        int bits = random.nextInt(1024);
        if (random.nextBoolean()) {
            bits &= random.nextInt(1024);
        }
        return random.nextInt(30) == 0 ? random.nextInt() : bits;
    }

    private int place(int most, int all) {
        return random.nextInt(4) == 0 ? all : what(most);
    }

    private void feedText(String text) {
        lastText = text;
        StringBuilder bytes = new StringBuilder(text);
        while (bytes.length() % 20 != 0 || bytes.length() == 0) {
            bytes.append((char) (random.nextBoolean() ? 'a' : random.nextInt(256)));
        }
        for (int from = 0; from < bytes.length(); from += 20) {
            int[] fives = new int[5];
            for (int i = 0; i < 20; i++) {
                fives[i / 4] = fives[i / 4] << 8 | bytes.charAt(from + i);
            }
            due("feed", x.feed(fives[0], fives[1], fives[2], fives[3], fives[4]),
                    plain.feed(fives[0], fives[1], fives[2], fives[3], fives[4]));
        }
    }

    private void emptyTape() {
        due("check(0)", x.check(0), plain.check(0));
    }

    // ---- texts

    private String spoilt(String text, String signs, int most) {
        StringBuilder spoilt = new StringBuilder(text);
        int times = 1 + random.nextInt(2);
        for (int i = 0; i < times; i++) {
            int place = random.nextInt(spoilt.length() + 1);
            char sign = signs.charAt(random.nextInt(signs.length()));
            if (random.nextBoolean() || place == spoilt.length()) {
                spoilt.insert(place, sign);
            } else if (random.nextBoolean() && spoilt.length() > 1) {
                spoilt.deleteCharAt(place);
            } else {
                spoilt.setCharAt(place, sign);
            }
        }
        return spoilt.length() > most ? spoilt.substring(0, most) : spoilt.toString();
    }

    private String formula(int depth) {
        StringBuilder text = new StringBuilder(piece(depth));
        while (random.nextInt(3) == 0) {
            text.append("&^|".charAt(random.nextInt(3))).append(piece(depth));
        }
        return text.toString();
    }

    private String piece(int depth) {
        int kind = random.nextInt(depth > 0 ? 12 : 7);
        if (kind == 0 && random.nextInt(4) == 0) {
            return random.nextBoolean() ? "0" : "1";
        }
        if (kind < 7) {
            return "" + (char) ('a' + random.nextInt(letters));
        }
        if (kind < 9) {
            return "!" + piece(depth - 1);
        }
        if (kind < 10) {
            return "(" + formula(depth - 1) + ")";
        }
        int many = 1 + random.nextInt(random.nextInt(4) == 0 ? 11 : 4);
        StringBuilder text = new StringBuilder();
        text.append((char) ('2' + random.nextInt(random.nextInt(3) == 0 ? 8 : 2))).append('(');
        for (int i = 0; i < many; i++) {
            text.append(i > 0 ? "," : "").append(random.nextInt(3) > 0 ? piece(0) : formula(depth - 1));
        }
        return text.append(')').toString();
    }

    /** Few FACTS that must be so or not: WISHES that get in one another's way. */
    private String fewFacts() {
        StringBuilder text = new StringBuilder();
        for (int turn = 1 + random.nextInt(3); turn > 0; turn--) {
            text.append(random.nextInt(3) == 0 ? "!" : "").append((char) ('a' + random.nextInt(letters)));
            text.append(turn > 1 ? "&" : "");
        }
        return text.toString();
    }

    private String anyFormula() {
        if (isPlain && random.nextInt(5) > 0) {
            return fewFacts();
        }
        String text = formula(random.nextInt(8));
        if (random.nextInt(7) == 0) {
            text = spoilt(text, WISH_SIGNS, 100);
        }
        return text.length() > 100 ? text.substring(0, 100) : text;
    }

    private String sum(int depth) {
        StringBuilder text = new StringBuilder(factor(depth));
        while (random.nextInt(5) < 2) {
            text.append("+-*/%".charAt(random.nextInt(5))).append(factor(depth));
        }
        return text.toString();
    }

    private String factor(int depth) {
        int kind = random.nextInt(depth > 0 ? 6 : 5);
        if (kind < 2) {
            return "" + random.nextInt(random.nextInt(6) == 0 ? 110000 : 12);
        }
        return kind < 5 ? "" + "wcpsnymz".charAt(random.nextInt(8)) : "[" + sum(depth - 1) + "]";
    }

    private String some(int depth) {
        StringBuilder text = new StringBuilder(test(depth));
        while (random.nextInt(3) == 0) {
            text.append(random.nextBoolean() ? '&' : '|').append(test(depth));
        }
        return text.toString();
    }

    private String test(int depth) {
        int kind = random.nextInt(depth > 0 ? 6 : 4);
        if (kind < 4) {
            return sum(depth) + "<>=".charAt(random.nextInt(3)) + sum(depth);
        }
        return kind == 4 ? "!" + test(depth - 1) : "(" + some(depth - 1) + ")";
    }

    private String anyLaw() {
        StringBuilder text = new StringBuilder();
        int rules = 1 + random.nextInt(random.nextInt(5) == 0 ? 18 : 6);
        boolean few = rules > 8;
        if (random.nextInt(3) == 0) {
            String[] rest = {"dp*3+c(n<3);", "d[w+3]*[s+1]%7+1(c>0);", "d9*c(s>1);gz/2+1(w>2);", "x(s=0&w=1|s>2&w=2);"};
            text.append(rest[random.nextInt(rest.length)]);
        }
        for (int i = 0; i < rules; i++) {
            int depth = few ? 0 : random.nextInt(7);
            String kind = random.nextInt(6) == 0 ? "x" : (random.nextBoolean() ? "d" : "g") + sum(depth);
            text.append(i > 0 ? ";" : "").append(kind).append('(');
            String[] tests = {"c>2", "s<2", "n=1", "p>5", "w=3&n=0", "z>40", "y>2|m=5"};
            boolean isShort = random.nextInt(3) == 0;
            text.append(isShort ? tests[random.nextInt(tests.length)] : few ? "1=1" : some(depth)).append(')');
        }
        String law = text.toString();
        if (random.nextInt(5) == 0) {
            law = spoilt(law, LAW_SIGNS, 240);
        }
        return law.length() > 240 ? law.substring(0, law.lastIndexOf(')', 239) + 1 > 0
                ? law.lastIndexOf(')', 239) + 1 : 240) : law;
    }

    private void tellWish() {
        String text = anyFormula();
        int k = wishOne();
        emptyTape();
        feedText(text);
        int n = random.nextInt(30) == 0 ? random.nextInt(110) - 4 : text.length();
        due("wish(" + k + ", " + n + ")", x.wish(k, n), plain.wish(k, n));
    }

    private void tellClause() {
        String text = anyFormula();
        if (isPlain && random.nextInt(8) > 0) {
            text = "!(" + fewFacts() + ")|" + fewFacts();
        } else if (random.nextBoolean()) {
            text = "!(" + text + ")|" + piece(1);
            text = text.length() > 100 ? text.substring(0, 100) : text;
        }
        int k = wishOne();
        emptyTape();
        feedText(text);
        int n = random.nextInt(30) == 0 ? random.nextInt(110) - 4 : text.length();
        due("clause(" + k + ", " + n + ")", x.clause(k, n), plain.clause(k, n));
    }

    private void tellLaw() {
        String text = anyLaw();
        emptyTape();
        feedText(text);
        int n = random.nextInt(30) == 0 ? random.nextInt(250) - 4 : text.length();
        due("law(" + n + ")", x.law(n), plain.law(n));
    }

    private void feedBytes(int many, int most) {
        StringBuilder bytes = new StringBuilder();
        for (int i = 0; i < many; i++) {
            bytes.append((char) random.nextInt(most));
        }
        if (random.nextInt(20) == 0) {
            bytes.setCharAt(random.nextInt(many), (char) random.nextInt(256));
        }
        if (random.nextInt(10) > 0) {
            emptyTape();
        }
        feedText(bytes.toString());
    }

    // ---- calls

    private void oneCall(int quiet) {
        int kind = random.nextInt(36);
        if (kind < 9) {
            tellOrDo(kind, quiet);
        } else if (kind < 22) {
            askOfWishes(kind);
        } else {
            askOthers(kind);
        }
    }

    private void tellOrDo(int kind, int quiet) {
        int k = wishOne();
        int i = fact();
        int n;
        switch (kind) {
            case 0:
                boolean is = random.nextBoolean();
                due("fact(" + i + ", " + is + ")", one(x.fact(i, is)), one(plain.fact(i, is)));
                break;
            case 1:
                n = random.nextInt(4) == 0 ? random.nextInt(106) - 3 : upTo(3);
                due("price(" + i + ", " + n + ")", one(x.price(i, n)), one(plain.price(i, n)));
                due("count price", x.count(20 + i), plain.count(20 + i));
                break;
            case 2:
                tellLaw();
                break;
            case 3:
            case 4:
                tellWish();
                break;
            case 5:
                tellClause();
                break;
            case 6:
                if (random.nextInt(3) <= quiet) {
                    due("drop(" + k + ")", one(x.drop(k)), one(plain.drop(k)));
                }
                break;
            case 7:
                k = random.nextInt(15) == 0 ? k : toldWish();
                due("wished(" + k + ")", x.wished(k), plain.wished(k));
                break;
            default:
                n = random.nextInt(20) == 0 ? random.nextInt(10000) - 600 : 1 + random.nextInt(200);
                due("days(" + n + ")", x.days(n), plain.days(n));
        }
    }

    private void askOfWishes(int kind) {
        int k = random.nextInt(15) == 0 ? wishOne() : toldWish();
        int j = random.nextInt(15) == 0 ? wishOne() : toldWish();
        int i = fact();
        int what;
        switch (kind) {
            case 9:
                what = what(4);
                due("tried(" + k + ", " + what + ")", x.tried(k, what), plain.tried(k, what));
                break;
            case 10:
                what = what(5);
                due("fits(" + what + ")", x.fits(what), plain.fits(what));
                break;
            case 11:
                what = what(4);
                due("wishIs(" + k + ", " + what + ")", x.wishIs(k, what), plain.wishIs(k, what));
                break;
            case 12:
                what = what(1);
                due("why(" + k + ", " + what + ")", x.why(k, what), plain.why(k, what));
                break;
            case 13:
                what = what(1);
                due("joke(" + what + ")", x.joke(what), plain.joke(what));
                due("freeing()", x.freeing(), plain.freeing());
                break;
            case 14:
                int some = plain.count(4) & (random.nextInt(3) == 0 ? random.nextInt() : random.nextInt(256) & random.nextInt(256));
                some |= random.nextInt(30) == 0 ? random.nextInt() : 0;
                what = place(4, 20);
                due("inOrder(" + some + ", " + what + ")", x.inOrder(some, what), plain.inOrder(some, what));
                break;
            case 15:
                what = place(3, 20);
                due("byWishes(" + k + ", " + what + ")", x.byWishes(k, what), plain.byWishes(k, what));
                break;
            case 16:
                what = what(2);
                due("follows(" + k + ", " + j + ", " + what + ")", x.follows(k, j, what), plain.follows(k, j, what));
                break;
            case 17:
                what = what(2);
                due("word(" + k + ", " + what + ")", x.word(k, what), plain.word(k, what));
                break;
            case 18:
                due("power(" + k + ", " + i + ")", x.power(k, i), plain.power(k, i));
                break;
            case 19:
                due("like(" + k + ", " + i + ")", x.like(k, i), plain.like(k, i));
                break;
            case 20:
                what = what(1);
                due("ladder(" + k + ", " + what + ")", x.ladder(k, what), plain.ladder(k, what));
                break;
            default:
                feedBytes(10, 11);
                what = what(1);
                due("likely(" + k + ", " + what + ")", x.likely(k, what), plain.likely(k, what));
        }
    }

    private void askOthers(int kind) {
        int facts = facts();
        int so = facts();
        int what;
        int n;
        switch (kind) {
            case 22:
            case 23:
                what = what(4);
                due("asked(" + facts + ", " + so + ", " + what + ")", x.asked(facts, so, what), plain.asked(facts, so, what));
                break;
            case 24:
                n = what(10);
                due("questions(" + facts + ", " + so + ", " + n + ")", x.questions(facts, so, n), plain.questions(facts, so, n));
                break;
            case 25:
                due("copy()", x.copy(), plain.copy());
                break;
            case 26:
                what = what(2);
                due("compare(" + what + ")", x.compare(what), plain.compare(what));
                break;
            case 27:
                n = 1 + random.nextInt(random.nextInt(6) == 0 ? 8 : 5);
                feedBytes(2 * n, 4);
                n = random.nextInt(15) == 0 ? random.nextInt(12) - 1 : n;
                what = place(Math.max(0, n), 10);
                due("dead(" + n + ", " + what + ")", x.dead(n, what), plain.dead(n, what));
                break;
            case 28:
                n = random.nextInt(10) == 0 ? random.nextInt(400) - 20 : 1 + random.nextInt(360);
                due("summer(" + n + ")", x.summer(n), plain.summer(n));
                break;
            case 29:
                what = what(1);
                due("hindered(" + facts + ", " + what + ")", x.hindered(facts, what), plain.hindered(facts, what));
                break;
            case 30:
                int some = plain.count(4) & (random.nextInt(5) == 0 ? random.nextInt(256) : random.nextInt());
                what = what(1);
                due("friends(" + some + ", " + what + ")", x.friends(some, what), plain.friends(some, what));
                break;
            case 31:
                due("keep()", x.keep(), plain.keep());
                break;
            case 32:
                due("undo()", one(x.undo()), one(plain.undo()));
                break;
            case 33:
                feedBytes(10, 2);
                n = what(10);
                due("check(" + n + ")", x.check(n), plain.check(n));
                break;
            case 34:
                what = random.nextInt(40) - 4;
                due("count(" + what + ")", x.count(what), plain.count(what));
                break;
            default:
                what = 20 + random.nextInt(10);
                due("count(" + what + ")", x.count(what), plain.count(what));
        }
    }
}
