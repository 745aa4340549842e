/** THE DEAD, time that is bought, good works, friends; what is kept, undone, checked and counted. */
final class SentencesOfYears extends Sentences {
    private static final String ALL_TEN = "a&b&c&d&e&f&g&h&i&j";

    private static int dead(PactYears x, int what, int... states) {
        feed(x, states(states));
        return x.dead(states.length, what);
    }

    private static void row(PactYears x, int[] row, int... states) {
        for (int place = 0; place < row.length; place++) {
            due("place " + place, dead(x, place, states), row[place]);
        }
    }

    // ---- THE DEAD

    static void theDead() {
        of(29, "THE DEAD: an emperor wants 1 to 8 STATES to be seen, each once, THE STATE being the first step's beginning: the"
                + " order by which PRICES of all changes together are fewest; of like ones the least row.");
        PactYears x = new PactYears();
        due("one, THE STATE itself", dead(x, 10, 0), 0);
        due("one", dead(x, 10, 1023), 10);
        row(x, new int[] {0}, 1023);
        int[] eight = {255, 1, 127, 3, 63, 7, 31, 15};
        due("eight", dead(x, 10, eight), 8);
        row(x, new int[] {1, 3, 5, 7, 6, 4, 2, 0}, eight);
        due("three behind eight", dead(x, 10, 3, 1, 4), 4);
        row(x, new int[] {2, 1, 0}, 3, 1, 4);
        due("eight, two far from the others", dead(x, 10, 0, 1023, 1023, 0, 0, 0, 0, 0), 10);
        row(x, new int[] {0, 1, 2}, 1, 3, 7);
        x.price(1, 9);
        x.price(2, 2);
        due("the nearest is not the first", dead(x, 10, 3, 1, 4), 14);
        row(x, new int[] {2, 1, 0}, 3, 1, 4);
        set(x, 7);
        due("from 7 the nearest is the first", dead(x, 10, 3, 1, 4), 14);
        row(x, new int[] {0, 1, 2}, 3, 1, 4);
        due("two, all from 7", dead(x, 10, 0, 6), 12);
        row(x, new int[] {1, 0}, 0, 6);
        set(x, 0);
        x.price(1, 1);
        x.price(2, 1);
        due("the same eight times", dead(x, 10, 3, 3, 3, 3, 3, 3, 3, 3), 2);
        row(x, new int[] {0, 1, 2, 3, 4, 5, 6, 7}, 3, 3, 3, 3, 3, 3, 3, 3);
        due("two alike", dead(x, 10, 2, 1), 3);
        row(x, new int[] {0, 1}, 2, 1);
        set(x, 1);
        due("from THE STATE", dead(x, 10, 2, 1), 2);
        row(x, new int[] {1, 0}, 2, 1);
        due("nothing is changed", x.count(0), 1);
        set(x, 0);
        for (int i = 0; i < 10; i++) {
            x.price(i, 99);
        }
        due("PRICES of 99", dead(x, 10, 1023, 0), 990);
        row(x, new int[] {1, 0}, 1023, 0);
        due("there and back", dead(x, 10, 992, 31), 1485);
        for (int i = 0; i < 10; i++) {
            x.price(i, 0);
        }
        due("PRICES of 0", dead(x, 10, 1023, 0, 512, 1, 77, 1000, 3, 9), 0);
        row(x, new int[] {0, 1, 2, 3, 4, 5, 6, 7}, 1023, 0, 512, 1, 77, 1000, 3, 9);
    }

    static void deadByTheFirstBytes() {
        of(29, "THE DEAD by the first 2 n bytes of the tape (STATES of two bytes, 0 to 1023; n 1 to 8; empty then), what 10 PRICES,"
                + " else which of them (0 on) is seen at place what");
        PactYears x = new PactYears();
        feed(x, states(256, 1));
        due("the higher byte first", x.dead(1, 10), 1);
        due("empty then", x.count(8), 0);
        feed(x, states(0, 1023, 1, 2, 3, 4, 5, 6));
        due("the first two", x.dead(2, 10), 10);
        due("empty then", x.count(8), 0);
        feed(x, states(1023, 0));
        due("the first is seen first", x.dead(1, 0), 0);
        feed(x, states(0, 1, 3, 7, 15, 31, 63, 127));
        due("eight", x.dead(8, 10), 7);
        feed(x, states(0, 1, 3, 7, 15, 31, 63, 127));
        due("the last place", x.dead(8, 7), 7);
        clause(x, 0, "0");
        due("whatever THE PACT is", dead(x, 10, 1023), 10);
    }

    static void aStateAbove1023() {
        of(29, "-2: a STATE above 1023; -4: no such place");
        PactYears x = new PactYears();
        int[] above = {1024, 1025, 2047, 32768, 65535};
        for (int state : above) {
            for (int place = 0; place < 8; place++) {
                int[] states = new int[8];
                states[place] = state;
                due(state + " at " + place, dead(x, place % 2 == 0 ? 10 : place, states), -2);
                due("the tape is empty", x.count(8), 0);
            }
        }
        due("1023", dead(x, 10, 1023), 10);
        feed(x, states(1, 1024));
        due("behind the first n", x.dead(1, 10), 1);
    }

    static void deadNoSuchPlace() {
        of(29, "-4: no such place; NONE: no such n, it has not so many (the tape stays).");
        PactYears x = new PactYears();
        for (int n = 1; n <= 8; n++) {
            int[] states = new int[n];
            due("the last place of " + n, dead(x, n - 1, states), n - 1);
            for (int what : new int[] {n, n + 10, -1, 9, 11, 32, Integer.MIN_VALUE, Integer.MAX_VALUE}) {
                due("dead(" + n + ", " + what + ")", dead(x, what, states), -4);
                due("the tape is empty", x.count(8), 0);
            }
        }
        due("no place 8 of eight", dead(x, 8, 1, 2, 3, 4, 5, 6, 7, 8), -4);
        noneFor("dead of n", outside(1, 8), (y, n) -> y.dead(n, 10));
        noneFor("dead of n", new int[] {1 << 30, (1 << 30) + 1, Integer.MIN_VALUE / 2 + 1}, (y, n) -> y.dead(n, 10));
        noneFor("dead of no such n and place", outside(1, 8), (y, n) -> y.dead(n, 99));
        due("no tape", new PactYears().dead(1, 10), -1);
        due("no tape", new PactYears().dead(8, 0), -1);
    }

    // ---- SUMMER

    private static PactYears onDay(int day) {
        PactYears x = new PactYears();
        if (day > 0) {
            x.days(day);
        }
        return x;
    }

    static void tenForEachBegun30Days() {
        of(30, "SUMMER: n DAYS (1 to 360) bought back, for as many SINS (10 for each begun 30 DAYS");
        int[] days = {1, 29, 30, 31, 59, 60, 61, 90, 91, 329, 330, 331, 359, 360};
        int[] sins = {10, 10, 10, 20, 20, 20, 30, 30, 40, 110, 110, 120, 120, 120};
        for (int i = 0; i < days.length; i++) {
            PactYears x = onDay(720);
            due("summer(" + days[i] + ")", x.summer(days[i]), sins[i]);
            due("SINS", x.count(2), sins[i]);
            due("THE DAY", x.count(1), 720 - days[i]);
        }
    }

    static void twiceInMonths5To7() {
        of(30, "twice that in months 5 to 7)");
        int[] days = {0, 149, 150, 179, 180, 209, 210, 239, 240, 359, 360, 509, 510, 599, 600, 8429, 8430, 8519, 8520, 8639};
        int[] sins = {10, 10, 20, 20, 20, 20, 20, 20, 10, 10, 10, 10, 20, 20, 10, 10, 20, 20, 10, 10};
        for (int i = 0; i < days.length; i++) {
            due("on DAY " + days[i], onDay(days[i]).summer(30), sins[i]);
            due("on DAY " + days[i], onDay(days[i]).summer(360), sins[i] * 12);
        }
    }

    static void theDayIsLess() {
        of(30, "THE DAY is less by them (0 at least)");
        int[] days = {0, 9, 10, 11, 360, 361, 359};
        int[] bought = {1, 10, 10, 10, 360, 360, 360};
        int[] then = {0, 0, 0, 1, 0, 1, 0};
        for (int i = 0; i < days.length; i++) {
            PactYears x = onDay(days[i]);
            due("SINS all the same", x.summer(bought[i]) > 0, true);
            due(bought[i] + " DAYS of " + days[i], x.count(1), then[i]);
        }
    }

    static void daysAreBought() {
        of(30, "SUMMER: n DAYS are bought (not FREE, not FETCHED): SINS that they cost (9999 at most in all); NONE: no such n, he"
                + " is.");
        PactYears x = withWishes("1");
        for (int turn = 1; turn <= 83; turn++) {
            x.summer(360);
            due("SINS", x.count(2), 120 * turn);
        }
        due("30 more", x.summer(90), 30);
        due("SINS", x.count(2), 9990);
        x.keep();
        due("10 more", x.summer(1), 10);
        due("9999 at most", x.count(2), 9999);
        due("they cost as much", x.summer(360), 120);
        due("9999 at most", x.count(2), 9999);
        x.undo();
        law(x, "g8(1=1)");
        x.wished(0);
        due("9998", x.count(2), 9998);
        law(x, "g1(1=1)");
        wish(x, 0, "1");
        x.wished(0);
        due("9999", x.count(2), 9999);
        PactYears y = onDay(8639);
        due("not yet FETCHED", y.summer(1), 10);
        y.days(2);
        due("FETCHED", y.summer(1), -1);
        due("THE DAY stays", y.count(1), 8640);
        PactYears z = withWishes("0");
        z.days(5);
        z.wished(0);
        due("FREE", z.summer(1), -1);
        due("THE DAY stays", z.count(1) * 10 + z.count(2), 50);
        refusedBy(Kind.FREE, "FREE", -1, w -> w.summer(360));
        refusedBy(Kind.FETCHED, "FETCHED", -1, w -> w.summer(360));
        noneFor("summer", farOutside(1, 360), (w, n) -> w.summer(n));
    }

    // ---- HINDERED, FRIENDS

    static void hindered() {
        of(31, "HINDERED: of told FACTS (bits), good works, the one whose change THE PACT forbids most: in most STATES that FIT,"
                + " the STATE with it alone changed does not FIT; in how many.");
        PactYears x = new PactYears();
        clause(x, 0, "a&j");
        hinder(x, 1023, 0, 256);
        hinder(x, 1022, 9, 256);
        hinder(x, 510, 1, 0);
        clause(x, 0, "a&(b|c)");
        hinder(x, 1023, 0, 384);
        hinder(x, 1022, 1, 128);
        hinder(x, 12, 2, 128);
        clause(x, 0, ALL_TEN);
        hinder(x, 1023, 0, 1);
        hinder(x, 512, 9, 1);
        clause(x, 0, "a^b^c^d^e^f^g^h^i^j");
        hinder(x, 1023, 0, 512);
        clause(x, 0, "g");
        hinder(x, 1023, 6, 512);
        clause(x, 0, "!f");
        hinder(x, 1023, 5, 512);
    }

    private static void hinder(PactYears x, int facts, int which, int states) {
        due("hindered(" + facts + ", 0)", x.hindered(facts, 0), which);
        due("hindered(" + facts + ", 1)", x.hindered(facts, 1), states);
    }

    static void hinderedOneAtLeast() {
        of(31, "HINDERED of FACTS (bits, one at least), what 0 which (of like ones the lowest), 1 in how many STATES; NONE: no such"
                + " ones.");
        PactYears x = new PactYears();
        for (int i = 0; i < 10; i++) {
            hinder(x, 1 << i, i, 0);
            hinder(x, 1024 - (1 << i), i, 0);
        }
        clause(x, 0, "0");
        hinder(x, 1023, 0, 0);
        hinder(x, 512, 9, 0);
        noneFor("hindered of none", new int[] {0, 1}, (y, what) -> y.hindered(0, what));
        noneFor("hindered of FACTS", noFacts(), (y, facts) -> y.hindered(facts, 0));
        noneFor("hindered of what", outside(0, 1), (y, what) -> y.hindered(1, what));
    }

    static void friendsTheFewest() {
        of(32, "FRIENDS: 2 to 6, each with a WISH: the fewest of them (one at least) whose WISHES can't be together (in no STATE"
                + " that FITS all of them hold): how many; which (bits); -2: all can.");
        PactYears x = withWishes("a", "b", "c", "d", "e", "!(a&b&c&d&e)", "!a", "0");
        friends(x, 63, 6, 63);
        friends(x, 31, -2, -2);
        friends(x, 95, 2, 65);
        friends(x, 131, 1, 128);
        friends(x, 3, -2, -2);
        friends(x, 65, 2, 65);
        PactYears first = withWishes("!a&!b", "!c&!d&!e", "!f&!g", "!h&!i&!j");
        friends(first, 15, -2, -2);
        clause(first, 0, "a|b|c|d|e|f|g|h|i|j");
        friends(first, 15, 4, 15);
        clause(x, 0, "!(d&e)");
        friends(x, 31, 2, 24);
        clause(x, 1, "!(a&b)");
        friends(x, 31, 2, 3);
        clause(x, 2, "!c");
        friends(x, 31, 1, 4);
        clause(x, 3, "0");
        friends(x, 192, 1, 64);
        friends(x, 3, 1, 1);
    }

    private static void friends(PactYears x, int wishes, int many, int which) {
        due("friends(" + wishes + ", 0)", x.friends(wishes, 0), many);
        due("friends(" + wishes + ", 1)", x.friends(wishes, 1), which);
    }

    static void friendsTwoToSix() {
        of(32, "FRIENDS by WISHES (bits, 2 to 6 told ones), what 0 how many, 1 which (bits, of like ones the least); -2: all can be;"
                + " NONE: no such ones.");
        PactYears x = withWishes("a", "!a", "a", "!a", "1", "1", "1", "1");
        friends(x, 192, -2, -2);
        friends(x, 252, 2, 12);
        friends(x, 63, 2, 3);
        friends(x, 14, 2, 6);
        int[] wrongOnes = {0, 1, 128, 127, 254, 255, 256, 257, 259, 3 << 8, -1, -253, Integer.MIN_VALUE + 3};
        for (int some : wrongOnes) {
            due("friends(" + some + ", 0)", x.friends(some, 0), -1);
            due("friends(" + some + ", 1)", x.friends(some, 1), -1);
        }
        noneFor("friends of WISHES", wrongOnes, (y, some) -> y.friends(some, 0));
        noneFor("friends of what", outside(0, 1), (y, what) -> y.friends(5, what));
        PactYears z = withWishes("a", "b");
        due("not told", z.friends(7, 0), -1);
        due("not told", z.friends(5, 0), -1);
    }

    // ---- KEPT, UNDONE

    static void keptTheDay() {
        of(33, "KEPT: THE DAY.");
        PactYears x = new PactYears();
        due("at first", x.keep(), 0);
        x.days(8639);
        due("8639", x.keep(), 8639);
        x.days(1);
        due("8640", x.keep(), 8640);
        PactYears y = withWishes("0");
        y.days(7);
        y.wished(0);
        due("FREE", y.keep(), 7);
        PactYears z = made(Kind.FULL);
        due("nothing else is changed", z.keep(), z.count(1));
        z.undo();
        PactYears w = made(Kind.FULL);
        w.keep();
        same("KEPT as it is", z, w);
    }

    static void undoneAsTheyWereKeptLast() {
        of(34, "KEPT: THE STATE, THE DAY, SINS, granted, what is spent, FREE; UNDONE: as they were KEPT last.");
        PactYears x = withWishes("a", "b", "0", "c");
        law(x, "d3(1=1);g4(1=1)");
        x.wished(0);
        x.keep();
        x.wished(1);
        x.keep();
        x.wished(3);
        x.price(4, 9);
        clause(x, 0, "!d");
        wish(x, 4, "e");
        x.feed(0, 0, 0, 0, 0);
        x.wished(2);
        due("FREE", x.count(9), 1);
        due("undo", x.undo(), true);
        int[] wants = {3, 6, 8, 2, 31, 1, 3, 2, 20, 0};
        for (int what = 0; what <= 9; what++) {
            due("count(" + what + ")", x.count(what), wants[what]);
        }
        due("PRICES stay as they are", x.count(24), 9);
        due("THE PACT stays as it is", x.fits(0), 512);
        x.fact(9, true);
        x.days(8640);
        due("undo", x.undo(), true);
        due("THE STATE", x.count(0), 3);
        due("not FETCHED", x.count(9), 0);
        x.wished(2);
        x.keep();
        due("undo", x.undo(), true);
        due("FREE as he was", x.count(9), 1);
        due("FREE", x.wished(3), -5);
        PactYears y = withWishes("a");
        y.days(8640);
        y.keep();
        due("undo", y.undo(), true);
        due("FETCHED as he was", y.count(9), 2);
    }

    static void noneWasKept() {
        of(34, "UNDONE: true; false: none was KEPT.");
        PactYears x = new PactYears();
        x.fact(0, true);
        due("none was KEPT", x.undo(), false);
        due("THE STATE stays", x.count(0), 1);
        due("still none", x.undo(), false);
        x.keep();
        x.fact(1, true);
        due("KEPT", x.undo(), true);
        due("THE STATE", x.count(0), 1);
        x.fact(1, true);
        due("again", x.undo(), true);
        due("THE STATE", x.count(0), 1);
        due("at once again", x.undo(), true);
        due("THE STATE", x.count(0), 1);
        refusedBy(Kind.NEW, "undo()", 0, y -> y.undo() ? 1 : 0);
        refusedBy(Kind.SOME, "undo()", 0, y -> y.undo() ? 1 : 0);
    }

    // ---- CHECK, count

    private static int check(PactYears x, int n, int... bytes) {
        feed(x, bytes(bytes));
        return x.check(n);
    }

    static void checked() {
        of(35, "CHECK: FACTS 0 to n - 1 (0, 1): right, or the first that is not so.");
        PactYears x = new PactYears();
        set(x, 513);
        due("right", check(x, 10, 1, 0, 0, 0, 0, 0, 0, 0, 0, 1), -1);
        for (int i = 0; i < 10; i++) {
            int[] told = {1, 0, 0, 0, 0, 0, 0, 0, 0, 1};
            told[i] = 1 - told[i];
            due("not so: " + i, check(x, 10, told), i);
            due("not asked: " + i, check(x, i, told), -1);
            due("asked: " + i, check(x, i + 1, told), i);
            told[9] = 1 - told[9];
            due("the first: " + i, check(x, 10, told), i == 9 ? -1 : i);
            told = new int[] {1, 0, 0, 0, 0, 0, 0, 0, 0, 1};
            for (int neither : new int[] {2, 3, 128, 255}) {
                told[i] = neither;
                due(neither + " is neither: " + i, check(x, 10, told), i);
            }
        }
    }

    static void checkByTheFirstBytes() {
        of(35, "CHECK by the first n bytes of the tape (0 to 10; empty then): NONE: right; else the first that is not so; -2: no"
                + " such n, it has not so many (the tape stays).");
        PactYears x = new PactYears();
        due("none of no tape", x.check(0), -1);
        due("one of no tape", x.check(1), -2);
        due("ten of no tape", x.check(10), -2);
        due("none of twenty", check(x, 0, 1, 1), -1);
        due("empty then", x.count(8), 0);
        due("right", check(x, 1, 0), -1);
        due("empty then", x.count(8), 0);
        due("not so", check(x, 1, 1), 0);
        due("empty then", x.count(8), 0);
        due("ten", check(x, 10, new int[10]), -1);
        for (int n : outside(0, 10)) {
            refused("check(" + n + ")", -2, y -> y.check(n));
        }
        refusedBy(Kind.NEW, "check(1) of no tape", -2, y -> y.check(1));
    }

    static void counted() {
        of(36, "0 THE STATE, 1 THE DAY, 2 SINS, 3 how many were granted, 4 told WISHES (bits), 5 told CLAUSES (bits), 6 spent WISHES"
                + " (bits), 7 RULES, 8 bytes of the tape, 9 0 neither, 1 FREE, 2 FETCHED; 20 + i the PRICE of FACT i.");
        PactYears x = withWishes("a", "1", "0", "1", "1", "1", "1", "j");
        clause(x, 0, "1");
        clause(x, 7, "1");
        law(x, repeat("d7(1=1);g9(1=1)", 8, ";"));
        x.wished(0);
        x.wished(7);
        x.price(0, 0);
        x.price(9, 99);
        for (int turn = 0; turn < 13; turn++) {
            x.feed(0, 0, 0, 0, 0);
        }
        int[] wants = {513, 14, 18, 2, 255, 129, 129, 16, 260, 0};
        for (int what = 0; what <= 9; what++) {
            due("count(" + what + ")", x.count(what), wants[what]);
        }
        for (int i = 0; i < 10; i++) {
            due("PRICE of " + i, x.count(20 + i), i == 0 ? 0 : i == 9 ? 99 : 1);
        }
        x.keep();
        x.wished(2);
        due("FREE", x.count(9), 1);
        x.undo();
        x.days(8625);
        due("neither", x.count(9), 0);
        x.days(1);
        due("FETCHED", x.count(9), 2);
    }

    static void noneForOtherCounts() {
        of(36, "20 + i the PRICE of FACT i. NONE for others.");
        noneFor("count", new int[] {-1, 10, 11, 18, 19, 30, 31, 32, 52, -12, 256, 276, Integer.MIN_VALUE, Integer.MIN_VALUE + 20,
            Integer.MIN_VALUE + 29, Integer.MAX_VALUE, Integer.MAX_VALUE - 11}, (x, what) -> x.count(what));
        PactYears x = new PactYears();
        for (int i = 0; i < 10; i++) {
            x.price(i, 50 + i);
            due("PRICE of " + i, x.count(20 + i), 50 + i);
        }
    }
}
