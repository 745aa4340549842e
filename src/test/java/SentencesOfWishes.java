/** What FITS, what is WISHED and TRIED, WHY not, and WISHES one behind the other. */
final class SentencesOfWishes extends Sentences {
    private static final String ALL_TEN = "a&b&c&d&e&f&g&h&i&j";

    /** SINS up to so many, at DAY 0: those below ten by a WISH that is granted. */
    private static void sinUpTo(PactYears x, int sins) {
        for (int tens = sins / 120; tens > 0; tens--) {
            x.summer(360);
        }
        for (int tens = sins % 120 / 10; tens > 0; tens--) {
            x.summer(1);
        }
        law(x, "g" + sins % 10 + "(1=1)");
        wish(x, 7, "1");
        x.wished(7);
        law(x, "x(1=0)");
    }

    // ---- FITS, CAN BE

    static void aStateFits() {
        of(12, "A STATE FITS if all told CLAUSES hold in it.");
        PactYears x = new PactYears();
        due("none is told", x.fits(0), 1024);
        for (int k = 0; k < 8; k++) {
            clause(x, k, "" + (char) ('a' + k));
            due("told: " + (k + 1), x.fits(0), 512 >> k);
        }
        due("the first", x.fits(1), 255);
        set(x, 255);
        due("all eight hold", x.fits(5), 1);
        for (int k = 0; k < 8; k++) {
            x.fact(k, false);
            due("but CLAUSE " + k, x.fits(5), 0);
            x.fact(k, true);
        }
        clause(x, 3, "0");
        due("one never holds", x.fits(0), 0);
        x.drop(3);
        due("it is not told any more", x.fits(0), 8);
    }

    static void aWishCanBe() {
        of(16, "A WISH CAN BE if there is a STATE that FITS in which it holds.");
        PactYears x = withWishes("a", "b", ALL_TEN, "0", "1", "!(a|b|c|d|e|f|g|h|i|j)");
        due("one STATE is enough, none is not", x.freeing(), 8);
        clause(x, 0, ALL_TEN);
        due("the last STATE FITS", x.freeing(), 40);
        due("by it", x.wishIs(0, 0) + x.wishIs(2, 0) + x.wishIs(4, 0), 3);
        clause(x, 0, "!(a|b|c|d|e|f|g|h|i|j)");
        due("the first STATE FITS", x.freeing(), 15);
        clause(x, 1, "a");
        due("none FITS", x.freeing(), 63);
    }

    // ---- WISHED

    static void neitherSpentNorFreeNorFetched() {
        of(9, "WISHED (not spent, neither FREE nor FETCHED)");
        PactYears x = withWishes("a", "b", "0");
        x.keep();
        due("not spent", x.wished(0), 0);
        due("spent", x.wished(0), -4);
        due("FREE by one that can't be", x.wished(2), -2);
        due("FREE", x.wished(1), -5);
        x.undo();
        due("not any more", x.wished(1), 0);
        x.days(8640);
        due("FETCHED", x.wished(0), -5);
        due("THE STATE", x.count(0), 2);
    }

    static void ifItCantBeHeIsFree() {
        of(9, "if it can't be, the scholar is FREE");
        PactYears x = withWishes("0", "1");
        law(x, "x(1=1);d9(1=1);g9(1=1)");
        x.fact(4, true);
        x.days(17);
        due("ahead of the x", x.wished(0), -2);
        int[] wants = {16, 17, 0, 0, 3, 0, 0, 3, 0, 1};
        for (int what = 0; what <= 9; what++) {
            due("count(" + what + ")", x.count(what), wants[what]);
        }
        PactYears y = withWishes("a", "b");
        clause(y, 0, "!a");
        due("THE PACT is in the way", y.wished(0), -2);
        due("FREE", y.count(9), 1);
        y.drop(0);
        due("FREE stays", y.wished(0), -5);
    }

    static void ifTheSpiritBalksNothingIsDone() {
        of(9, "else if the spirit balks (x, by what would change), nothing is done");
        String[] wishes = {"a&b", "a", "j"};
        PactYears x = withWishes(wishes);
        PactYears y = withWishes(wishes);
        law(x, "x(c=2);x(p=9);d5(1=1);g5(1=1)");
        law(y, "x(c=2);x(p=9);d5(1=1);g5(1=1)");
        x.price(9, 9);
        y.price(9, 9);
        due("by two that would change", x.wished(0), -3);
        due("by their PRICES", x.wished(2), -3);
        same("two balked at", x, y);
        PactYears z = withWishes(wishes);
        law(z, "x(c=2);x(p=9);d5(1=1);g5(1=1)");
        z.price(9, 9);
        due("one changes", z.wished(1), 5);
        due("one changes", z.wished(0), 5);
        z.price(9, 8);
        due("for less", z.wished(2), 5);
    }

    static void byPricesThatAreLeastTogether() {
        of(9, "else THE STATE becomes that of these by which PRICES of what changes are least together");
        String[] wishes = {"a|b&c&d&e&f&g&h&i&j"};
        for (int i = 89; i <= 91; i++) {
            PactYears x = withWishes(wishes);
            for (int fact = 1; fact < 10; fact++) {
                x.price(fact, 10);
            }
            x.price(0, i);
            x.wished(0);
            due("a for " + i + ", the others for 90", x.count(0), i <= 90 ? 1 : 1022);
        }
        PactYears y = withWishes("a|b");
        y.price(0, 99);
        y.price(1, 98);
        y.wished(0);
        due("98 rather than 99", y.count(0), 2);
        PactYears z = withWishes("a|b&c");
        z.price(0, 1);
        z.price(1, 0);
        z.price(2, 0);
        z.wished(0);
        due("two for 0 rather than one for 1", z.count(0), 6);
        PactYears w = withWishes("1");
        clause(w, 0, "a|b");
        w.wished(0);
        due("it holds, but THE STATE does not FIT", w.count(0), 1);
        PactYears v = withWishes("a|b");
        clause(v, 0, "!a");
        v.wished(0);
        due("of these that FIT", v.count(0), 2);
    }

    static void ofLikeOnesTheFewestChanges() {
        of(9, "(of like ones the fewest changes, then the least STATE)");
        PactYears x = withWishes("a&b|j", "c");
        x.price(9, 2);
        x.wished(0);
        due("one for 2 rather than two for 1", x.count(0), 512);
        PactYears y = withWishes("1", "a");
        for (int i = 0; i < 10; i++) {
            y.price(i, 0);
        }
        set(y, 600);
        y.wished(0);
        due("none, though all are for 0", y.count(0), 600);
        y.wished(1);
        due("one, though all are for 0", y.count(0), 601);
        PactYears z = withWishes("j|i|h|g|f|e|d|c|b|a");
        z.wished(0);
        due("then the least STATE", z.count(0), 1);
        PactYears w = withWishes("!a|!b|!c|!d|!e|!f|!g|!h|!i|!j");
        set(w, 1023);
        w.wished(0);
        due("the least by j", w.count(0), 511);
        PactYears v = withWishes("a&b|a&c|i&j");
        v.price(0, 99);
        v.price(8, 50);
        v.price(9, 50);
        v.wished(0);
        due("of two alike for 100 the least", v.count(0), 3);
        PactYears u = withWishes("g|!f");
        set(u, 32);
        u.wished(0);
        due("the least across the words of a table", u.count(0), 0);
    }

    /** A FORMULA that holds in this STATE alone. */
    private static String only(int state) {
        StringBuilder text = new StringBuilder();
        for (int i = 0; i < 10; i++) {
            text.append(i > 0 ? "&" : "").append((state >> i & 1) == 1 ? "" : "!").append((char) ('a' + i));
        }
        return text.toString();
    }

    static void ofTheseThereMayBeOneAlone() {
        of(9, "THE STATE becomes that of these by which PRICES of what changes are least together");
        int[] goals = {0, 1, 63, 64, 128, 448, 511, 512, 576, 960, 1022, 1023};
        for (int from : new int[] {0, 341, 1023}) {
            for (int goal : goals) {
                PactYears x = withWishes(only(goal));
                set(x, from);
                due("granted", x.wished(0), 0);
                due("from " + from + " to " + goal, x.count(0), goal);
            }
        }
    }

    static void daysGoBySinsAreMore() {
        of(9, "d DAYS go by, SINS are more by g (9999 at most; d, g asked ahead of all)");
        PactYears x = withWishes("a", "b");
        law(x, "d9(1=1);g7(1=1)");
        due("d", x.wished(0), 9);
        due("d again", x.wished(1), 9);
        due("DAYS", x.count(1), 18);
        due("SINS", x.count(2), 14);
        int[] begin = {9899, 9900, 9901, 9998, 9999};
        int[] then = {9998, 9999, 9999, 9999, 9999};
        for (int i = 0; i < begin.length; i++) {
            PactYears y = withWishes("a");
            sinUpTo(y, begin[i]);
            due("SINS", y.count(2), begin[i]);
            law(y, "g99(1=1)");
            y.wished(0);
            due(begin[i] + " and 99 more", y.count(2), then[i]);
        }
        PactYears z = withWishes("a&b", "c");
        law(z, "d29+n+s*100+m*10(1=1);g1+m*10+n*20+s*30(1=1)");
        due("d ahead of all", z.wished(0), 29);
        due("g ahead of all", z.count(2), 1);
        due("d behind one", z.wished(1), 230);
        due("g behind one, m is 0 at DAY 29", z.count(2), 82);
        PactYears w = withWishes("a");
        w.days(29);
        law(w, "d1(1=1);g1+m(1=1)");
        w.wished(0);
        due("g ahead of the DAYS", w.count(2), 1);
    }

    static void theWishIsSpent() {
        of(9, "the WISH is spent, one more was granted");
        PactYears x = withWishes("a", "a", "a", "a", "a", "a", "a", "1");
        for (int k = 7; k >= 0; k--) {
            due("granted", x.wished(k), 0);
            due("spent", x.count(6), 256 - (1 << k));
            due("so many", x.count(3), 8 - k);
        }
        for (int k = 0; k < 8; k++) {
            due("spent", x.wished(k), -4);
        }
        due("no more", x.count(3), 8);
        for (int turn = 9; turn <= 40; turn++) {
            wish(x, 0, "1");
            x.wished(0);
            due("told anew and granted", x.count(3), turn);
        }
    }

    static void theDayGoesTo8640() {
        of(9, "THE DAY goes to 8640 at most (24 YEARS): then he is FETCHED.");
        int[] begin = {8638, 8639, 8639, 8640, 1};
        int[] more = {1, 1, 2, 1, 8640};
        int[] then = {8639, 8640, 8640, 8640, 8640};
        for (int i = 0; i < begin.length; i++) {
            PactYears x = new PactYears();
            x.days(begin[i]);
            due("days", x.days(more[i]), then[i]);
            due("THE DAY", x.count(1), then[i]);
            due("FETCHED", x.count(9), then[i] == 8640 ? 2 : 0);
        }
        for (int d = 4; d <= 6; d++) {
            PactYears x = withWishes("a", "b");
            law(x, "d" + d + "(1=1)");
            x.days(8635);
            due("DAYS that it takes", x.wished(0), d);
            due("THE DAY", x.count(1), Math.min(8640, 8635 + d));
            due("FETCHED", x.count(9), d >= 5 ? 2 : 0);
            due("the next one", x.wished(1), d >= 5 ? -5 : d);
        }
    }

    static void noneAtFirst() {
        of(9, "(0 at first: THE DAY, SINS, granted.)");
        PactYears x = new PactYears();
        due("THE DAY", x.count(1), 0);
        due("SINS", x.count(2), 0);
        due("granted", x.count(3), 0);
        PactYears y = withWishes("1");
        law(y, "x(m+y+z+n+s>0)");
        due("by THE LAW, too", y.wished(0), 0);
    }

    static void wishedDays() {
        of(9, "A WISH is WISHED: DAYS that it takes (THE DAY may come to 8640 ahead of that)");
        PactYears x = withWishes("a", "b", "c");
        due("none", x.wished(0), 0);
        law(x, "d999(1=1)");
        due("999", x.wished(1), 999);
        x.days(8639 - 999);
        due("THE DAY", x.count(1), 8639);
        due("999, of which one is left", x.wished(2), 999);
        due("THE DAY", x.count(1), 8640);
    }

    static void wishedOver() {
        of(9, "-2: he is FREE; -3: the spirit balks; -4: it is spent; -5: he is FREE, or FETCHED already (asked ahead of -4)");
        PactYears x = withWishes("a", "0", "b");
        law(x, "x(w=2)");
        x.wished(0);
        x.keep();
        due("balks", x.wished(2), -3);
        due("spent", x.wished(0), -4);
        due("FREE", x.wished(1), -2);
        due("FREE already, ahead of spent", x.wished(0), -5);
        due("FREE already, ahead of what can't be", x.wished(1), -5);
        due("FREE already, ahead of what is balked at", x.wished(2), -5);
        x.undo();
        x.days(8640);
        due("FETCHED already, ahead of spent", x.wished(0), -5);
        due("FETCHED already, ahead of what can't be", x.wished(1), -5);
        due("FETCHED already, ahead of what is balked at", x.wished(2), -5);
        due("FETCHED", x.count(9), 2);
        PactYears y = withWishes("a");
        y.wished(0);
        wish(y, 1, "1");
        clause(y, 0, "0");
        due("spent, ahead of what can't be", y.wished(0), -4);
        due("not FREE by that", y.count(9), 0);
        refusedBy(Kind.FULL, "a spent one", -4, z -> z.wished(2));
        refusedBy(Kind.FREE, "one of a FREE", -5, z -> z.wished(0));
        refusedBy(Kind.FETCHED, "one of a FETCHED", -5, z -> z.wished(1));
    }

    static void wishedNoSuchOne() {
        of(9, "NONE: no such one.");
        noneFor("wished", outside(0, 7), (x, k) -> x.wished(k));
        refusedBy(Kind.NEW, "not told", -1, x -> x.wished(0));
        refusedBy(Kind.SOME, "not told", -1, x -> x.wished(1));
        refusedBy(Kind.FREE, "not told, ahead of FREE", -1, x -> x.wished(1));
        PactYears x = withWishes("a", "a", "a", "a", "a", "a", "a", "a");
        due("0", x.wished(0), 0);
        due("7", x.wished(7), 0);
        x.days(8640);
        due("8, FETCHED", x.wished(8), -1);
        due("7, FETCHED", x.wished(7), -5);
    }

    // ---- TRIED

    static void nothingIsChanged() {
        of(10, "TRIED is a WISH (nothing is changed).");
        for (Kind kind : Kind.values()) {
            PactYears x = made(kind);
            for (int k = 0; k < 8; k++) {
                for (int what = 0; what <= 4; what++) {
                    x.tried(k, what);
                }
            }
            same("tried (" + kind + ")", x, made(kind));
        }
        PactYears y = withWishes("0");
        due("it can't be", y.tried(0, 0), -2);
        due("not FREE", y.count(9), 0);
    }

    static void triedWhat() {
        of(10, "A WISH that is TRIED, what 0 as wished(), 1 THE STATE then, 2 how many FACTS change, 3 their PRICES, 4 SINS it"
                + " brings");
        PactYears x = withWishes(ALL_TEN, "1", "a");
        law(x, "d1000(w=0);d5(1=1);g100(w=0);g1(1=1)");
        for (int i = 0; i < 10; i++) {
            x.price(i, 99);
        }
        int[][] wants = {{999, 1023, 10, 990, 99}, {5, 0, 0, 0, 1}, {5, 1, 1, 99, 1}};
        for (int k = 0; k < 3; k++) {
            for (int what = 0; what <= 4; what++) {
                due("tried(" + k + ", " + what + ")", x.tried(k, what), wants[k][what]);
            }
        }
        x.days(8639);
        due("DAYS that it takes, one is left", x.tried(0, 0), 999);
        due("as wished()", x.wished(0), 999);
        PactYears y = withWishes("a");
        sinUpTo(y, 9999);
        law(y, "g99(1=1)");
        due("SINS it brings at 9999", y.tried(0, 4), 99);
    }

    static void triedNotGranted() {
        of(10, "(if it is not granted, 1 to 4: THE STATE as it is, 0, 0, 0)");
        PactYears x = withWishes("a", "b&c", "0", "d");
        law(x, "d3(1=1);g3(1=1);x(w=1)");
        x.wished(0);
        x.keep();
        due("spent", x.tried(0, 0), -4);
        due("balks", x.tried(1, 0), -3);
        due("can't be", x.tried(2, 0), -2);
        due("one that would be granted", x.tried(3, 1), 9);
        asItIs(x, 3);
        x.tried(3, 1);
        x.wished(2);
        due("FREE", x.tried(3, 0), -5);
        due("FREE, spent", x.tried(0, 0), -5);
        asItIs(x, 4);
        x.undo();
        x.days(8640);
        due("FETCHED", x.tried(3, 0), -5);
        asItIs(x, 4);
    }

    private static void asItIs(PactYears x, int wishes) {
        for (int k = 0; k < wishes; k++) {
            due("THE STATE of " + k, x.tried(k, 1), 1);
            x.fact(9, true);
            due("THE STATE of " + k + " with j", x.tried(k, 1), 513);
            x.fact(9, false);
            due("changes of " + k, x.tried(k, 2), 0);
            due("PRICES of " + k, x.tried(k, 3), 0);
            due("SINS of " + k, x.tried(k, 4), 0);
        }
    }

    static void triedNoSuchOnes() {
        of(10, "(if it is not granted, 1 to 4: THE STATE as it is, 0, 0, 0); NONE: no such ones.");
        noneFor("tried of k", outside(0, 7), (x, k) -> x.tried(k, 0));
        noneFor("tried of what", outside(0, 4), (x, what) -> x.tried(0, what));
        noneFor("tried, not told", new int[] {0, 1, 2, 3, 4}, (x, what) -> x.count(4) == 255 ? -1 : x.tried(1, what));
    }

    // ---- days, fits, wishIs

    static void daysGoBy() {
        of(11, "DAYS (1 to 8640) go by: THE DAY; NONE: no such n.");
        PactYears x = new PactYears();
        due("1", x.days(1), 1);
        due("1 more", x.days(1), 2);
        due("8637", x.days(8637), 8639);
        due("1 more", x.days(1), 8640);
        due("beyond", x.days(1), 8640);
        PactYears y = new PactYears();
        due("8639", y.days(8639), 8639);
        due("8640", y.days(8640), 8640);
        PactYears z = new PactYears();
        due("8640 at once", z.days(8640), 8640);
        due("FETCHED", z.count(9), 2);
        PactYears w = withWishes("0");
        w.wished(0);
        due("FREE: they go by", w.days(5), 5);
        noneFor("days", farOutside(1, 8640), (v, n) -> v.days(n));
    }

    static void fitsWhat() {
        of(12, "STATES that FIT, what 0 how many, 1 the first, 2 the last, 3 FACTS so in all of them (bits), 4 FACTS so in none"
                + " (bits), 5 whether THE STATE FITS (1, 0)");
        int[][] wants = {{1024, 0, 1023, 0, 0, 1}, {1, 1023, 1023, 1023, 0, 0}, {1, 0, 0, 0, 1023, 1}, {512, 1, 1023, 1, 0, 0},
            {512, 0, 511, 0, 512, 1}, {2, 511, 1023, 511, 0, 0}, {1023, 1, 1023, 0, 0, 0}, {1023, 0, 1022, 0, 0, 1},
            {2, 64, 128, 0, 831, 0}};
        String[] clauses = {"1", ALL_TEN, "!(a|b|c|d|e|f|g|h|i|j)", "a", "!j", "a&b&c&d&e&f&g&h&i", "a|b|c|d|e|f|g|h|i|j",
            "!(" + ALL_TEN + ")", "(g^h)&!(a|b|c|d|e|f|i|j)"};
        for (int i = 0; i < clauses.length; i++) {
            PactYears x = new PactYears();
            clause(x, 7, clauses[i]);
            for (int what = 0; what <= 5; what++) {
                due(clauses[i] + ", fits(" + what + ")", x.fits(what), wants[i][what]);
            }
        }
    }

    static void noneFits() {
        of(12, "-2 of 1 to 4: none FITS; NONE: no such what.");
        PactYears x = new PactYears();
        clause(x, 0, "a");
        clause(x, 1, "!a");
        int[] wants = {0, -2, -2, -2, -2, 0};
        for (int what = 0; what <= 5; what++) {
            due("none FITS, fits(" + what + ")", x.fits(what), wants[what]);
        }
        due("none FITS, no such what", x.fits(6), -1);
        due("none FITS, no such what", x.fits(-1), -1);
        noneFor("fits", outside(0, 5), (y, what) -> y.fits(what));
    }

    static void wishIsWhat() {
        of(13, "Of a told WISH, what 0 in how many STATES that FIT it holds, 1 whether it holds now (1, 0), 2 whether it is spent");
        PactYears x = withWishes("0", "1", "a", "!a", ALL_TEN);
        int[][] wants = {{0, 0, 0}, {1024, 1, 0}, {512, 0, 0}, {512, 1, 0}, {1, 0, 0}};
        for (int k = 0; k < 5; k++) {
            for (int what = 0; what <= 2; what++) {
                due("wishIs(" + k + ", " + what + ")", x.wishIs(k, what), wants[k][what]);
            }
        }
        clause(x, 0, "0");
        due("none FITS", x.wishIs(1, 0), 0);
        due("it holds now", x.wishIs(1, 1), 1);
        clause(x, 0, "b");
        due("b FITS", x.wishIs(2, 0), 256);
        due("it holds now", x.wishIs(3, 1), 1);
        x.wished(4);
        due("spent", x.wishIs(4, 2), 1);
        due("not spent", x.wishIs(3, 2), 0);
        due("it holds now", x.wishIs(4, 1), 1);
        due("not now", x.wishIs(3, 1), 0);
    }

    static void on() {
        of(13, "ON: FACTS (bits) on which a WISH depends (without THE PACT): there is a STATE in which changing that one alone"
                + " changes it.");
        String[] wishes = {"0", "a&!a|j&!j", ALL_TEN, "a^b^c^d^e^f^g^h^i^j", "2(a,b)|2(!a,j)", "a&b|a&!b", "f", "g"};
        int[] wants = {0, 0, 1023, 1023, 515, 1, 32, 64};
        PactYears x = withWishes(wishes);
        clause(x, 0, "!a&!g");
        for (int k = 0; k < 8; k++) {
            due("ON of " + wishes[k], x.wishIs(k, 3), wants[k]);
        }
    }

    static void rising() {
        of(13, "RISING: FACTS (bits) of these by which, becoming so, it never comes to hold no more.");
        String[] wishes = {"0", "1", ALL_TEN, "a^b^c^d^e^f^g^h^i^j", "!a|b|!g|h", "a&b|!a&j", "9(a,b,c,d,e,f,g,h,i,j)",
            "f|!g&!(a|b|c|d|e|f|h|i|j)"};
        int[] wants = {0, 0, 1023, 0, 130, 514, 1023, 32};
        PactYears x = withWishes(wishes);
        clause(x, 0, "!a&!g");
        for (int k = 0; k < 8; k++) {
            due("RISING of " + wishes[k], x.wishIs(k, 4), wants[k]);
        }
    }

    static void wishIsNoneForOthers() {
        of(13, "3 ON (bits), 4 RISING (bits); NONE for others.");
        noneFor("wishIs of k", outside(0, 7), (x, k) -> x.wishIs(k, 1));
        noneFor("wishIs of what", outside(0, 4), (x, what) -> x.wishIs(0, what));
        PactYears x = withWishes("a");
        for (int what = 0; what <= 4; what++) {
            due("not told", x.wishIs(1, what), -1);
            due("told", x.wishIs(0, what) >= 0, true);
        }
    }

    static void dropped() {
        of(8, "A told CLAUSE is dropped: true; false: no such one.");
        PactYears x = new PactYears();
        for (int k = 0; k < 8; k++) {
            due("not told", x.drop(k), false);
        }
        clause(x, 0, "a");
        clause(x, 7, "b");
        due("0", x.drop(0), true);
        due("told", x.count(5), 128);
        due("FIT", x.fits(0), 512);
        due("0 again", x.drop(0), false);
        due("7", x.drop(7), true);
        due("none is told", x.count(5), 0);
        due("all FIT", x.fits(0), 1024);
        due("7 again", x.drop(7), false);
        clause(x, 7, "b");
        due("told anew", x.fits(0), 512);
        for (int k : outside(0, 7)) {
            refused("drop(" + k + ")", 0, y -> y.drop(k) ? 1 : 0);
        }
        refusedBy(Kind.SOME, "drop(1), a WISH 0 is told", 0, y -> y.drop(1) ? 1 : 0);
    }

    // ---- WHY, THE JOKE, FREEING

    static void whyTheFewest() {
        of(14, "WHY a WISH can't be: the fewest told CLAUSES with which it can't; of like ones the least bits.");
        PactYears x = withWishes("1", "a", "0");
        String[] clauses = {"a", "b", "c", "d", "e", "f", "g", "!(a&b&c&d&e&f&g)"};
        for (int k = 0; k < 8; k++) {
            clause(x, k, clauses[k]);
        }
        due("all eight", x.why(0, 0), 8);
        due("all eight", x.why(0, 1), 255);
        due("but a, which the WISH says", x.why(1, 0), 7);
        due("but a, which the WISH says", x.why(1, 1), 254);
        due("none at all", x.why(2, 0), 0);
        due("none at all", x.why(2, 1), 0);
        PactYears y = withWishes("a");
        clause(y, 7, "!a");
        due("the last alone", y.why(0, 1), 128);
        clause(y, 0, "!a");
        due("of like ones the least bits", y.why(0, 1), 1);
        due("one", y.why(0, 0), 1);
        PactYears z = withWishes("a");
        clause(z, 0, "b|!a");
        clause(z, 7, "!b");
        clause(z, 1, "c|!a");
        clause(z, 2, "!c");
        due("1 and 2 rather than 0 and 7", z.why(0, 1), 6);
        due("two", z.why(0, 0), 2);
        clause(z, 6, "!a");
        due("one rather than two, whatever the bits", z.why(0, 1), 64);
        PactYears w = withWishes("0");
        due("no CLAUSE is told", w.why(0, 0), 0);
        due("no CLAUSE is told", w.why(0, 1), 0);
    }

    static void whyItCanBe() {
        of(14, "WHY, what 0 how many CLAUSES, 1 which (bits); -2: it can be; NONE: no such ones.");
        PactYears x = withWishes("1", ALL_TEN);
        due("no CLAUSE", x.why(0, 0), -2);
        due("no CLAUSE", x.why(0, 1), -2);
        for (int k = 0; k < 8; k++) {
            clause(x, k, "" + (char) ('a' + k));
        }
        due("in one STATE", x.why(1, 0), -2);
        due("in one STATE", x.why(1, 1), -2);
        PactYears z = withWishes("!(a|b|c|d|e|f|g|h|i|j)");
        clause(z, 0, "!(a&b)");
        clause(z, 7, "!j");
        due("in the first STATE alone", z.why(0, 0), -2);
        due("in the first STATE alone", z.why(0, 1), -2);
        noneFor("why of k", outside(0, 7), (y, k) -> y.why(k, 0));
        noneFor("why of what", outside(0, 1), (y, what) -> y.why(0, what));
        due("not told", x.why(2, 0), -1);
        due("not told", x.why(7, 1), -1);
    }

    static void theJoke() {
        of(15, "THE JOKE: the told CLAUSE without which most STATES more FIT; of like ones the lowest.");
        PactYears x = new PactYears();
        clause(x, 7, "a");
        due("one is told", x.joke(0), 7);
        due("so many", x.joke(1), 512);
        clause(x, 0, "b");
        due("of like ones the lowest", x.joke(0), 0);
        due("so many", x.joke(1), 256);
        clause(x, 3, "c&d");
        due("the most", x.joke(0), 3);
        due("so many", x.joke(1), 192);
        PactYears y = new PactYears();
        clause(y, 2, "1");
        clause(y, 5, "1");
        due("none is missed: the lowest", y.joke(0), 2);
        due("none is missed", y.joke(1), 0);
        clause(y, 5, "0");
        due("without it all FIT", y.joke(0), 5);
        due("all", y.joke(1), 1024);
        clause(y, 6, "0");
        due("two that never hold", y.joke(0), 2);
        due("two that never hold", y.joke(1), 0);
    }

    static void theJokeOfNone() {
        of(15, "THE JOKE, what 0 which CLAUSE (-2: none is told), 1 how many STATES more FIT without it (none told: 0); NONE: no"
                + " such what.");
        PactYears x = new PactYears();
        due("none is told", x.joke(0), -2);
        due("none is told", x.joke(1), 0);
        clause(x, 0, "a");
        due("0", x.joke(0), 0);
        x.drop(0);
        due("none is told any more", x.joke(0), -2);
        due("none is told any more", x.joke(1), 0);
        noneFor("joke", outside(0, 1), (y, what) -> y.joke(what));
    }

    static void freeing() {
        of(16, "FREEING: told WISHES (bits) that can't be.");
        PactYears x = new PactYears();
        due("none is told", x.freeing(), 0);
        clause(x, 0, "0");
        due("none is told, none FITS", x.freeing(), 0);
        for (int k = 0; k < 8; k++) {
            wish(x, k, "1");
            due("told", x.freeing(), (2 << k) - 1);
        }
        x.drop(0);
        due("all can be", x.freeing(), 0);
        wish(x, 0, "0");
        wish(x, 7, "0");
        due("0 and 7", x.freeing(), 129);
        due("not FREE by that", x.count(9), 0);
        x.days(8640);
        due("FETCHED", x.freeing(), 129);
    }

    // ---- IN ORDER, BY WISHES

    static void inOrder() {
        of(17, "IN ORDER: 1 to 5 WISHES one behind the other as they are, all of them granted, by the fewest DAYS in all; of like"
                + " ones the least row.");
        PactYears x = withWishes("a", "b", "c", "d", "e", "f", "g", "h");
        due("of like ones the least row", x.inOrder(0xB9, 20), 0);
        int[] row = {0, 3, 4, 5, 7};
        for (int place = 0; place < 5; place++) {
            due("place " + place, x.inOrder(0xB9, place), row[place]);
        }
        law(x, "d[8-w]*n(1=1)");
        due("the fewest DAYS", x.inOrder(0xB9, 20), 5 + 8 + 9 + 4);
        for (int place = 0; place < 5; place++) {
            due("the highest w last, place " + place, x.inOrder(0xB9, place), row[place]);
        }
        law(x, "dw*n(1=1)");
        int[] back = {7, 5, 4, 3, 0};
        due("the fewest DAYS", x.inOrder(0xB9, 20), 5 + 8 + 9);
        for (int place = 0; place < 5; place++) {
            due("the highest w first, place " + place, x.inOrder(0xB9, place), back[place]);
        }
        due("one alone", x.inOrder(128, 20), 0);
        due("one alone", x.inOrder(128, 0), 7);
        law(x, "d999(1=1)");
        due("the most DAYS", x.inOrder(31, 20), 4995);
        PactYears y = withWishes("a", "0");
        due("not all of them", y.inOrder(3, 20), -2);
    }

    static void inOrderPlaces() {
        of(17, "IN ORDER: WISHES (bits, 1 to 5 told ones), what 20 DAYS, else the WISH at place what");
        PactYears x = withWishes("a", "b", "c", "d", "e", "f", "g", "h");
        int[] bits = {1, 128, 3, 192, 7, 15, 31, 248};
        for (int some : bits) {
            due("inOrder(" + some + ", 20)", x.inOrder(some, 20), 0);
            int places = Integer.bitCount(some);
            for (int place = 0; place < places; place++) {
                due("a WISH", x.inOrder(some, place) >= 0, true);
            }
            due("behind the last place", x.inOrder(some, places), -1);
        }
        due("none", x.inOrder(0, 20), -1);
        due("six", x.inOrder(63, 20), -1);
        due("six", x.inOrder(252, 20), -1);
        due("eight", x.inOrder(255, 20), -1);
    }

    static void inOrderNotInAny() {
        of(17, "-2: not in any order; NONE: no such ones.");
        PactYears x = withWishes("a", "!a", "0", "b");
        law(x, "x(w=3&n=0);x(w=3&s=1)");
        due("can't be", x.inOrder(4, 20), -2);
        due("can't be", x.inOrder(4, 0), -2);
        due("balks at first", x.inOrder(8, 0), -2);
        due("balks at either order of 0 and 3", x.inOrder(9, 20), -2);
        due("one that can be", x.inOrder(1, 20), 0);
        x.wished(1);
        due("one is spent", x.inOrder(2, 20), -2);
        PactYears y = withWishes("1", "1");
        law(y, "d5(1=1)");
        y.days(8635);
        due("the last ends by 8640", y.inOrder(1, 20), 5);
        due("FETCHED between two", y.inOrder(3, 20), -2);
        noneFor("inOrder of WISHES", new int[] {0, 256, 257, -1, 63 << 8, Integer.MIN_VALUE, Integer.MIN_VALUE + 1, 255, 126},
            (z, some) -> z.inOrder(some, 20));
        noneFor("inOrder at a place", new int[] {-1, 1, 2, 19, 21, 32, 256, Integer.MIN_VALUE, Integer.MAX_VALUE},
            (z, what) -> z.inOrder(1, what));
        due("not told", y.inOrder(5, 20), -1);
        PactYears w = withWishes("a", "0");
        w.wished(1);
        due("FREE", w.inOrder(1, 20), -2);
    }

    static void byWishesTheFewest() {
        of(18, "BY WISHES: the fewest others (0 to 4, told, not spent, each once, each granted) behind which a WISH holds; of"
                + " like ones the least row.");
        PactYears x = withWishes("a&b&c&d&e", "e", "d", "c", "b", "a", "a&b", "0");
        set(x, 31);
        due("none", x.byWishes(0, 20), 0);
        set(x, 30);
        due("one: the least", x.byWishes(0, 20) * 100 + x.byWishes(0, 0), 105);
        set(x, 28);
        due("one rather than two", x.byWishes(0, 20) * 100 + x.byWishes(0, 0), 106);
        set(x, 0);
        due("four", x.byWishes(0, 20), 4);
        int[] row = {1, 2, 3, 6};
        for (int place = 0; place < 4; place++) {
            due("the least row, place " + place, x.byWishes(0, place), row[place]);
        }
        x.wished(6);
        set(x, 0);
        due("one is spent: five would do", x.byWishes(0, 20), -2);
        PactYears y = withWishes("a&!b", "a", "!a", "1");
        law(y, "x(w=1)");
        due("each granted", y.byWishes(0, 20), -2);
        PactYears z = withWishes("a^b", "b", "a|b");
        law(z, "x(n=0&w=1)");
        due("each once", z.byWishes(0, 20) * 100 + z.byWishes(0, 0), 102);
        PactYears v = withWishes("a", "a&b");
        due("not by 0 alone", v.byWishes(1, 20), -2);
        wish(v, 1, "a|b&c");
        due("by 0", v.byWishes(1, 20) * 100 + v.byWishes(1, 0), 100);
        PactYears w = withWishes("a", "b");
        due("itself is no other", w.byWishes(0, 20), -2);
        w.wished(0);
        due("it may be spent", w.byWishes(0, 20), 0);
    }

    static void byWishesPlaces() {
        of(18, "BY WISHES to a told WISH, what 20 how many, else the WISH at place what; -2: not by 4; -4: there are not so many");
        PactYears x = withWishes("a&b", "a", "b", "0", "1");
        due("two", x.byWishes(0, 20), 2);
        due("place 0", x.byWishes(0, 0), 1);
        due("place 1", x.byWishes(0, 1), 2);
        due("place 2", x.byWishes(0, 2), -4);
        due("place 3", x.byWishes(0, 3), -4);
        due("none is needed", x.byWishes(4, 20), 0);
        due("none is needed", x.byWishes(4, 0), -4);
        for (int what = 0; what <= 3; what++) {
            due("not by 4", x.byWishes(3, what), -2);
        }
        due("not by 4", x.byWishes(3, 20), -2);
        PactYears y = withWishes("a&b&c&d", "a", "b", "c", "d");
        due("four", y.byWishes(0, 20), 4);
        due("the last", y.byWishes(0, 3), 4);
    }

    static void byWishesNoSuchOnes() {
        of(18, "NONE: no such ones (places 0 to 3).");
        noneFor("byWishes of k", outside(0, 7), (x, k) -> x.byWishes(k, 20));
        noneFor("byWishes of what", new int[] {-1, 4, 5, 19, 21, 32, 256, Integer.MIN_VALUE, Integer.MAX_VALUE},
            (x, what) -> x.byWishes(0, what));
        PactYears x = withWishes("1");
        due("not told", x.byWishes(1, 20), -1);
        due("not told", x.byWishes(7, 0), -1);
        due("told", x.byWishes(0, 20), 0);
        due("place 4 of one that needs none", x.byWishes(0, 4), -1);
    }
}
