/** For each promise of the document: ordinary inputs, the edges that it names, and wrong inputs. */
public final class PactYearsPromises extends Telling {
    private static int wrong = 0;
    private static int asked = 0;
    private static int promise = 0;

    private PactYearsPromises() {
    }

    private static void due(String what, long got, long want) {
        asked++;
        if (got != want) {
            wrong++;
            System.out.println("promise " + promise + ": " + what + " answered " + got + ", due is " + want);
        }
    }

    private static void due(String what, boolean got, boolean want) {
        due(what, got ? 1 : 0, want ? 1 : 0);
    }

    // ---- the promises

    private static void p01NewObject() {
        PactYears x = new PactYears();
        for (int what = 0; what <= 9; what++) {
            due("count(" + what + ") at first", x.count(what), 0);
        }
        for (int i = 0; i < 10; i++) {
            due("PRICE at first", x.count(20 + i), 1);
        }
        due("NONE", PactYears.NONE, -1);
        due("fits(0)", x.fits(0), 1024);
        due("compare(2)", x.compare(2), 1024);
        due("undo()", x.undo(), false);
        due("wished(0)", x.wished(0), -1);
        due("joke(0)", x.joke(0), -2);
        due("joke(1)", x.joke(1), 0);
        due("freeing()", x.freeing(), 0);
    }

    private static void p02Fact() {
        PactYears x = new PactYears();
        due("fact(0, true)", x.fact(0, true), true);
        due("fact(9, true)", x.fact(9, true), true);
        due("STATE", x.count(0), 513);
        due("fact(9, true) again", x.fact(9, true), true);
        due("STATE", x.count(0), 513);
        due("fact(0, false)", x.fact(0, false), true);
        due("STATE", x.count(0), 512);
        due("fact(10)", x.fact(10, true), false);
        due("fact(-1)", x.fact(-1, true), false);
        due("fact(32)", x.fact(32, true), false);
        due("STATE", x.count(0), 512);
        clause(x, 0, "0");
        due("fact whatever THE PACT is", x.fact(1, true), true);
        due("STATE", x.count(0), 514);
    }

    private static void p03Price() {
        PactYears x = new PactYears();
        due("price(3, 99)", x.price(3, 99), true);
        due("price(9, 0)", x.price(9, 0), true);
        due("count(23)", x.count(23), 99);
        due("count(29)", x.count(29), 0);
        due("price(10, 1)", x.price(10, 1), false);
        due("price(-1, 1)", x.price(-1, 1), false);
        due("price(3, 100)", x.price(3, 100), false);
        due("price(3, -1)", x.price(3, -1), false);
        due("count(23)", x.count(23), 99);
    }

    private static void p04Feed() {
        PactYears x = new PactYears();
        for (int times = 1; times <= 13; times++) {
            due("feed", x.feed(0, 0, 0, 0, 0), 20 * times);
        }
        due("feed beyond 260", x.feed(0, 0, 0, 0, 0), -1);
        due("bytes", x.count(8), 260);
        due("wish by a 0", x.wish(0, 1), -1000);
        due("empty then", x.count(8), 0);
        due("the highest first", x.feed(0x61262162, 0x7c630000, 0, 0, 0), 20);
        due("a&!b|c", x.wish(0, 6), 640);
        // a sign of a byte above 127 is no other byte's
        x.feed(0xE1000000, 0, 0, 0, 0);
        due("byte 225", x.wish(0, 1), -1000);
    }

    private static void p05Law() {
        PactYears x = new PactYears();
        due("one RULE", law(x, "d5(w=0)"), 1);
        due("three RULES", law(x, "d5(w=0);g1(1=1);x(c>9)"), 3);
        due("count(7)", x.count(7), 3);
        due("a FAULT", law(x, "d5(w=0"), -1006);
        due("the one before stays", x.count(7), 3);
        due("bytes are gone", x.count(8), 0);
        x.feed(0x78283C29, 0, 0, 0, 0);
        due("n too many", x.law(21), -1);
        due("n 0", x.law(0), -1);
        due("n below", x.law(-5), -1);
        due("n above", x.law(241), -1);
        due("the tape stays", x.count(8), 20);
        due("x(<)", x.law(4), -1002);
        lawFaults(x);
        String longest = repeat("d1+1+1+1+1(w=0)", 15, ";");
        due("239 bytes", law(x, longest), 15);
        due("240 bytes", law(x, longest.substring(0, 3) + "10" + longest.substring(4)), 15);
    }

    private static void lawFaults(PactYears x) {
        String[] texts = {"a", "d", "d(1=1)", "x1(1=1)", "d1", "d1=", "d1(", "d1()", "d1(1)", "d1(1=)", "d1(1=1",
            "d1(1=1))", "d1(1=1);", "d1(1=1);a", "d+1(1=1)", "d-1(1=1)", "dw2(1=1)", "d2w(1=1)", "d[1(1=1)", "d[](1=1)",
            "d1(1=1=1)", "d1(1=1&)", "d1(!)", "d1(!!1=1)", "d1((1=1)=1)", "d1(1=1|&1=1)", "d 1(1=1)", "d1[2](1=1)",
            "D1(1=1)", "d1(a=1)", "d1(1=1)g1(1=1)", "d1(d=1)", "d1(1<>1)"};
        int[] places = {0, 1, 1, 1, 2, 2, 3, 3, 4, 5, 6, 7, 8, 8, 1, 1, 2, 2, 3, 2, 6, 7, 4, 0, 8, 7, 1, 2, 0, 3, 7, 3, 5};
        for (int i = 0; i < texts.length; i++) {
            due("law " + texts[i], law(x, texts[i]), places[i] == 0 && i == 23 ? 1 : -1000 - places[i]);
        }
        due("five digits", law(x, "d99999(1=1)"), 1);
        due("a sixth digit", law(x, "d999999(1=1)"), -2006);
        due("a sixth digit at the end", law(x, "d1(000001"), -2008);
        due("five digits and a letter", law(x, "d99999w(1=1)"), -1006);
        due("16 RULES", law(x, repeat("x(1=0)", 16, ";")), 16);
        due("a 17th", law(x, repeat("x(1=0)", 17, ";")), -4112);
        due("a 17th that can't stand there", law(x, repeat("x(1=0)", 16, ";") + ";y"), -1112);
        due("a 17th that isn't there", law(x, repeat("x(1=0)", 16, ";") + ";"), -1112);
        due("six [", law(x, "d[[[[[[1]]]]]](1=1)"), 1);
        due("seven [", law(x, "d[[[[[[[1]]]]]]](1=1)"), -5007);
        due("six (", law(x, "x((((((1=1))))))"), 1);
        due("seven (", law(x, "x(((((((1=1)))))))"), -5007);
        due("( and five !", law(x, "x(!!!!!1=1)"), 1);
        due("( and six !", law(x, "x(!!!!!!1=1)"), -5007);
        due("a ! is open in its E", law(x, "x(!!!!![1]=1)"), -5007);
        due("a ! is open till its TEST ends", law(x, "x(!!!!!1=[1])"), -5009);
        due("and no longer", law(x, "x(!!!!!1=1&[[[[[1]]]]]=1&!!!!!1=1|(((((1=1))))))"), 1);
    }

    private static void p06Wish() {
        PactYears x = new PactYears();
        String[] texts = {"a", "!a", "a&b", "a|b", "a^b", "0", "1", "2(a,b,c)", "a|b&c", "a^b|c", "!a&b", "!(a&b)",
            "a^b&c", "a^b^c", "2(a)", "3(a,b,c,d)", "9(a,b,c,d,e,f,g,h,i,j)", "5(a,b,c,d,e,f,g,h,i,j)", "j", "!!a", "g&h&i&j",
            "2(a^b,c|d,1)", "2(a,a,b)", "a&b|c&d^e", "8(a,b,c,d,e,f,g,h)"};
        int[] sizes = {512, 512, 256, 768, 512, 0, 1024, 512, 640, 768, 256, 768, 512, 512, 0, 320, 11, 638, 512, 512, 64,
            896, 512, 640, 4};
        for (int i = 0; i < texts.length; i++) {
            due("wish " + texts[i], wish(x, i % 8, texts[i]), sizes[i]);
        }
        due("told", x.count(4), 255);
        formulaFaults(x);
        wish(x, 0, "a");
        due("granted", x.wished(0), 0);
        due("spent", x.count(6), 1);
        due("a FAULT", wish(x, 0, "a&"), -1002);
        due("still spent", x.count(6), 1);
        due("still a", x.wishIs(0, 3), 1);
        due("told again", wish(x, 0, "b"), 512);
        due("not spent", x.count(6), 0);
        refusedTelling(x, true);
        due("100 bytes", wish(x, 1, repeat("a", 50, "&") + "|"), -1100);
        due("99 bytes", wish(x, 1, repeat("a", 50, "&")), 512);
        due("100 bytes", wish(x, 1, "!" + repeat("a", 50, "|")), 1024);
    }

    private static void refusedTelling(PactYears x, boolean isWish) {
        feed(x, repeat("a", 101, ""));
        int[][] wrongOnes = {{8, 1}, {-1, 1}, {0, 0}, {0, -1}, {0, 101}, {Integer.MAX_VALUE, 1}, {0, Integer.MIN_VALUE}};
        for (int[] pair : wrongOnes) {
            due("no such ones", isWish ? x.wish(pair[0], pair[1]) : x.clause(pair[0], pair[1]), -1);
        }
        due("the tape stays", x.count(8), 120);
        feed(x, "a");
        due("not so many", isWish ? x.wish(0, 21) : x.clause(0, 21), -1);
        due("the tape stays", x.count(8), 20);
    }

    private static void formulaFaults(PactYears x) {
        String[] texts = {"k", "A", "&", ")", "a&", "a b", "ab", "a)", "(a", "()", "(a,b)", "2", "2a", "2(", "2()", "2(a",
            "2(a,", "2(a,)", "2(a))", "1(a)", "0a", "a!", "!", "a||b", "a(b)", "12(a)", "2(a;b)", "a,b", "!&a"};
        int[] places = {0, 0, 0, 0, 2, 1, 1, 1, 2, 1, 2, 1, 1, 2, 2, 3, 4, 4, 4, 1, 1, 1, 1, 2, 1, 1, 3, 1, 1};
        for (int i = 0; i < texts.length; i++) {
            due("wish " + texts[i], wish(x, 0, texts[i]), -1000 - places[i]);
        }
        due("10 FORMULAS", wish(x, 0, "2(" + repeat("a", 10, ",") + ")"), 512);
        due("an 11th", wish(x, 0, "2(" + repeat("a", 11, ",") + ")"), -4022);
        due("an 11th that can't stand there", wish(x, 0, "2(" + repeat("a", 10, ",") + ",k)"), -1022);
        due("an 11th that isn't there", wish(x, 0, "2(" + repeat("a", 10, ",") + ","), -1022);
        due("an 11th beginning with a digit", wish(x, 0, "2(" + repeat("a", 10, ",") + ",2"), -4022);
        due("an 11th inside", wish(x, 0, "2(2(" + repeat("a", 10, ",") + ",!a),b)"), -4024);
        due("many inside one another", wish(x, 0, "2(2(" + repeat("a", 10, ",") + ")," + repeat("b", 9, ",") + ")"), 512);
        due("six (", wish(x, 0, "((((((a))))))"), 512);
        due("seven (", wish(x, 0, "(((((((a)))))))"), -5006);
        due("six !", wish(x, 0, "!!!!!!a"), 512);
        due("seven !", wish(x, 0, "!!!!!!!a"), -5006);
        due("mixed", wish(x, 0, "!(2(!(2(a,b,!c"), -5012);
        due("a digit as the seventh, whatever stands behind it", wish(x, 0, "((((((2"), -5006);
        due("0 and 1 are not open", wish(x, 0, "((((((1))))))"), 1024);
        due("a ! is open till its PIECE ends", wish(x, 0, "!!!!!(!a)"), -5006);
        due("and no longer", wish(x, 0, "!!!!!!a&!!!!!!b"), 256);
        due("and no longer behind a (", wish(x, 0, "!!!!!(a)&!!!!!!b"), 256);
    }

    private static void p07Clause() {
        PactYears x = new PactYears();
        due("clause", clause(x, 7, "a&b"), 256);
        due("FIT", x.fits(0), 256);
        due("clause", clause(x, 0, "c"), 512);
        due("FIT", x.fits(0), 128);
        due("in place", clause(x, 7, "!a"), 512);
        due("FIT", x.fits(0), 256);
        due("told", x.count(5), 129);
        due("a FAULT", clause(x, 7, "a&"), -1002);
        due("FIT", x.fits(0), 256);
        refusedTelling(x, false);
        due("FIT", x.fits(0), 256);
        due("WISHES are others", x.count(4), 0);
    }

    private static void p08Drop() {
        PactYears x = new PactYears();
        clause(x, 3, "a");
        clause(x, 4, "b");
        due("drop(3)", x.drop(3), true);
        due("FIT", x.fits(0), 512);
        due("told", x.count(5), 16);
        due("drop(3) again", x.drop(3), false);
        due("drop(8)", x.drop(8), false);
        due("drop(-1)", x.drop(-1), false);
        due("drop(36)", x.drop(36), false);
        due("FIT", x.fits(0), 512);
    }

    private static void p09Wished() {
        PactYears x = withWishes("a|b&c", "!a", "0", "d|e");
        due("NONE", x.wished(4), -1);
        due("NONE", x.wished(-1), -1);
        due("NONE", x.wished(8), -1);
        law(x, "d10*c+p(w<3);g3(w=0);x(w=3)");
        x.price(0, 4);
        due("two changes are cheaper", x.wished(0), 22);
        due("STATE", x.count(0), 6);
        due("DAY", x.count(1), 22);
        due("SINS", x.count(2), 3);
        due("granted", x.count(3), 1);
        due("spent", x.wished(0), -4);
        due("no change", x.wished(1), 0);
        due("STATE", x.count(0), 6);
        due("granted", x.count(3), 2);
        due("balks", x.wished(3), -3);
        due("STATE", x.count(0), 6);
        due("not spent", x.count(6), 3);
        due("FREE", x.wished(2), -2);
        due("is FREE", x.count(9), 1);
        due("FREE already, ahead of spent", x.wished(0), -5);
        due("FREE already", x.wished(3), -5);
        wishedTies();
        wishedAtTheEnd();
        wishedByLaw();
    }

    private static void wishedTies() {
        PactYears x = withWishes("a|b", "c&d|e");
        due("least STATE", x.wished(0), 0);
        due("STATE", x.count(0), 1);
        x.price(2, 0);
        x.price(3, 1);
        due("fewest changes", x.wished(1), 0);
        due("STATE", x.count(0), 17);
        PactYears y = withWishes("a&b|c|j");
        y.price(0, 0);
        y.price(1, 0);
        y.price(9, 0);
        clause(y, 0, "!j|a");
        y.wished(0);
        due("PRICES, then changes, then the least STATE", y.count(0), 3);
        PactYears z = withWishes("1");
        clause(z, 0, "a^b");
        z.fact(2, true);
        z.wished(0);
        due("a STATE that FITS even if the WISH holds", z.count(0), 5);
    }

    private static void wishedAtTheEnd() {
        PactYears x = withWishes("a", "b");
        law(x, "d5(1=1);g[w+1]*80(1=1)");
        x.days(8638);
        due("DAYS that it takes", x.wished(0), 5);
        due("DAY", x.count(1), 8640);
        due("g to its bound", x.count(2), 80);
        due("FETCHED", x.count(9), 2);
        due("FETCHED already", x.wished(1), -5);
        due("ahead of spent", x.wished(0), -5);
        PactYears y = withWishes("a");
        y.days(8639);
        due("granted on the last DAY", y.wished(0), 0);
        PactYears z = withWishes("a");
        law(z, "g99(1=1)");
        for (int i = 0; i < 102; i++) {
            wish(z, 0, i % 2 == 0 ? "a" : "!a");
            due("wished", z.wished(0), 0);
        }
        due("SINS to their bound", z.count(2), 9999);
    }

    private static int daysBy(String rules) {
        PactYears x = withWishes("a", "b&c", "d");
        x.price(1, 7);
        law(x, "g21(1=1)");
        x.fact(5, true);
        x.days(800);
        x.wished(0);
        int rulesRead = law(x, rules);
        return rulesRead < 1 ? rulesRead : x.wished(1);
    }

    private static void wishedByLaw() {
        due("w c p s n y m z", daysBy("dw*100+c*10+p(1=1)"), 128);
        due("s", daysBy("ds(1=1)"), 2);
        due("n", daysBy("dn(1=1)"), 1);
        due("y", daysBy("dy(1=1)"), 2);
        due("m", daysBy("dm(1=1)"), 2);
        due("z", daysBy("dz(1=1)"), 21);
        due("to its bound", daysBy("d1000(1=1)"), 999);
        due("to its lower bound", daysBy("d0-1(1=1)"), 0);
        due("the first that holds", daysBy("d1(1=0);d2(1=1);d3(1=1)"), 2);
        due("none that holds", daysBy("d1(1=0);g5(1=1)"), 0);
        due("from the left on", daysBy("d100-10-5(1=1)"), 85);
        due("from the left on", daysBy("d100/7*7%50(1=1)"), 48);
        due("TERMS first", daysBy("d2+3*4-6/2(1=1)"), 11);
        due("[E]", daysBy("d[2+3]*[4-1](1=1)"), 15);
        due("32 bits", daysBy("d99999*99999%1000(1=1)"), 409);
        due("32 bits", daysBy("d7(50000*50000<0)"), 7);
        due("the least by -1", daysBy("d9+[32768*65536/[0-1]+1]%10(32768*65536<0)"), 2);
        due("E REFUSED is 0", daysBy("d5+1/0(1=1);d9(1=1)"), 0);
        due("E REFUSED by %", daysBy("d5+1%0(1=1);d9(1=1)"), 0);
        due("C REFUSED does not hold", daysBy("d5(1/0=0);d9(1=1)"), 9);
        due("nor what it is in", daysBy("d5(!1/0=0);d9(1=1)"), 9);
        due("nor what it is in", daysBy("d5(!(1/0=0|1=1));d9(1=1)"), 9);
        due("nor with | behind it", daysBy("d5(1%0=0|1=1);d9(1=1)"), 9);
        due("what no more matters is not asked", daysBy("d5(1=1|1/0=0);d9(1=1)"), 5);
        due("what no more matters is not asked", daysBy("d5(1=0&1/0=0|1=1);d9(1=1)"), 5);
        due("what no more matters is not asked", daysBy("d5(!(1=0&1/0=0));d9(1=1)"), 5);
        due("it matters", daysBy("d5(1=0|1/0=0|1=1);d9(1=1)"), 9);
        due("& before |", daysBy("d5(1=1|1=1&1=0);d9(1=1)"), 5);
        due("! of a TEST alone", daysBy("d5(!1=1&1=0|1=1);d9(1=1)"), 5);
        due("<", daysBy("d5(1<1);d6(0-1<0);d9(1=1)"), 6);
        due(">", daysBy("d5(1>1);d6(1>0-1);d9(1=1)"), 6);
        due("x", daysBy("x(1=0);d4(1=1);x(c=2)"), -3);
        due("x REFUSED", daysBy("x(c/0=0);d4(1=1)"), 4);
        due("no d", daysBy("g5(1=1)"), 0);
    }

    private static void p10Tried() {
        PactYears x = withWishes("a&b", "0", "c", "d");
        law(x, "d7*c(1=1);g2(1=1);x(w=3)");
        x.price(0, 5);
        x.wished(2);
        int[] wants = {14, 7, 2, 6, 2};
        for (int what = 0; what <= 4; what++) {
            due("tried(0, " + what + ")", x.tried(0, what), wants[what]);
        }
        int[] answers = {-2, -4, -3};
        for (int k = 1; k <= 3; k++) {
            due("not granted", x.tried(k, 0), answers[k - 1]);
            due("THE STATE as it is", x.tried(k, 1), 4);
            due("0", x.tried(k, 2) + x.tried(k, 3) + x.tried(k, 4), 0);
        }
        due("nothing is changed", x.count(0) * 1000 + x.count(1), 4007);
        due("nothing is changed", x.count(9), 0);
        due("nothing is changed", x.count(6), 4);
        due("no such what", x.tried(0, 5), -1);
        due("no such what", x.tried(0, -1), -1);
        due("no such WISH", x.tried(4, 0), -1);
        due("no such WISH", x.tried(8, 0), -1);
        for (int i = 0; i < 84; i++) {
            x.summer(360);
        }
        due("SINS to their bound", x.count(2), 9999);
        due("what it brings, whatever SINS are", x.tried(0, 4), 2);
        x.wished(1);
        due("FREE", x.tried(0, 0), -5);
        due("THE STATE as it is", x.tried(0, 1), 4);
    }

    private static void p11Days() {
        PactYears x = new PactYears();
        due("days(1)", x.days(1), 1);
        due("days(0)", x.days(0), -1);
        due("days(-1)", x.days(-1), -1);
        due("days(8641)", x.days(8641), -1);
        due("days(8638)", x.days(8638), 8639);
        due("neither", x.count(9), 0);
        due("days(8640)", x.days(8640), 8640);
        due("FETCHED", x.count(9), 2);
        due("days(1)", x.days(1), 8640);
    }

    private static void p12Fits() {
        PactYears x = new PactYears();
        clause(x, 0, "b&!j");
        clause(x, 1, "c|d");
        int[] wants = {192, 6, 511, 2, 512, 0};
        for (int what = 0; what <= 5; what++) {
            due("fits(" + what + ")", x.fits(what), wants[what]);
        }
        set(x, 6);
        due("fits(5)", x.fits(5), 1);
        due("no such what", x.fits(6), -1);
        due("no such what", x.fits(-1), -1);
        clause(x, 2, "!(a|b|c|d|e|f|g|h|i|j)");
        clause(x, 0, "1");
        clause(x, 1, "1");
        due("one FITS: the first and the last", x.fits(0) * 100 + x.fits(1) + x.fits(2), 100);
        due("FACTS so in none", x.fits(4), 1023);
        clause(x, 2, "a&b&c&d&e&f&g&h&i&j");
        due("one FITS: the first", x.fits(1), 1023);
        due("FACTS so in all", x.fits(3), 1023);
        clause(x, 2, "0");
        int[] none = {0, -2, -2, -2, -2, 0};
        for (int what = 0; what <= 5; what++) {
            due("none FITS, fits(" + what + ")", x.fits(what), none[what]);
        }
        due("no such what", x.fits(6), -1);
    }

    private static void p13WishIs() {
        PactYears x = withWishes("a|b&!g", "a&!a", "2(a,b,c)^d", "j");
        clause(x, 0, "a|b");
        due("STATES that FIT", x.wishIs(0, 0), 640);
        due("not now", x.wishIs(0, 1), 0);
        due("not spent", x.wishIs(0, 2), 0);
        due("ON", x.wishIs(0, 3), 67);
        due("RISING", x.wishIs(0, 4), 3);
        due("ON nothing", x.wishIs(1, 3), 0);
        due("RISING nothing", x.wishIs(1, 4), 0);
        due("ON", x.wishIs(2, 3), 15);
        due("RISING", x.wishIs(2, 4), 0);
        due("ON j", x.wishIs(3, 3), 512);
        due("RISING j", x.wishIs(3, 4), 512);
        wish(x, 4, "!(b|g|h|i|j)");
        due("ON b g h i j", x.wishIs(4, 3), 962);
        due("RISING by none", x.wishIs(4, 4), 0);
        x.wished(0);
        due("now", x.wishIs(0, 1), 1);
        due("spent", x.wishIs(0, 2), 1);
        due("no such what", x.wishIs(0, 5), -1);
        due("no such what", x.wishIs(0, -1), -1);
        due("no such WISH", x.wishIs(5, 0), -1);
        due("no such WISH", x.wishIs(-1, 0), -1);
    }

    private static void p14Why() {
        PactYears x = withWishes("a&b", "0", "c");
        clause(x, 0, "!a|c");
        clause(x, 2, "!c|d");
        clause(x, 5, "!b|!d");
        clause(x, 7, "!(a&b&d)");
        due("three or three", x.why(0, 0), 3);
        due("the least bits", x.why(0, 1), 37);
        due("it can be", x.why(2, 0), -2);
        due("it can be", x.why(2, 1), -2);
        due("without any", x.why(1, 0), 0);
        due("without any", x.why(1, 1), 0);
        clause(x, 6, "!b");
        due("one", x.why(0, 0), 1);
        due("one", x.why(0, 1), 64);
        wish(x, 3, "!(g|h|i|j)&!b");
        due("by few STATES", x.why(3, 0), -2);
        clause(x, 4, "b|g|h|i|j");
        due("by few STATES", x.why(3, 1), 16);
        due("no such what", x.why(0, 2), -1);
        due("no such what", x.why(0, -1), -1);
        due("no such WISH", x.why(4, 0), -1);
        due("no such WISH", x.why(8, 0), -1);
    }

    private static void p15Joke() {
        PactYears x = new PactYears();
        clause(x, 1, "a");
        clause(x, 3, "b&c");
        clause(x, 4, "b|d");
        due("which", x.joke(0), 3);
        due("how many", x.joke(1), 256);
        clause(x, 2, "b&c");
        due("of like ones the lowest", x.joke(0), 1);
        due("how many", x.joke(1), 128);
        x.drop(1);
        due("none is missed: the lowest", x.joke(0), 2);
        due("how many", x.joke(1), 0);
        due("no such what", x.joke(2), -1);
        due("no such what", x.joke(-1), -1);
    }

    private static void p16Freeing() {
        PactYears x = withWishes("a", "!a", "0", "1", "a&b");
        due("0 alone", x.freeing(), 4);
        clause(x, 0, "!a|!b");
        due("and a&b", x.freeing(), 20);
        clause(x, 1, "a");
        due("and !a", x.freeing(), 22);
        clause(x, 2, "b");
        due("all", x.freeing(), 31);
        due("nothing is changed", x.count(9), 0);
    }

    private static void p17InOrder() {
        PactYears x = withWishes("a|b&c", "a&!b", "2(a,b,c)^d", "0", "e", "f", "g", "h");
        law(x, "dp*9+5(1=1);x(n>4)");
        x.price(0, 4);
        due("days of 0, 1", x.inOrder(3, 20), 46);
        due("1 first", x.inOrder(3, 0), 1);
        due("0 then", x.inOrder(3, 1), 0);
        due("no such place", x.inOrder(3, 2), -1);
        due("no such place", x.inOrder(3, 19), -1);
        due("no such place", x.inOrder(3, -1), -1);
        due("one", x.inOrder(4, 20), 14);
        due("one", x.inOrder(4, 0), 2);
        due("not in any order", x.inOrder(8, 20), -2);
        due("not in any order", x.inOrder(9, 1), -2);
        due("no place of one that can't be", x.inOrder(8, 1), -1);
        due("of like ones the least row", x.inOrder(0x70, 20), 42);
        due("the least row", x.inOrder(0x70, 0) * 100 + x.inOrder(0x70, 1) * 10 + x.inOrder(0x70, 2), 456);
        due("five", x.inOrder(0xF1, 20), 79);
        due("six", x.inOrder(0xF5, 20), -1);
        due("none", x.inOrder(0, 20), -1);
        due("no such WISH", x.inOrder(256, 20), -1);
        due("no such WISH", x.inOrder(-1, 20), -1);
        x.wished(4);
        due("one is spent", x.inOrder(0x30, 20), -2);
        due("by what is granted the spirit balks", x.inOrder(0xE7, 20), -1);
        due("by what is granted the spirit balks", x.inOrder(0xE3, 20), -2);
        due("nothing is changed", x.count(6), 16);
        x.days(8617 - x.count(1));
        due("FETCHED between two", x.inOrder(3, 20), -2);
        due("FETCHED by the last", x.inOrder(1, 20), 23);
        x.days(20);
        due("FETCHED ahead of the last one's DAYS", x.inOrder(1, 20), 23);
        PactYears y = withWishes("a", "!a");
        law(y, "d[1-w]*90+1(s=0);d2(1=1)");
        due("by what stands ahead of each", y.inOrder(3, 20), 92);
        due("row", y.inOrder(3, 0) * 10 + y.inOrder(3, 1), 10);
        y.fact(0, true);
        due("the other way", y.inOrder(3, 20), 4);
        due("row", y.inOrder(3, 0) * 10 + y.inOrder(3, 1), 1);
    }

    private static void p18ByWishes() {
        PactYears x = withWishes("a&b&c", "a", "b", "c&!d", "!a", "0", "d");
        due("three", x.byWishes(0, 20), 3);
        due("row", x.byWishes(0, 0) * 100 + x.byWishes(0, 1) * 10 + x.byWishes(0, 2), 123);
        due("not so many", x.byWishes(0, 3), -4);
        due("holds already", x.byWishes(4, 20), 0);
        due("not so many", x.byWishes(4, 0), -4);
        due("one", x.byWishes(1, 20), 1);
        due("row", x.byWishes(1, 0), 0);
        due("not by 4", x.byWishes(5, 20), -2);
        due("not by 4", x.byWishes(5, 3), -2);
        due("no such place", x.byWishes(0, 4), -1);
        due("no such place", x.byWishes(0, -1), -1);
        due("no such place", x.byWishes(0, 19), -1);
        due("no such WISH", x.byWishes(7, 20), -1);
        due("no such WISH", x.byWishes(8, 20), -1);
        x.wished(1);
        due("two are left", x.byWishes(0, 20), 2);
        x.fact(0, false);
        due("a is spent", x.byWishes(0, 20), -2);
        due("a spent one may be asked for", x.byWishes(1, 20), 1);
        law(x, "x(n=1&w=0)");
        due("the spirit balks at first", x.byWishes(1, 20), 2);
        due("behind the lowest other", x.byWishes(1, 0) * 10 + x.byWishes(1, 1), 20);
        x.wished(5);
        due("FREE", x.byWishes(1, 20), -2);
        due("FREE, and it holds", x.byWishes(4, 20), 0);
        PactYears y = withWishes("a&b&c&d&e", "a", "b", "c", "d", "e");
        due("five would do", y.byWishes(0, 20), -2);
        y.fact(4, true);
        due("four", y.byWishes(0, 20), 4);
        due("the last", y.byWishes(0, 3), 4);
    }

    private static void p19Follows() {
        PactYears x = withWishes("a&b", "a", "a|b", "b");
        due("FOLLOWS", x.follows(0, 1, 0), 1);
        due("not back", x.follows(1, 0, 0), 0);
        due("not ALIKE", x.follows(0, 1, 1), 0);
        due("STATES", x.follows(0, 1, 2), 256);
        due("itself", x.follows(2, 2, 0) * 10 + x.follows(2, 2, 1), 11);
        due("itself", x.follows(2, 2, 2), 0);
        clause(x, 0, "!(a^b)");
        due("ALIKE by THE PACT", x.follows(1, 3, 1), 1);
        due("STATES", x.follows(1, 3, 2), 0);
        due("ALIKE by THE PACT", x.follows(2, 0, 0), 1);
        due("no such what", x.follows(0, 1, 3), -1);
        due("no such what", x.follows(0, 1, -1), -1);
        due("no such WISH", x.follows(4, 0, 0), -1);
        due("no such WISH", x.follows(0, 4, 0), -1);
        due("no such WISH", x.follows(0, 8, 0), -1);
    }

    private static void p20Word() {
        PactYears x = withWishes("a|b&c", "!b&c|d&e", "0", "1", "a^j", "3(f,g,h,i)", "b|!a", "2(c,d,e)&!b");
        int[][] words = {{1, 1, 1}, {2, 6, 4}, {-2, -2, -2}, {0, 0, 0}, {2, 513, 1}, {3, 224, 224}, {1, 1, 0}, {3, 14, 12}};
        for (int k = 0; k < 8; k++) {
            for (int what = 0; what <= 2; what++) {
                due("word(" + k + ", " + what + ")", x.word(k, what), words[k][what]);
            }
        }
        clause(x, 0, "!a");
        due("without THE PACT", x.word(0, 1), 1);
        due("no such what", x.word(0, 3), -1);
        due("no such what", x.word(0, -1), -1);
        due("no such WISH", x.word(8, 0), -1);
        due("no such WISH", new PactYears().word(0, 0), -1);
    }

    private static void p21Power() {
        PactYears x = withWishes("a|b&c", "a^j", "1");
        due("a", x.power(0, 0), 768);
        due("b", x.power(0, 1), 256);
        due("d", x.power(0, 3), 0);
        due("j", x.power(1, 9), 1024);
        due("of 1", x.power(2, 0), 0);
        due("no such FACT", x.power(0, 10), -1);
        due("no such FACT", x.power(0, -1), -1);
        due("no such WISH", x.power(3, 0), -1);
        due("no such WISH", x.power(-1, 0), -1);
    }

    private static void p22Like() {
        PactYears x = withWishes("a|b&c", "2(a,g,j)", "a&!h", "1", "a^b^!g");
        due("b: c", x.like(0, 1), 4);
        due("a: none", x.like(0, 0), 0);
        due("d: e to j", x.like(0, 3), 1008);
        due("a: g j", x.like(1, 0), 576);
        due("g: a j", x.like(1, 6), 513);
        due("b: c to f, h, i", x.like(1, 1), 444);
        due("h: none", x.like(2, 7), 0);
        due("all others", x.like(3, 9), 511);
        due("odd ones", x.like(4, 6), 3);
        wish(x, 5, "!(g|h|i|j)&a&!b");
        due("by few STATES", x.like(5, 0), 0);
        due("by few STATES", x.like(5, 6), 898);
        due("no such FACT", x.like(0, 10), -1);
        due("no such FACT", x.like(0, -1), -1);
        due("no such WISH", x.like(6, 0), -1);
        due("no such WISH", x.like(8, 0), -1);
    }

    private static void p23Ladder() {
        PactYears x = withWishes("a&b", "1", "0", "c", "j");
        due("two", x.ladder(0, 0), 2);
        due("the lowest", x.ladder(0, 1), 0);
        due("holds already", x.ladder(1, 0), 0);
        due("holds already", x.ladder(1, 1), -3);
        due("none", x.ladder(2, 0), -2);
        due("none", x.ladder(2, 1), -2);
        clause(x, 0, "!a|b");
        due("b first", x.ladder(0, 1), 1);
        clause(x, 1, "!b|c");
        clause(x, 2, "!c|d|e&f");
        due("d first", x.ladder(0, 0), 4);
        due("d first", x.ladder(0, 1), 3);
        due("d first", x.ladder(3, 0), 2);
        clause(x, 3, "!(g^j)");
        due("j can't change alone", x.ladder(4, 0), -2);
        clause(x, 3, "!j|g&h&i");
        due("j last", x.ladder(4, 0), 4);
        due("g first", x.ladder(4, 1), 6);
        set(x, 1);
        due("THE STATE does not FIT", x.ladder(0, 0), -2);
        due("THE STATE does not FIT", x.ladder(1, 0), -2);
        due("no such what", x.ladder(0, 2), -1);
        due("no such what", x.ladder(0, -1), -1);
        due("no such WISH", x.ladder(5, 0), -1);
        due("no such WISH", x.ladder(8, 0), -1);
        longLadder();
    }

    /** THE PACT lets the FACTS a to j change only one behind the other, to and fro. */
    private static void longLadder() {
        PactYears x = withWishes("j&!a");
        clause(x, 0, "(!b|a)&(!c|b)&(!d|c)&(!e|d)&(!f|e)|j");
        clause(x, 1, "(!g|f)&(!h|g)&(!i|h)&(!j|i)|j&!b");
        due("j at once", x.ladder(0, 0) * 10 + x.ladder(0, 1), 19);
        clause(x, 1, "(!g|f)&(!h|g)&(!i|h)&(!j|i)");
        due("up in ten, and a once more", x.ladder(0, 0), 11);
        due("a first", x.ladder(0, 1), 0);
    }

    private static void p24Likely() {
        PactYears x = withWishes("a|b&c", "1", "0", "a&b&c&d&e&f&g&h&i&j", "g^j");
        feed(x, bytes(5, 2, 5, 0, 0, 0, 0, 0, 0, 0));
        due("above", x.likely(0, 0), 11);
        due("the tape is empty", x.count(8), 0);
        feed(x, bytes(5, 2, 5, 0, 0, 0, 0, 0, 0, 0));
        due("below", x.likely(0, 1), 20);
        feed(x, bytes(3, 3, 3, 3, 3, 3, 3, 3, 3, 3));
        due("surely", x.likely(1, 0), 1);
        feed(x, bytes(3, 3, 3, 3, 3, 3, 3, 3, 3, 3));
        due("surely", x.likely(1, 1), 1);
        feed(x, bytes(3, 3, 3, 3, 3, 3, 3, 3, 3, 3));
        due("never", x.likely(2, 0), 0);
        feed(x, bytes(3, 3, 3, 3, 3, 3, 3, 3, 3, 3));
        due("never", x.likely(2, 1), 1);
        feed(x, bytes(3, 3, 3, 3, 3, 3, 3, 3, 3, 3));
        due("3 to the tenth", x.likely(3, 0), 59049);
        feed(x, bytes(3, 3, 3, 3, 3, 3, 3, 3, 3, 3));
        due("10 to the tenth", x.likely(3, 1), 10000000000L);
        feed(x, bytes(0, 0, 0, 0, 0, 0, 10, 0, 0, 1));
        due("g^j", x.likely(4, 0), 9);
        feed(x, bytes(0, 0, 0, 0, 0, 0, 0, 0, 0, 11));
        due("a byte above 10", x.likely(0, 0), -2);
        due("the tape is empty", x.count(8), 0);
        feed(x, bytes(255, 0, 0, 0, 0, 0, 0, 0, 0, 0));
        due("a byte above 10", x.likely(0, 1), -2);
        due("not so many", x.likely(0, 0), -1);
        feed(x, bytes(0, 0, 0, 0, 0, 0, 0, 0, 0, 0, 99));
        due("no such what", x.likely(0, 2), -1);
        due("no such what", x.likely(0, -1), -1);
        due("no such WISH", x.likely(5, 0), -1);
        due("the tape stays", x.count(8), 20);
        due("the first ten", x.likely(0, 0), 0);
    }

    private static void p25Asked() {
        PactYears x = new PactYears();
        clause(x, 0, "!a|d");
        clause(x, 1, "!(a&b)");
        int[] wants = {128, 9, 8, 2, 2};
        for (int what = 0; what <= 4; what++) {
            due("asked(1, 1, " + what + ")", x.asked(1, 1, what), wants[what]);
            due("others are not looked at", x.asked(1, 1023, what), wants[what]);
        }
        due("not so", x.asked(1, 1022, 0), 512);
        due("of like ones the lowest", x.asked(0, 0, 4), 2);
        int[] none = {0, -2, 0, 0, -2};
        for (int what = 0; what <= 4; what++) {
            due("none is left, asked(9, 1, " + what + ")", x.asked(9, 1, what), none[what]);
        }
        due("all are asked", x.asked(1023, 1020, 4), -2);
        due("all are asked", x.asked(1023, 1020, 2), 0);
        due("all are asked", x.asked(1023, 1020, 1), 1020);
        due("it tells nothing", x.asked(1014, 9, 4), 0);
        due("it tells nothing", x.asked(1015, 1, 4), -2);
        due("surely so", x.asked(1015, 1, 2), 8);
        due("no such what", x.asked(0, 0, 5), -1);
        due("no such what", x.asked(0, 0, -1), -1);
        due("no such FACTS", x.asked(1024, 0, 0), -1);
        due("no such FACTS", x.asked(-1, 0, 0), -1);
        for (int what = 0; what <= 4; what++) {
            due("what is so must be FACTS", x.asked(1, -1, what), -1);
            due("what is so must be FACTS", x.asked(1, 1024, what), -1);
            due("what is so must be FACTS", x.asked(0, 1025, what), -1);
            due("what is so must be FACTS", x.asked(1023, Integer.MIN_VALUE, what), -1);
        }
    }

    private static void p26Questions() {
        PactYears x = new PactYears();
        for (int n = 0; n <= 10; n++) {
            due("questions(0, 0, " + n + ")", x.questions(0, 0, n), 1024 >> n);
        }
        clause(x, 0, "2(a,b,c)");
        due("as many as there are", x.questions(0, 0, 0), 512);
        due("half by d", x.questions(0, 0, 1), 256);
        due("d to j", x.questions(0, 0, 7), 4);
        due("a is so in three of four", x.questions(0, 0, 8), 3);
        due("b is so in two of three", x.questions(0, 0, 9), 2);
        due("c tells", x.questions(0, 0, 10), 1);
        due("likewise", x.questions(1016, 0, 1), 3);
        due("not so of like ones", x.questions(1022, 1020, 1), 1);
        due("none", x.questions(7, 1, 3), 0);
        due("no such n", x.questions(0, 0, 11), -1);
        due("no such n", x.questions(0, 0, -1), -1);
        due("no such FACTS", x.questions(1024, 0, 1), -1);
        due("no such FACTS", x.questions(-1, 0, 1), -1);
        due("others are not looked at", x.questions(1016, 7, 1), 3);
        for (int n = 0; n <= 10; n++) {
            due("what is so must be FACTS", x.questions(0, -1, n), -1);
            due("what is so must be FACTS", x.questions(1, 1024, n), -1);
            due("what is so must be FACTS", x.questions(0, 1025, n), -1);
            due("what is so must be FACTS", x.questions(1023, Integer.MIN_VALUE, n), -1);
        }
        // with either answer of b half is left, but then c tells only where b is not so
        clause(x, 0, "!a&!d&!e&!f&!g&!h&!i&!j&(!b|c&!b|c)");
        due("three", x.questions(0, 0, 0), 3);
        due("b not so is the greater part", x.questions(0, 0, 1), 2);
        due("c is asked then", x.questions(0, 0, 2), 1);
    }

    private static void p27Copy() {
        PactYears x = new PactYears();
        due("all", x.copy(), 1024);
        clause(x, 0, "a");
        due("half", x.copy(), 512);
        x.drop(0);
        due("THE OTHER PACT stays", x.compare(2), 512);
        clause(x, 0, "0");
        due("none", x.copy(), 0);
    }

    private static void p28Compare() {
        PactYears x = new PactYears();
        clause(x, 0, "a&b");
        due("none COPIED: THE PACT alone", x.compare(0), 0);
        due("none COPIED: the other one alone", x.compare(1), 768);
        due("none COPIED: both", x.compare(2), 256);
        x.copy();
        clause(x, 0, "a^c");
        due("THE PACT alone", x.compare(0), 384);
        due("the other one alone", x.compare(1), 128);
        due("both", x.compare(2), 128);
        due("no such what", x.compare(3), -1);
        due("no such what", x.compare(-1), -1);
    }

    private static int dead(PactYears x, int what, int... states) {
        feed(x, states(states));
        return x.dead(states.length, what);
    }

    private static void p29Dead() {
        PactYears x = new PactYears();
        x.price(0, 4);
        due("PRICES", dead(x, 10, 6, 1), 8);
        due("6 first", dead(x, 0, 6, 1), 0);
        due("1 then", dead(x, 1, 6, 1), 1);
        due("the tape is empty", x.count(8), 0);
        due("no such place", dead(x, 2, 6, 1), -4);
        due("no such place", dead(x, -1, 6, 1), -4);
        due("no such place", dead(x, 11, 6, 1), -4);
        due("the tape is empty", x.count(8), 0);
        due("one", dead(x, 10, 1023), 13);
        due("one", dead(x, 0, 1023), 0);
        due("above 1023", dead(x, 10, 1024), -2);
        due("above 1023", dead(x, 0, 3, 65535), -2);
        due("the tape is empty", x.count(8), 0);
        due("of like ones the least row", dead(x, 0, 2, 4, 6), 0);
        due("of like ones the least row", dead(x, 1, 2, 4, 6), 2);
        due("twice the same", dead(x, 10, 2, 2, 0), 1);
        due("twice the same", dead(x, 0, 2, 2, 0), 2);
        due("twice the same", dead(x, 1, 2, 2, 0), 0);
        set(x, 512);
        due("from THE STATE", dead(x, 10, 0, 512), 1);
        due("from THE STATE", dead(x, 0, 0, 512), 1);
        int[] eight = {512 + 254, 512 + 2, 512 + 62, 512 + 6, 512 + 126, 512 + 14, 512 + 30, 512};
        due("eight", dead(x, 10, eight), 7);
        int[] row = {7, 1, 3, 5, 6, 2, 4, 0};
        for (int place = 0; place < 8; place++) {
            due("eight, place " + place, dead(x, place, eight), row[place]);
        }
        due("fewer behind eight", dead(x, 10, 512, 0), 1);
        due("not so many", x.dead(1, 10), -1);
        feed(x, states(1, 2));
        due("not so many", x.dead(11, 10), -1);
        due("no such n", x.dead(0, 10), -1);
        due("no such n", x.dead(9, 10), -1);
        due("no such n", x.dead(-1, 10), -1);
        due("the tape stays", x.count(8), 20);
    }

    private static void p30Summer() {
        PactYears x = withWishes("0");
        due("summer(30)", x.summer(30), 10);
        due("DAY 0 at least", x.count(1), 0);
        due("summer(31)", x.summer(31), 20);
        due("SINS", x.count(2), 30);
        due("summer(360)", x.summer(360), 120);
        x.days(149);
        due("month 4", x.summer(1), 10);
        x.days(2);
        due("month 5", x.summer(1), 20);
        due("DAY", x.count(1), 149);
        x.days(90);
        due("month 7", x.summer(30), 20);
        x.days(31);
        due("month 8", x.summer(1), 10);
        x.days(360);
        due("a YEAR later", x.count(1), 599);
        due("month 7", x.summer(360), 240);
        due("DAY", x.count(1), 239);
        due("no such n", x.summer(0), -1);
        due("no such n", x.summer(361), -1);
        due("no such n", x.summer(-1), -1);
        for (int i = 0; i < 90; i++) {
            x.summer(360);
        }
        due("SINS to their bound", x.count(2), 9999);
        due("they cost", x.summer(1), 10);
        x.days(8640);
        due("FETCHED", x.summer(1), -1);
        due("DAY", x.count(1), 8640);
        PactYears y = withWishes("0");
        y.wished(0);
        due("FREE", y.summer(1), -1);
        due("SINS", y.count(2), 0);
    }

    private static void p31Hindered() {
        PactYears x = new PactYears();
        due("nothing is forbidden: the lowest", x.hindered(12, 0), 2);
        due("nothing is forbidden", x.hindered(12, 1), 0);
        clause(x, 0, "!a|d");
        clause(x, 1, "!h");
        due("h most", x.hindered(1023, 0), 7);
        due("h most", x.hindered(1023, 1), 384);
        due("a and d alike", x.hindered(9, 0), 0);
        due("a and d alike", x.hindered(9, 1), 128);
        due("d alone", x.hindered(8, 0), 3);
        due("b", x.hindered(2, 1), 0);
        due("none told", x.hindered(0, 0), -1);
        due("no such FACTS", x.hindered(1024, 0), -1);
        due("no such FACTS", x.hindered(-1, 0), -1);
        due("no such what", x.hindered(1, 2), -1);
        due("no such what", x.hindered(1, -1), -1);
        clause(x, 2, "0");
        due("none FITS", x.hindered(6, 0), 1);
        due("none FITS", x.hindered(6, 1), 0);
    }

    private static void p32Friends() {
        PactYears x = withWishes("a", "b", "!(a&b)", "c", "!a", "d", "0");
        due("all can", x.friends(3, 0), -2);
        due("all can", x.friends(3, 1), -2);
        due("three", x.friends(7, 0), 3);
        due("three", x.friends(7, 1), 7);
        due("two", x.friends(31, 0), 2);
        due("two", x.friends(31, 1), 17);
        due("one", x.friends(66, 0), 1);
        due("one", x.friends(66, 1), 64);
        clause(x, 0, "!b|!c");
        due("by THE PACT", x.friends(10, 1), 10);
        due("of like ones the least", x.friends(27, 1), 10);
        due("six", x.friends(63, 0), 2);
        due("seven", x.friends(127, 0), -1);
        due("one", x.friends(1, 0), -1);
        due("none", x.friends(0, 0), -1);
        due("no such WISH", x.friends(129, 0), -1);
        due("no such WISH", x.friends(257, 0), -1);
        due("no such WISH", x.friends(-1, 0), -1);
        due("no such what", x.friends(3, 2), -1);
        due("no such what", x.friends(3, -1), -1);
        clause(x, 1, "0");
        due("none FITS: one at least", x.friends(12, 0), 1);
        due("none FITS: the least", x.friends(12, 1), 4);
    }

    private static void p33Keep() {
        PactYears x = withWishes("a");
        x.days(17);
        due("DAY", x.keep(), 17);
        x.days(1);
        due("DAY", x.keep(), 18);
        x.days(5);
        x.undo();
        due("as KEPT last", x.count(1), 18);
        x.days(8640);
        due("DAY", x.keep(), 8640);
    }

    private static void p34Undo() {
        PactYears x = withWishes("a", "0", "b");
        law(x, "d3(1=1);g4(1=1)");
        due("none was KEPT", x.undo(), false);
        x.wished(0);
        x.keep();
        x.wished(2);
        x.price(4, 9);
        clause(x, 0, "!c");
        x.wished(1);
        due("FREE", x.count(9), 1);
        due("undo", x.undo(), true);
        int[] wants = {1, 3, 4, 1, 7, 1, 1, 2, 0, 0};
        for (int what = 0; what <= 9; what++) {
            due("count(" + what + ")", x.count(what), wants[what]);
        }
        due("PRICES are not KEPT", x.count(24), 9);
        due("CLAUSES are not KEPT", x.fits(0), 512);
        x.days(8640);
        due("undo again", x.undo(), true);
        due("not FETCHED", x.count(9), 0);
        wish(x, 0, "b");
        due("told anew: not spent", x.count(6), 0);
        x.undo();
        due("spent as it was KEPT", x.count(6), 1);
        due("spent as it was KEPT", x.wished(0), -4);
    }

    private static void p35Check() {
        PactYears x = new PactYears();
        set(x, 514);
        feed(x, bytes(0, 1, 0, 0, 0, 0, 0, 0, 0, 1));
        due("right", x.check(10), -1);
        due("the tape is empty", x.count(8), 0);
        feed(x, bytes(0, 1, 1, 0, 0, 0, 0, 0, 0, 0));
        due("the first that is not so", x.check(10), 2);
        feed(x, bytes(0, 1, 0, 0, 0, 0, 0, 0, 0, 0));
        due("j", x.check(10), 9);
        feed(x, bytes(0, 1, 0, 0, 0, 0, 0, 0, 0, 0));
        due("all but j", x.check(9), -1);
        feed(x, bytes(0, 2));
        due("a 2 is not so", x.check(2), 1);
        feed(x, bytes(1));
        due("none is asked", x.check(0), -1);
        due("the tape is empty", x.count(8), 0);
        due("none is asked", x.check(0), -1);
        due("not so many", x.check(1), -2);
        feed(x, bytes(0));
        due("no such n", x.check(11), -2);
        due("no such n", x.check(-1), -2);
        due("the tape stays", x.count(8), 20);
    }

    private static void p36Count() {
        PactYears x = withWishes("a", "b", "c");
        clause(x, 5, "!j");
        law(x, "d4(1=1);g5(1=1);x(w=2)");
        x.wished(1);
        x.wished(2);
        x.price(9, 33);
        x.feed(0, 0, 0, 0, 0);
        int[] wants = {2, 4, 5, 1, 7, 32, 2, 3, 20, 0};
        for (int what = 0; what <= 9; what++) {
            due("count(" + what + ")", x.count(what), wants[what]);
        }
        due("count(20)", x.count(20), 1);
        due("count(29)", x.count(29), 33);
        for (int what : new int[] {-1, 10, 19, 30, Integer.MIN_VALUE, Integer.MAX_VALUE}) {
            due("count(" + what + ")", x.count(what), -1);
        }
        clause(x, 6, "!a");
        x.wished(0);
        due("FREE", x.count(9), 1);
        x.days(8640);
        due("FREE stays", x.count(9), 1);
    }

    private static void first() {
        Runnable[] all = {PactYearsPromises::p01NewObject, PactYearsPromises::p02Fact, PactYearsPromises::p03Price,
            PactYearsPromises::p04Feed, PactYearsPromises::p05Law, PactYearsPromises::p06Wish, PactYearsPromises::p07Clause,
            PactYearsPromises::p08Drop, PactYearsPromises::p09Wished, PactYearsPromises::p10Tried, PactYearsPromises::p11Days,
            PactYearsPromises::p12Fits, PactYearsPromises::p13WishIs, PactYearsPromises::p14Why, PactYearsPromises::p15Joke,
            PactYearsPromises::p16Freeing, PactYearsPromises::p17InOrder, PactYearsPromises::p18ByWishes,
            PactYearsPromises::p19Follows, PactYearsPromises::p20Word, PactYearsPromises::p21Power, PactYearsPromises::p22Like,
            PactYearsPromises::p23Ladder, PactYearsPromises::p24Likely, PactYearsPromises::p25Asked,
            PactYearsPromises::p26Questions, PactYearsPromises::p27Copy, PactYearsPromises::p28Compare,
            PactYearsPromises::p29Dead, PactYearsPromises::p30Summer, PactYearsPromises::p31Hindered,
            PactYearsPromises::p32Friends, PactYearsPromises::p33Keep, PactYearsPromises::p34Undo, PactYearsPromises::p35Check,
            PactYearsPromises::p36Count};
        for (Runnable one : all) {
            promise++;
            one.run();
        }
    }

    public static void main(String[] args) {
        first();
        System.out.println("Promises: " + promise + " promises, " + asked + " answers, " + wrong + " are not as due");
        if (wrong != 0) {
            System.exit(1);
        }
    }
}
