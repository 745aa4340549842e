/** What it is; FACTS, FORMULAS and THE LAW as texts. */
final class SentencesOfTexts extends Sentences {
    private static long size(String formula) {
        return wish(new PactYears(), 3, formula);
    }

    /** DAYS that a WISH takes by this LAW, or the FAULT. */
    private static long days(String law) {
        PactYears x = withWishes("1");
        int rules = law(x, law);
        return rules < 1 ? rules : x.tried(0, 0);
    }

    /** SINS that a WISH brings by this LAW, or the FAULT. */
    private static long sins(String law) {
        PactYears x = withWishes("1");
        int rules = law(x, law);
        return rules < 1 ? rules : x.tried(0, 4);
    }

    /** 1 if a RULE of this C holds, 0 if not, or the FAULT. */
    private static long holds(String c) {
        long answer = days("x(" + c + ")");
        return answer == -3 ? 1 : answer;
    }

    private static long rules(String law) {
        return law(new PactYears(), law);
    }

    // ---- what it is

    static void usedForAtMost512Calls() {
        of(0, "An object is used for at most 512 calls after it has been made; what later calls answer is free.");
        PactYears x = new PactYears();
        for (int call = 1; call <= 508; call++) {
            due("call " + call, x.days(1), call);
        }
        due("call 509", x.feed(0x61000000, 0, 0, 0, 0), 20);
        due("call 510", x.wish(0, 1), 512);
        due("call 511", x.wished(0), 0);
        due("call 512", x.count(0), 1);
        // free, but no call may throw
        for (int call = 513; call < 2000; call++) {
            x.feed(call, call, call, call, call);
            x.wish(call % 8, 1 + call % 100);
            x.wished(call % 8);
            x.undo();
        }
    }

    static void allMemoryIsItsOwn() {
        of(0, "All memory is the scholar's own.");
        PactYears one = made(Kind.FULL);
        PactYears two = new PactYears();
        PactYears three = made(Kind.SOME);
        same("one made ahead", two, new PactYears());
        same("one made behind", three, made(Kind.SOME));
        same("the first", one, made(Kind.FULL));
    }

    static void refusedChangesNothing() {
        of(0, "A call that is refused (NONE, false) changes nothing but the tape, where it is told.");
        none("feed to a full tape or a wish() that is no such one", x -> x.count(8) > 240 ? x.feed(1, 2, 3, 4, 5) : x.wish(8, 1));
        none("law(0)", x -> x.law(0));
        none("wish(8, 1)", x -> x.wish(8, 1));
        none("clause(8, 1)", x -> x.clause(8, 1));
        refused("drop(8)", 0, x -> x.drop(8) ? 1 : 0);
        refused("fact(10, true)", 0, x -> x.fact(10, true) ? 1 : 0);
        refused("price(10, 5)", 0, x -> x.price(10, 5) ? 1 : 0);
        none("wished(8)", x -> x.wished(8));
        none("days(0)", x -> x.days(0));
        none("summer(0)", x -> x.summer(0));
        none("likely(8, 0)", x -> x.likely(8, 0));
        none("dead(9, 10)", x -> x.dead(9, 10));
        refused("check(11)", -2, x -> x.check(11));
        refusedBy(Kind.NEW, "undo()", 0, x -> x.undo() ? 1 : 0);
        refusedBy(Kind.SOME, "undo()", 0, x -> x.undo() ? 1 : 0);
    }

    static void thereIsNone() {
        of(0, "`NONE = -1`: There is none.");
        due("NONE", PactYears.NONE, -1);
    }

    // ---- FACTS

    static void factsAToJ() {
        of(2, "FACTS a to j (0 to 9): so or not (not at first)");
        PactYears x = new PactYears();
        due("not at first", x.count(0), 0);
        due("a", x.fact(0, true), true);
        due("THE STATE", x.count(0), 1);
        due("j", x.fact(9, true), true);
        due("THE STATE", x.count(0), 513);
        due("j is not so", x.fact(9, false), true);
        due("THE STATE", x.count(0), 1);
        wish(x, 0, "a");
        wish(x, 1, "j");
        due("letter a", x.wishIs(0, 3), 1);
        due("letter j", x.wishIs(1, 3), 512);
        due("the letter ahead of a", size("`"), -1000);
        due("k", size("k"), -1000);
        due("A", size("A"), -1000);
        due("J", size("J"), -1000);
    }

    static void theStateIsTheNumber() {
        of(2, "THE STATE is the number of those that are so (bits)");
        PactYears x = new PactYears();
        for (int i = 0; i < 10; i++) {
            x.fact(i, true);
            due("FACT " + i + " alone", x.count(0), 1 << i);
            x.fact(i, false);
        }
        due("none", x.count(0), 0);
        set(x, 1023);
        due("all", x.count(0), 1023);
        x.fact(4, true);
        due("all, one told again", x.count(0), 1023);
    }

    static void pricesTo99() {
        of(3, "Each has a PRICE (0 to 99 DAYS; 1 at first) for being changed.");
        PactYears x = withWishes("a&b&c&d&e&f&g&h&i&j");
        law(x, "dp(1=1)");
        for (int i = 0; i < 10; i++) {
            due("at first", x.count(20 + i), 1);
        }
        due("ten at first", x.tried(0, 3), 10);
        for (int i = 0; i < 10; i++) {
            due("99", x.price(i, 99), true);
            due("PRICE", x.count(20 + i), 99);
        }
        due("ten of 99", x.tried(0, 3), 990);
        due("in DAYS", x.tried(0, 0), 990);
        for (int i = 0; i < 10; i++) {
            due("0", x.price(i, 0), true);
            due("PRICE", x.count(20 + i), 0);
        }
        due("ten of 0", x.tried(0, 3), 0);
        due("they change", x.tried(0, 2), 10);
    }

    // ---- FORMULAS

    static void formulaOfAtMost100Bytes() {
        of(6, "A FORMULA: a TEXT of at most 100 bytes");
        String hundred = repeat("a", 49, "&") + "|!b";
        due("its length", hundred.length(), 100);
        due("100 bytes, the last one matters", size(hundred), 768);
        due("99 bytes", size("!" + repeat("a", 49, "&") + "|"), -1099);
        due("99 bytes", size(repeat("a", 49, "&") + "|b"), 768);
        due("one byte", size("a"), 512);
        PactYears x = new PactYears();
        feed(x, hundred + "&0");
        due("101 bytes", x.wish(0, 101), -1);
        due("101 bytes", x.clause(0, 101), -1);
        due("100 of them", x.wish(0, 100), 768);
    }

    static void formulaHasNoBlanks() {
        of(6, "A FORMULA: a TEXT of at most 100 bytes, no blanks");
        String[] texts = {" ", " a", "a ", "a &b", "a& b", "! a", "( a)", "(a )", "2 (a)", "2( a)", "2(a ,b)", "\ta", "a\n", "\0", "a\0"};
        int[] places = {0, 0, 1, 1, 2, 1, 1, 2, 1, 2, 3, 0, 1, 0, 1};
        for (int i = 0; i < texts.length; i++) {
            due("'" + texts[i] + "'", size(texts[i]), -1000 - places[i]);
        }
    }

    static void sidesOneAtLeast() {
        of(6, "SIDES with a | between two (one of them at least holds)");
        due("none", size("0|0"), 0);
        due("the last", size("0|1"), 1024);
        due("the first", size("1|0"), 1024);
        due("both", size("1|1"), 1024);
        due("ten", size("a|b|c|d|e|f|g|h|i|j"), 1023);
        due("the third of three", size("0|0|a"), 512);
        due("the sign ahead of |", size("a{b"), -1001);
        due("the sign behind |", size("a}b"), -1001);
    }

    static void oddNumberOfOdds() {
        of(6, "ODDS with a ^ (94) between two (an odd number of them holds; one alone: it holds)");
        due("none", size("0^0"), 0);
        due("one", size("0^1") + size("1^0"), 2048);
        due("two", size("1^1"), 0);
        due("three", size("1^1^1"), 1024);
        due("four", size("1^1^1^1"), 0);
        due("two of three", size("1^0^1"), 0);
        due("one alone", size("a"), 512);
        due("one alone that does not hold", size("0"), 0);
        due("ten", size("a^b^c^d^e^f^g^h^i^j"), 512);
        due("weaker than &", size("1^1&0"), 1024);
        due("stronger than |", size("1|1^1"), 1024);
        due("byte 94", size(bytes('a', 94, 'b')), 512);
        due("byte 93", size(bytes('a', 93, 'b')), -1001);
        due("byte 95", size(bytes('a', 95, 'b')), -1001);
    }

    static void allPiecesHold() {
        of(6, "PIECES with an & between two (all hold)");
        due("none", size("0&0"), 0);
        due("one", size("0&1") + size("1&0"), 0);
        due("both", size("1&1"), 1024);
        due("ten", size("a&b&c&d&e&f&g&h&i&j"), 1);
        due("stronger than |", size("1|0&0"), 1024);
        due("one of three not", size("1&1&0"), 0);
        due("the sign ahead of &", size("a%b"), -1001);
        due("the sign behind &", size("a'b"), -1001);
    }

    static void pieces() {
        of(6, "a PIECE: !PIECE (it does not hold), (FORMULA), a letter a to j (the FACT is so), 0 (never), 1 (always)");
        due("never", size("0"), 0);
        due("always", size("1"), 1024);
        due("not never", size("!0"), 1024);
        due("not always", size("!1"), 0);
        due("not not", size("!!a&a"), 512);
        due("! of a PIECE alone", size("!0&0"), 0);
        due("(FORMULA)", size("(a|b)&c"), 384);
        due("((FORMULA))", size("((0))"), 0);
        for (char letter = 'a'; letter <= 'j'; letter++) {
            PactYears x = withWishes("" + letter);
            due("letter " + letter, x.wishIs(0, 3), 1 << letter - 'a');
        }
    }

    static void soManyOfOneToTen() {
        of(6, "a digit 2 to 9 and ( FORMULAS with a , between two ) (so many of them at least hold; 1 to 10 of them)");
        for (int digit = 2; digit <= 9; digit++) {
            String ones = repeat("1", digit, ",");
            String fewer = repeat("1", digit - 1, ",") + ",0";
            due(digit + " of " + digit, size(digit + "(" + ones + ")"), 1024);
            due(digit + " of one more", size(digit + "(0," + ones + ")"), 1024);
            due("one fewer than " + digit, size(digit + "(" + fewer + ")"), 0);
            due("ten for " + digit, size(digit + "(" + repeat("1", 10, ",") + ")"), 1024);
            due("one for " + digit, size(digit + "(1)"), 0);
        }
        due("eight of ten for 9", size("9(1,1,1,1,1,1,1,1,0,0)"), 0);
        due("nine of ten for 9", size("9(1,1,1,1,1,1,1,1,0,1)"), 1024);
        due("nine of ten FACTS", size("9(a,b,c,d,e,f,g,h,i,j)"), 11);
        due("none", size("2()"), -1002);
        due("an 11th", size("2(1,1,1,1,1,1,1,1,1,1,1)"), -4022);
        due("1 is no such digit", size("1(1)"), -1001);
        due("0 is no such digit", size("0(1)"), -1001);
        due("the sign ahead of 0", size("/(1,1)"), -1000);
        due("the sign behind 9", size(":(1,1)"), -1000);
    }

    static void formulaWhatCantStandThere() {
        of(6, "FAULTS, the first from the left: 1 what can't stand there (the end, too); 4 an 11th FORMULA");
        String[] texts = {"&", "|", "^", ")", ",", "a)", "ab", "a!", "a(b)", "()", "(a,b)", "a,b", "a||b", "a&^b", "!&a", "2a", "2(,a)",
            "2(a;b)", "0a", "22(a)", "a&k&k", "k&k", "(a))", bytes(225), bytes('a', 166, 'b'), bytes(128), bytes(255), bytes(177)};
        int[] places = {0, 0, 0, 0, 0, 1, 1, 1, 1, 1, 2, 1, 2, 2, 1, 1, 2, 3, 1, 1, 2, 0, 3, 0, 1, 0, 0, 0};
        for (int i = 0; i < texts.length; i++) {
            due("'" + texts[i] + "'", size(texts[i]), -1000 - places[i]);
        }
        String[] ends = {"!", "(", "2", "2(", "2(a", "2(a,", "a&", "a|", "a^", "(a", "((a)", "!!", repeat("a&", 50, "")};
        for (String text : ends) {
            due("the end of '" + text + "'", size(text), -1000 - text.length());
        }
        due("the end is told by n, not by the tape", endOf("a&b"), -1002);
        due("a FAULT 1 ahead of a 5", size("a&k&((((((((a"), -1002);
        due("a 5 ahead of a FAULT 1", size("((((((((a&k"), -5006);
        due("a 4 ahead of a 5", size("2(1,1,1,1,1,1,1,1,1,1,1,((((((a"), -4022);
        due("a 5 ahead of a 4", size("2(((((((1,1,1,1,1,1,1,1,1,1,1)"), -5007);
    }

    private static long endOf(String text) {
        PactYears x = new PactYears();
        feed(x, text);
        return x.wish(0, text.length() - 1);
    }

    static void formulaAnEleventh() {
        of(6, "4 an 11th FORMULA between two ( ), at its first byte (if that can stand there)");
        String ten = "2(" + repeat("a", 10, ",");
        due("ten", size(ten + ")"), 512);
        for (String first : new String[] {"a", "j", "0", "1", "2", "9", "!", "("}) {
            due("an 11th of " + first, size(ten + "," + first), -4022);
        }
        for (String first : new String[] {"", "k", "`", ")", ",", "&", "/", ":", " "}) {
            due("what can't stand there: '" + first + "'", size(ten + "," + first), -1022);
        }
        due("at its first byte", size("2(" + repeat("a&b", 10, ",") + ",a&b)"), -4042);
        due("ten in each of two", size(ten + ")&" + ten + ")"), 512);
        due("ten, of which one has ten", size("2(" + ten + ")," + repeat("a", 9, ",") + ")"), 512);
        due("an 11th inside", size("2(" + ten + ",a),a)"), -4024);
        due("an 11th outside", size("2(" + ten + ")," + repeat("a", 9, ",") + ",a)"), -4043);
        due("with no digit a second can't stand there", size("(a,b)"), -1002);
    }

    static void formulaASeventh() {
        of(6, "5 a seventh of ( ! that are open in one another, at it");
        due("six (", size("((((((a))))))"), 512);
        due("seven (", size("(((((((a)))))))"), -5006);
        due("six !", size("!!!!!!a"), 512);
        due("seven !", size("!!!!!!!a"), -5006);
        due("six of a digit", size("2(2(2(2(2(2(1,1),1),1),1),1),1)"), 1024);
        due("seven of a digit", size("2(2(2(2(2(2(2(1,1"), -5012);
        due("six mixed", size("!(2(!(2(1,1)),1))"), 1024);
        due("seven mixed, a ! the last", size("!(2(!(2(!1,1)),1))"), -5008);
        due("seven mixed, a ( the last", size("!(2(!(2((1),1)),1))"), -5008);
        due("not in one another", size(repeat("((((((a))))))", 7, "&")), 512);
        due("0, 1 and letters open nothing", size("((((((0|1|a))))))"), 1024);
    }

    static void formulaASeventhOfADigit() {
        of(6, "of a digit 2 to 9 at the digit, whatever stands behind it");
        for (String behind : new String[] {"", "(", "a", "k", ")", "(1,1)", "2", " "}) {
            due("((((((2" + behind, size("((((((2" + behind), -5006);
            due("!!!!!!9" + behind, size("!!!!!!9" + behind), -5006);
        }
        due("a sixth is read on", size("(((((2"), -1006);
        due("a sixth is read on", size("(((((2a"), -1006);
        due("a sixth is read on", size("(((((2(1,1))))))"), 1024);
    }

    static void formulaANotIsOpenTillItsPieceEnds() {
        of(6, "a ! is open till its PIECE ends)");
        due("open in its (FORMULA)", size("!!!!!(!a)"), -5006);
        due("open in its digit's FORMULAS", size("!!!!!2(!a,b)"), -5007);
        due("not behind its letter", size("!!!!!!a&!!!!!!b"), 256);
        due("not behind its (FORMULA)", size("!!!!!(a)&!!!!!!b"), 256);
        due("not behind its digit's FORMULAS", size("!!!!!2(a,b)|!!!!!!1"), 1024);
        due("not in the next of the FORMULAS", size("2(!!!!!a,!!!!!a)"), 512);
        due("nor behind ^", size("!!!!!!a^!!!!!!a"), 0);
    }

    // ---- WISHES and CLAUSES

    static void wishesAndClauses0To7() {
        of(6, "WISHES 0 to 7, CLAUSES 0 to 7 of THE PACT: told or not, each a FORMULA.");
        PactYears x = new PactYears();
        due("no WISH is told", x.count(4), 0);
        due("no CLAUSE is told", x.count(5), 0);
        for (int k = 0; k < 8; k++) {
            due("WISH " + k, wish(x, k, "a"), 512);
            due("told WISHES", x.count(4), (2 << k) - 1);
        }
        due("no CLAUSE is told", x.count(5), 0);
        for (int k = 7; k >= 0; k--) {
            due("CLAUSE " + k, clause(x, k, "1"), 1024);
            due("told CLAUSES", x.count(5), 256 - (1 << k));
        }
        due("WISH 8", wish(x, 8, "a"), -1);
        due("WISH -1", wish(x, -1, "a"), -1);
        due("CLAUSE 8", clause(x, 8, "a"), -1);
        due("CLAUSE -1", clause(x, -1, "a"), -1);
    }

    static void notSpentWhenTold() {
        of(6, "A WISH is spent or not (not when it is told).");
        PactYears x = withWishes("a", "b");
        due("not when it is told", x.wishIs(0, 2), 0);
        x.wished(0);
        x.wished(1);
        due("spent", x.wishIs(0, 2), 1);
        wish(x, 0, "a");
        due("told again", x.wishIs(0, 2), 0);
        due("the other one stays spent", x.count(6), 2);
        due("it is granted again", x.wished(0), 0);
        wish(x, 1, "0");
        due("told as never: not spent", x.count(6), 1);
        due("it can't be", x.tried(1, 0), -2);
        wish(x, 7, "1");
        x.wished(7);
        due("7 is spent", x.count(6), 129);
        wish(x, 7, "a&!a");
        due("7 is told again", x.count(6), 1);
    }

    // ---- THE LAW

    static void lawOfAtMost240Bytes() {
        of(5, "THE LAW: a TEXT of at most 240 bytes");
        due("its length", longestLaw().length(), 240);
        due("240 bytes", rules(longestLaw()), 16);
        due("240 bytes, all of them matter", days(longestLaw()), 36);
        due("239 bytes", rules(repeat("d1+1+1+1+1(w=0)", 15, ";")), 15);
        due("240 bytes of one E", days("d10" + repeat("+1", 116, "") + "(1=1)"), 126);
        due("240 bytes of one C", days("d7(" + repeat("1=1", 59, "&") + "&)"), -1239);
        due("239 bytes of one C", days("d7(" + repeat("1=0", 58, "|") + "|1=1)"), 7);
        PactYears x = new PactYears();
        feed(x, longestLaw() + "a");
        due("241 bytes", x.law(241), -1);
        due("240 of them", x.law(240), 16);
        due("the shortest", rules("x(1=1)"), 1);
    }

    static void lawHasNoBlanks() {
        of(5, "THE LAW: a TEXT of at most 240 bytes, no blanks");
        String[] texts = {" x(1=1)", "x (1=1)", "x( 1=1)", "x(1 =1)", "x(1= 1)", "x(1=1 )", "x(1=1) ", "d 1(1=1)", "d1 (1=1)", "d1 2(1=1)",
            "x(1=1); x(1=1)", "x(1=1) ;x(1=1)", "x(1=1)\n", "\0x(1=1)"};
        int[] places = {0, 1, 2, 3, 4, 5, 6, 1, 2, 2, 7, 6, 6, 0};
        for (int i = 0; i < texts.length; i++) {
            due("'" + texts[i] + "'", rules(texts[i]), -1000 - places[i]);
        }
    }

    static void noLawAtFirst() {
        of(5, "THE LAW: a TEXT of at most 240 bytes, no blanks (none at first)");
        PactYears x = withWishes("a");
        due("RULES", x.count(7), 0);
        due("DAYS", x.tried(0, 0), 0);
        due("SINS", x.tried(0, 4), 0);
    }

    static void atMost16Rules() {
        of(5, "RULES (16 at most) with a ; (59) between two");
        due("one", rules("x(1=0)"), 1);
        due("15", rules(repeat("x(1=0)", 15, ";")), 15);
        due("16", rules(repeat("x(1=0)", 16, ";")), 16);
        due("17", rules(repeat("x(1=0)", 17, ";")), -4112);
        due("the 16th is looked at", days(repeat("x(1=0)", 15, ";") + ";d7(1=1)"), 7);
        due("nothing between two", rules("x(1=0)x(1=0)"), -1006);
        due("two between two", rules("x(1=0);;x(1=0)"), -1007);
        due("one behind the last", rules("x(1=0);"), -1007);
        due("one ahead of the first", rules(";x(1=0)"), -1000);
        due("byte 59", rules("x(1=0)" + bytes(59) + "x(1=0)"), 2);
        due("byte 58", rules("x(1=0)" + bytes(58) + "x(1=0)"), -1006);
        due("byte 60", rules("x(1=0)" + bytes(60) + "x(1=0)"), -1006);
    }

    static void aLetterEAndC() {
        of(5, "a letter, E, and (C), of x only (C)");
        due("d", rules("d1(1=1)"), 1);
        due("g", rules("g1(1=1)"), 1);
        due("x", rules("x(1=1)"), 1);
        due("d with no E", rules("d(1=1)"), -1001);
        due("g with no E", rules("g(1=1)"), -1001);
        due("x with an E", rules("x1(1=1)"), -1001);
        due("no C", rules("d1"), -1002);
        due("no C", rules("d1;x(1=1)"), -1002);
        due("an empty C", rules("d1()"), -1003);
        for (String letter : new String[] {"a", "c", "e", "f", "h", "w", "y", "D", "G", "X", "1", "(", "!"}) {
            due("no such letter: " + letter, rules(letter + "1(1=1)"), -1000);
        }
    }

    static void daysThatAWishTakes() {
        of(5, "d DAYS that a WISH takes (0 to 999)");
        due("0", days("d0(1=1)"), 0);
        due("1", days("d1(1=1)"), 1);
        due("998", days("d998(1=1)"), 998);
        due("999", days("d999(1=1)"), 999);
        PactYears x = withWishes("1");
        law(x, "d999(1=1)");
        due("999", x.wished(0), 999);
        due("THE DAY", x.count(1), 999);
    }

    static void sinsThatItBrings() {
        of(5, "g SINS that it brings (0 to 99)");
        due("0", sins("g0(1=1)"), 0);
        due("1", sins("g1(1=1)"), 1);
        due("98", sins("g98(1=1)"), 98);
        due("99", sins("g99(1=1)"), 99);
        PactYears x = withWishes("1");
        law(x, "g99(1=1)");
        due("DAYS", x.wished(0), 0);
        due("SINS", x.count(2), 99);
    }

    static void beyondItsBoundsTheBound() {
        of(5, "(beyond its bounds the bound; none: 0)");
        due("d 1000", days("d1000(1=1)"), 999);
        due("d 99999", days("d99999(1=1)"), 999);
        due("d the most of 32 bits", days("d65536*32768-1(1=1)"), 999);
        due("d -1", days("d0-1(1=1)"), 0);
        due("d -99999", days("d0-99999(1=1)"), 0);
        due("d the least of 32 bits", days("d65536*32768(1=1)"), 0);
        due("g 100", sins("g100(1=1)"), 99);
        due("g 999", sins("g999(1=1)"), 99);
        due("g the most of 32 bits", sins("g65536*32768-1(1=1)"), 99);
        due("g -1", sins("g0-1(1=1)"), 0);
        due("g the least of 32 bits", sins("g65536*32768(1=1)"), 0);
        due("no d", days("g5(1=1)"), 0);
        due("no g", sins("d5(1=1)"), 0);
        due("no d whose C holds", days("d5(1=0);d6(1=2)"), 0);
        due("no g whose C holds", sins("g5(1=0);g6(1=2)"), 0);
    }

    static void theSpiritBalks() {
        of(5, "x the spirit balks at it (any will do; without an x in THE LAW it never does)");
        due("the first", days("x(1=1);x(1=0)"), -3);
        due("the last", days("x(1=0);x(1=1)"), -3);
        due("the last of 16", days(repeat("x(1=0)", 15, ";") + ";x(1=1)"), -3);
        due("both", days("x(1=1);x(1=1)"), -3);
        due("none of two", days("x(1=0);x(1=0)"), 0);
        due("behind d and g", days("d5(1=1);g5(1=1);x(1=1)"), -3);
        due("without an x", days("d5(1=1);g5(1=1)"), 5);
        due("without THE LAW", withWishes("1").tried(0, 0), 0);
    }

    static void theFirstRuleWhoseCHolds() {
        of(5, "of the first RULE of d, g whose C holds the E");
        due("d", days("d1(1=0);d2(1=1);d3(1=1)"), 2);
        due("d, the first", days("d1(1=1);d2(1=1)"), 1);
        due("d, the 16th", days(repeat("d1(1=0)", 15, ";") + ";d16(1=1)"), 16);
        due("d behind g", days("g9(1=1);d2(1=1)"), 2);
        due("g", sins("g1(1=0);g2(1=1);g3(1=1)"), 2);
        due("g, the 16th", sins(repeat("g1(1=0)", 15, ";") + ";g16(1=1)"), 16);
        due("g behind d", sins("d9(1=1);g2(1=1)"), 2);
        due("also one whose E is 0", days("d0(1=1);d2(1=1)"), 0);
    }

    static void partsOneOfWhichMustHold() {
        of(5, "C: PARTS with a | between two, one of which must hold; a PART: TESTS with an & between two, all of which must");
        String[] none = {"1=0", "1=0|1=0", "1=0|1=0|1=0", "1=1&1=0", "1=0&1=1", "1=1&1=1&1=0", "1=0&1=1|1=1&1=0"};
        String[] some = {"1=1", "1=0|1=1", "1=1|1=0", "1=0|1=0|1=1", "1=1&1=1", "1=1&1=1&1=1", "1=0&1=0|1=1", "1=1|1=0&1=0", "1=1|1=1&1=0", "1=1|1=0|1=0",
            "1=0|1=1|1=0", "1=1&1=1|1=0|1=0", "1=0|1=1|1=0|1=0"};
        for (String c : none) {
            due(c, holds(c), 0);
        }
        for (String c : some) {
            due(c, holds(c), 1);
        }
    }

    static void tests() {
        of(5, "a TEST: !TEST, (C), or E, one of < > =, and E.");
        due("4<5", holds("4<5"), 1);
        due("5<5", holds("5<5"), 0);
        due("6<5", holds("6<5"), 0);
        due("4>5", holds("4>5"), 0);
        due("5>5", holds("5>5"), 0);
        due("6>5", holds("6>5"), 1);
        due("4=5", holds("4=5"), 0);
        due("5=5", holds("5=5"), 1);
        due("6=5", holds("6=5"), 0);
        due("below 0", holds("0-1<0"), 1);
        due("the least is less than the most", holds("65536*32768<65536*32768-1"), 1);
        due("!", holds("!1=1"), 0);
        due("!!", holds("!!1=1"), 1);
        due("! of a TEST alone", holds("!1=0&1=0"), 0);
        due("!4<5", holds("!4<5"), 0);
        due("!5<5", holds("!5<5"), 1);
        due("!5>4", holds("!5>4"), 0);
        due("!5>5", holds("!5>5"), 1);
        due("!!4<5", holds("!!4<5"), 1);
        due("(C)", holds("(1=0|1=1)&1=1"), 1);
        due("!(C)", holds("!(1=0|1=1)"), 0);
        due("no sign", holds("1"), -1003);
        due("no right E", holds("1="), -1004);
        due("no left E", holds("=1"), -1002);
        due("two signs", holds("1=1=1"), -1005);
        due("two signs", holds("1<=1"), -1004);
        due("the sign behind >", holds("1?1"), -1003);
        due("the sign ahead of <", holds("1;1"), -1003);
    }

    static void fromTheLeftOn() {
        of(5, "E: TERMS with + or - between two; a TERM: FACTORS with one of * / % between two; from the left on");
        due("10-3-2", holds("10-3-2=5"), 1);
        due("10-3+2", holds("10-3+2=9"), 1);
        due("100/7/2", holds("100/7/2=7"), 1);
        due("20/3*3", holds("20/3*3=18"), 1);
        due("7*3%4", holds("7*3%4=1"), 1);
        due("17%7*2", holds("17%7*2=6"), 1);
        due("2+3*4", holds("2+3*4=14"), 1);
        due("20-6/2", holds("20-6/2=17"), 1);
        due("20-7%4*2", holds("20-7%4*2=14"), 1);
        due("no sign ahead of the first", rules("d+1(1=1)"), -1001);
        due("no sign ahead of the first", rules("d-1(1=1)"), -1001);
        due("none behind the last", rules("d1+(1=1)"), -1003);
        due("none behind the last", rules("d1*(1=1)"), -1003);
        due("none between two", rules("dww(1=1)"), -1002);
        due("none between two", rules("d[1]2(1=1)"), -1004);
    }

    static void factorsOfOneToFiveDigits() {
        of(5, "a FACTOR: [E], a number of one to five digits, or a letter");
        due("one", days("d7(1=1)"), 7);
        due("five", days("d00007(1=1)"), 7);
        due("six", days("d000007(1=1)"), -2006);
        due("0", days("d0(1=1)"), 0);
        due("five 0", days("d00000(1=1)"), 0);
        due("the most", holds("99999-99998=1"), 1);
        due("two of five", holds("12345+12345=24690"), 1);
        due("none", rules("d(1=1)"), -1001);
        due("[E]", holds("[2+3]*[4-1]=15"), 1);
        due("[[E]]", holds("[[7]]=7"), 1);
        due("as many open as can be", days("d1+2*[1+2*[1+2*[1+2*[1+2*[1+2*[3]]]]]](1=1)"), 255);
        due("as many open as can be, on the right", holds("127=1+2*[1+2*[1+2*[1+2*[1+2*[3]]]]]"), 1);
        due("as many open as can be, in ( )", holds("1=0|(63=1+2*[1+2*[1+2*[1+2*[3]]]])"), 1);
        due("[]", rules("d[](1=1)"), -1002);
        due("not closed", rules("d[1(1=1)"), -1003);
        due("the sign ahead of the digits", rules("d/1(1=1)"), -1001);
        due("the sign behind the digits", rules("d:(1=1)"), -1001);
        due("the sign behind the digits, in a number", rules("d1:(1=1)"), -1002);
        for (String letter : new String[] {"a", "b", "d", "e", "g", "i", "j", "k", "l", "o", "q", "r", "t", "u", "v", "x", "{", "`", "W", "Z"}) {
            due("no such letter: " + letter, rules("d" + letter + "(1=1)"), -1001);
        }
    }

    static void letterW() {
        of(5, "w the WISH");
        PactYears x = withWishes("1", "1", "1", "1", "1", "1", "1", "1");
        law(x, "dw(1=1)");
        for (int k = 0; k < 8; k++) {
            due("w of " + k, x.tried(k, 0), k);
        }
    }

    static void letterC() {
        of(5, "c how many FACTS change");
        PactYears x = withWishes("1", "a", "a&b&c&d&e&f&g&h&i&j");
        law(x, "dc(1=1)");
        due("none", x.tried(0, 0), 0);
        due("one", x.tried(1, 0), 1);
        due("all", x.tried(2, 0), 10);
    }

    static void letterP() {
        of(5, "p their PRICES together");
        PactYears x = withWishes("1", "a", "a&b&c&d&e&f&g&h&i&j");
        law(x, "dp(1=1)");
        due("of none", x.tried(0, 0), 0);
        due("of one", x.tried(1, 0), 1);
        x.price(0, 0);
        due("0", x.tried(1, 0), 0);
        for (int i = 0; i < 10; i++) {
            x.price(i, 99);
        }
        due("99", x.tried(1, 0), 99);
        due("of all", x.tried(2, 0), 990);
    }

    static void letterS() {
        of(5, "s how many FACTS are so ahead of it");
        PactYears x = withWishes("1", "!a&!b", "a");
        law(x, "ds(1=1)");
        due("none", x.tried(0, 0), 0);
        due("ahead of it", x.tried(2, 0), 0);
        set(x, 1023);
        due("all", x.tried(0, 0), 10);
        due("ahead of it", x.tried(1, 0), 10);
    }

    static void letterN() {
        of(5, "n how many WISHES were granted");
        PactYears x = withWishes("a", "b", "c", "0");
        law(x, "dn(1=1);x(w=2)");
        due("none", x.wished(0), 0);
        due("one", x.tried(1, 0), 1);
        due("the spirit balks", x.wished(2), -3);
        due("still one", x.wished(1), 1);
        wish(x, 0, "!a");
        due("two", x.tried(0, 0), 2);
    }

    static void letterY() {
        of(5, "y THE YEAR (THE DAY through 360)");
        int[] days = {0, 1, 359, 360, 719, 720, 8279, 8280, 8639};
        int[] years = {0, 0, 0, 1, 1, 2, 22, 23, 23};
        for (int i = 0; i < days.length; i++) {
            due("DAY " + days[i], onDay(days[i], "dy(1=1)"), years[i]);
        }
    }

    private static long onDay(int day, String law) {
        PactYears x = withWishes("1");
        law(x, law);
        if (day > 0) {
            x.days(day);
        }
        return x.tried(0, 0);
    }

    static void letterM() {
        of(5, "m the month of it (0 to 11: what is left of THE DAY by 360, through 30)");
        int[] days = {0, 29, 30, 59, 60, 329, 330, 359, 360, 389, 390, 719, 720, 8609, 8610, 8639};
        int[] months = {0, 0, 1, 1, 2, 10, 11, 11, 0, 0, 1, 11, 0, 10, 11, 11};
        for (int i = 0; i < days.length; i++) {
            due("DAY " + days[i], onDay(days[i], "dm(1=1)"), months[i]);
        }
    }

    static void letterZ() {
        of(5, "z SINS. All is reckoned");
        PactYears x = withWishes("1");
        law(x, "dz/10(1=1);g7(z=0)");
        due("0", x.tried(0, 4), 7);
        for (int i = 0; i < 83; i++) {
            x.summer(360);
        }
        due("9960", x.tried(0, 0), 996);
        x.summer(360);
        due("9999", x.tried(0, 0), 999);
        law(x, "x(z=9999)");
        due("9999", x.tried(0, 0), -3);
    }

    static void reckonedWith32Bits() {
        of(5, "All is reckoned with 32 bits, as the machine does");
        String[] all = {"65536*32768<0", "65536*32768-1>0", "65536*32768-1+1<0", "65536*32768-1+1=65536*32768", "65536*65536=0",
            "99999*99999=14098*99999+79507", "46340*46340>0", "46341*46341<0", "0-65536*32768=65536*32768", "65536*32768*[0-1]<0",
            "65536*32768/[0-1]=65536*32768", "65536*32768%[0-1]=0", "[0-7]/2=0-3", "[0-7]%2=0-1", "7/[0-2]=0-3", "7%[0-2]=1",
            "[65536*32768-1]*2=0-2", "65536*32768+[65536*32768]=0", "0-1>65536*32768", "65536*32768-1>0-1"};
        for (String one : all) {
            due(one, holds(one), 1);
        }
        due("an E that wraps to 5", days("d65536*65536+5(1=1)"), 5);
        due("an E that wraps below 0", days("d46341*46341(1=1)"), 0);
    }

    static void dividedBy0IsRefused() {
        of(5, "what is divided by 0 is REFUSED: then a C does not hold, an E is 0.");
        due("C by /", holds("1/0=0"), 0);
        due("C by %", holds("1%0=0"), 0);
        due("C, on the right", holds("0=1/0"), 0);
        due("C, 0/0", holds("0/0=0"), 0);
        due("C, by what is 0", holds("1/c=0"), 0);
        due("C, by what wraps to 0", holds("1/[65536*65536]=0"), 0);
        due("C, in !", holds("!1/0=1"), 0);
        due("C, in (C)", holds("!(1/0=1)"), 0);
        due("C, with a PART behind it that would hold", holds("1/0=0|1=1"), 0);
        due("the next RULE is looked at", days("d5(1/0=0);d6(1=1)"), 6);
        due("the next x is looked at", days("x(1/0=0);x(1=1)"), -3);
        due("E by /", days("d5+1/0(1=1);d9(1=1)"), 0);
        due("E by %", days("d5+1%0(1=1);d9(1=1)"), 0);
        due("E of g", sins("g5+1/0(1=1);g9(1=1)"), 0);
        due("E, [E]", days("d5+[1/0]*0(1=1)"), 0);
        due("the next one is reckoned", days("d5+1/0(1=1);g3(1=1)") * 100 + sins("d5+1/0(1=1);g3(1=1)"), 3);
        due("by 1 it is not", holds("1/1=1"), 1);
        due("by -1 it is not", holds("1/[0-1]=0-1"), 1);
    }

    static void asMuchAsMatters() {
        of(5, "Of a C as much is asked, from the left, as matters.");
        due("behind a PART that holds", holds("1=1|1/0=0"), 1);
        due("behind a TEST that does not", holds("1=0&1/0=0|1=1"), 1);
        due("behind two that do not", holds("1=0&1/0=0&1/0=0|1=1"), 1);
        due("behind a PART that holds, two", holds("1=1|1/0=0|1/0=0"), 1);
        due("behind a PART that holds, of two TESTS", holds("1=0|1=1&1=1|1/0=0&1/0=0"), 1);
        due("in ( )", holds("(1=1|1/0=0)&1=1"), 1);
        due("in !( )", holds("!(1=0&1/0=0)"), 1);
        due("behind a ! that holds", holds("!1=0|1/0=0"), 1);
        due("behind a ( ) that holds", holds("(1=0|1=1)|1/0=0"), 1);
        due("behind a ( ) that does not", holds("(1=0|1=0)&1/0=0|1=1"), 1);
        due("a PART that holds only in part", holds("1=1&1=0|1/0=0|1=1"), 0);
        due("it matters", holds("1=0|1/0=0|1=1"), 0);
        due("it matters", holds("1=1&1/0=0|1=1"), 0);
        due("the E of a RULE whose C does not hold", days("d1/0(1=0);d4(1=1)"), 4);
    }

    static void lawWhatCantStandThere() {
        of(5, "FAULTS, the first from the left: 1 what can't stand there (the end, too); 2 a sixth digit");
        String[] texts = {"a", "1", "(1=1)", "d)", "d1)", "d1=1", "x1", "x()", "x(1=1))", "x(1=1);y", "x(1=1)&", "x(&", "x(1=1&)", "x(1=1|&",
            "x(!)", "x(!1)", "x((1=1)=1)", "x(1=(1))", "x([1=1])", "d[1=1](1=1)", "d(1)(1=1)", "x(1=1!", "x(1=1(", "d1[", "d!1(1=1)",
            bytes(228, '1', '(', '1', '=', '1', ')'), bytes('x', 168), "x(1=1" + bytes(169), "x(1" + bytes(189) + "1)"};
        int[] places = {0, 0, 0, 1, 2, 2, 1, 2, 6, 7, 6, 2, 6, 6, 3, 4, 7, 4, 4, 3, 1, 5, 5, 2, 1, 0, 1, 5, 3};
        for (int i = 0; i < texts.length; i++) {
            due("'" + texts[i] + "'", rules(texts[i]), -1000 - places[i]);
        }
        String[] ends = {"d", "g", "x", "d1", "d12345", "dw", "d[", "d[1", "d[1]", "d1+", "d1*", "x(", "x(!", "x((", "x(1", "x(1=", "x(1=1",
            "x((1=1)", "x(1=1&", "x(1=1|", "x(1=1);", repeat("d1+1+1+1+1(w=0)", 15, ";") + ";"};
        for (String text : ends) {
            due("the end of '" + text + "'", rules(text), -1000 - text.length());
        }
        due("the first: 1 ahead of 2", rules("dk123456(1=1)"), -1001);
        due("the first: 2 ahead of 1", rules("d123456k(1=1)"), -2006);
        due("the first: 1 ahead of 5", rules("x(k(((((((1=1))))))))"), -1002);
        due("the first: 5 ahead of 1", rules("x(((((((k"), -5007);
        due("the first: 4 ahead of 5", rules(repeat("x(1=0)", 17, ";") + ";x((((((((1=1"), -4112);
    }

    static void lawASixthDigit() {
        of(5, "2 a sixth digit, at it");
        due("five", rules("d12345(1=1)"), 1);
        due("six", rules("d123456(1=1)"), -2006);
        due("seven", rules("d1234567(1=1)"), -2006);
        due("in a C", rules("x(123456=1)"), -2007);
        due("on the right", rules("x(1=123456)"), -2009);
        due("in [ ]", rules("d[123456](1=1)"), -2007);
        due("the last byte", rules("x(1=123456"), -2009);
        due("five at the end", rules("x(1=12345"), -1009);
        due("of another number", rules("x(12345=12345+12345)"), 1);
    }

    static void lawASeventeenth() {
        of(5, "4 a 17th RULE, at its letter (if that can stand there)");
        String sixteen = repeat("x(1=0)", 16, ";");
        due("16", rules(sixteen), 16);
        for (String letter : new String[] {"d", "g", "x"}) {
            due("a 17th of " + letter, rules(sixteen + ";" + letter), -4112);
        }
        for (String letter : new String[] {"", "a", "(", "1", "D", ";", " "}) {
            due("what can't stand there: '" + letter + "'", rules(sixteen + ";" + letter), -1112);
        }
        due("at its letter", rules(repeat("d1(1=0)", 17, ";")), -4128);
    }

    static void lawASeventh() {
        of(5, "5 a seventh of ( [ ! that are open in one another, at it (the ( of the RULE counts");
        due("six (", rules("x((((((1=1))))))"), 1);
        due("seven (", rules("x(((((((1=1)))))))"), -5007);
        due("six [", rules("d[[[[[[1]]]]]](1=1)"), 1);
        due("seven [", rules("d[[[[[[[1]]]]]]](1=1)"), -5007);
        due("( and five [", rules("x([[[[[1]]]]]=1)"), 1);
        due("( and six [", rules("x([[[[[[1]]]]]]=1)"), -5007);
        due("( and five !", rules("x(!!!!!1=1)"), 1);
        due("( and six !", rules("x(!!!!!!1=1)"), -5007);
        due("six mixed", rules("x(!(!([1]=1)))"), 1);
        due("seven mixed, a [ the last", rules("x(!(!([[1]]=1)))"), -5007);
        due("seven mixed, a ( the last", rules("x(!(!((([1]=1)))))"), -5007);
        due("seven mixed, a ! the last", rules("x(!(!((!1=1))))"), -5007);
        due("not in one another", rules("x([[[[[1]]]]]=[[[[[1]]]]])"), 1);
        due("in the next RULE anew", rules("x((((((1=1))))));x((((((1=1))))))"), 2);
    }

    static void lawANotIsOpenTillItsTestEnds() {
        of(5, "a ! is open till its TEST ends");
        due("in its left E", rules("x(!!!!![1]=1)"), -5007);
        due("in its right E", rules("x(!!!!!1=[1])"), -5009);
        due("in its (C)", rules("x(!!!!!(1=1))"), -5007);
        due("in all of its (C)", rules("x(!!!(1=1&![1]=1))"), -5011);
        due("not behind &", rules("x(!!!!!1=1&!!!!!1=1)"), 1);
        due("not behind |", rules("x(!!!!!1=1|([[[[1]]]]=1))"), 1);
        due("not behind its (C)", rules("x(!!!!(1=1)&!!!!!1=1)"), 1);
    }

    static void theEOfARuleStandsAheadOfIt() {
        of(5, "the E of a RULE stands ahead of it");
        due("six [ and then six (", rules("d[[[[[[1]]]]]]((((((1=1))))))"), 1);
        due("seven [", rules("g[[[[[[[1"), -5007);
        due("six [ and then seven (", rules("d[[[[[[1]]]]]](((((((1=1)))))))"), -5020);
    }

    // ---- promises 1 to 7

    static void aNewObject() {
        of(1, "`PactYears()`: STATE 0, no WISHES, CLAUSES, LAW.");
        PactYears x = new PactYears();
        for (int what = 0; what <= 9; what++) {
            due("count(" + what + ")", x.count(what), 0);
        }
        for (int i = 0; i < 10; i++) {
            due("PRICE " + i, x.count(20 + i), 1);
        }
        due("all STATES FIT", x.fits(0), 1024);
        for (int k = 0; k < 8; k++) {
            due("no WISH " + k, x.wished(k), -1);
            due("no CLAUSE " + k, x.drop(k), false);
        }
        due("no tape", x.law(1), -1);
        due("none was KEPT", x.undo(), false);
    }

    static void factWhateverThePactIs() {
        of(2, "A FACT is so or not (whatever THE PACT is): true; false: no such one.");
        PactYears x = new PactYears();
        clause(x, 0, "0");
        due("no STATE FITS", x.fact(3, true), true);
        due("THE STATE", x.count(0), 8);
        due("told again", x.fact(3, true), true);
        due("THE STATE", x.count(0), 8);
        due("not so", x.fact(3, false), true);
        due("not so again", x.fact(3, false), true);
        due("THE STATE", x.count(0), 0);
        for (int i = 0; i < 10; i++) {
            due("FACT " + i, x.fact(i, true), true);
        }
        due("THE STATE", x.count(0), 1023);
        for (int i : outside(0, 9)) {
            refused("fact(" + i + ", true)", 0, y -> y.fact(i, true) ? 1 : 0);
            refused("fact(" + i + ", false)", 0, y -> y.fact(i, false) ? 1 : 0);
        }
    }

    static void aPrice() {
        of(3, "A PRICE: true; false: no such ones.");
        PactYears x = new PactYears();
        for (int days : new int[] {0, 1, 98, 99}) {
            due("price(0, " + days + ")", x.price(0, days), true);
            due("PRICE", x.count(20), days);
            due("price(9, " + days + ")", x.price(9, days), true);
            due("PRICE", x.count(29), days);
        }
        due("the others stay", x.count(21) + x.count(28), 2);
        for (int i : outside(0, 9)) {
            refused("price(" + i + ", 5)", 0, y -> y.price(i, 5) ? 1 : 0);
        }
        for (int days : farOutside(0, 99)) {
            refused("price(4, " + days + ")", 0, y -> y.price(4, days) ? 1 : 0);
        }
        refused("price(10, 100)", 0, y -> y.price(10, 100) ? 1 : 0);
    }

    static void twentyBytesTheHighestFirst() {
        of(4, "Twenty bytes come behind the tape, the highest of each int first: how many it has");
        PactYears x = new PactYears();
        due("twenty", x.feed(0x61266226, 0x63266426, 0x65266626, 0x67266826, 0x69266A7C), 20);
        due("bytes", x.count(8), 20);
        due("a&b&..&j", x.wish(0, 19), 1);
        x.feed(0x61266226, 0x63266426, 0x65266626, 0x67266826, 0x69266A7C);
        due("behind the tape", x.feed(0x31000000, 0, 0, 0, 0), 40);
        due("a&b&..&j|1", x.wish(0, 21), 1024);
        due("ints below 0", x.feed(-1, Integer.MIN_VALUE, 0x80FF8001, -2, 0xFF000000), 20);
        due("byte 255 is the first", x.check(1), 0);
        x.feed(0x00800000, 0, 0, 0, 0);
        due("byte 128 is the second", x.check(2), 1);
        x.feed(1, 0, 0, 0, 0);
        due("byte 1 is the fourth", x.check(10), 3);
        x.feed(0, 1 << 24, 0, 0, 0);
        due("byte 1 is the fifth", x.check(10), 4);
    }

    static void noMoreThan260() {
        of(4, "NONE if that would be more than 260.");
        PactYears x = new PactYears();
        for (int bytes = 20; bytes <= 260; bytes += 20) {
            due("feed", x.feed(0, 0, 0, 0, 0), bytes);
        }
        for (int turn = 0; turn < 3; turn++) {
            due("more", x.feed(1, 1, 1, 1, 1), -1);
            due("bytes", x.count(8), 260);
        }
        refusedBy(Kind.FULL, "feed", -1, y -> y.feed(1, 2, 3, 4, 5));
        refusedBy(Kind.FETCHED, "feed", -1, y -> y.feed(0x61616161, -1, 0, 0, 0));
        x.check(0);
        due("once it is empty", x.feed(0, 0, 0, 0, 0), 20);
    }

    static void theLawByTheFirstBytes() {
        of(5, "THE LAW by the first n bytes of the tape (1 to 240; empty then), in place of the one before: how many RULES");
        PactYears x = withWishes("1");
        feed(x, "x(1=1);d4(1=1)");
        due("the first 6", x.law(6), 1);
        due("empty then", x.count(8), 0);
        due("the spirit balks", x.tried(0, 0), -3);
        due("in place of it", law(x, "d4(1=1);d5(1=1)"), 2);
        due("RULES", x.count(7), 2);
        due("no x any more", x.tried(0, 0), 4);
        due("16 RULES", law(x, longestLaw()), 16);
        for (int turn = 0; turn < 8; turn++) {
            due("16 in place of 16", law(x, longestLaw()), 16);
            due("as long as it is", x.tried(0, 0), 36);
        }
        due("one in place of 16", law(x, "g1(1=1)"), 1);
        due("no d any more", x.tried(0, 0), 0);
        due("RULES", x.count(7), 1);
        feed(x, longestLaw() + "aaaaaaaaaaaaaaaaaaaa");
        due("all 260 are gone", x.law(240) + x.count(8), 16);
        feed(x, "d");
        due("one byte", x.law(1), -1001);
        due("empty then", x.count(8), 0);
    }

    static void aFaultTheOneBeforeStays() {
        of(5, "a FAULT: -1000 times its number, less its place (the one before stays)");
        PactYears x = withWishes("1");
        law(x, "d4(1=1);g3(1=1)");
        String longest = repeat("d1+1+1+1+1(w=0)", 15, ";");
        String[] texts = {"y", "d9(1=1);x(1=1)&", "d123456", longest + ";", repeat("x(1=1)", 17, ";"), "d8(((((((1=1"};
        int[] faults = {-1000, -1014, -2006, -1240, -4112, -5008};
        for (int i = 0; i < texts.length; i++) {
            due("'" + texts[i] + "'", law(x, texts[i]), faults[i]);
            due("the tape is empty", x.count(8), 0);
            due("RULES stay", x.count(7), 2);
            due("d stays", x.tried(0, 0), 4);
            due("g stays", x.tried(0, 4), 3);
        }
        PactYears y = withWishes("1");
        due("a FAULT", law(y, "d9(1=1);"), -1008);
        due("none before: none stays", y.count(7) + y.tried(0, 0), 0);
    }

    static void lawNoSuchN() {
        of(5, "NONE: no such n, it has not so many (the tape stays).");
        noneFor("law", farOutside(1, 240), (x, n) -> x.law(n));
        refusedBy(Kind.NEW, "law(1) of no tape", -1, x -> x.law(1));
        refusedBy(Kind.SOME, "law(21) of 20", -1, x -> x.law(21));
        refusedBy(Kind.FREE, "law(240) of 20", -1, x -> x.law(240));
        PactYears x = new PactYears();
        feed(x, "x(1+1+1+1+1+1+1+1<1)");
        due("20 of 20", x.law(20), 1);
        feed(x, repeat("a", 240, ""));
        due("241 of 240", x.law(241), -1);
        due("240 of 240", x.law(240), -1000);
    }

    static void aWishByTheFirstBytes() {
        of(6, "WISH k by the first n bytes of the tape (1 to 100; empty then), in place of the one before (not spent): in how many"
                + " STATES of 1024 it holds");
        PactYears x = new PactYears();
        feed(x, "a|b");
        due("the first one", x.wish(0, 1), 512);
        due("empty then", x.count(8), 0);
        x.wished(0);
        feed(x, "a|b");
        due("all three", x.wish(0, 3), 768);
        due("not spent", x.count(6), 0);
        due("in place of it", x.wishIs(0, 3), 3);
        due("none", wish(x, 7, "0"), 0);
        due("all", wish(x, 7, "1"), 1024);
        due("one", wish(x, 7, "a&b&c&d&e&f&g&h&i&j"), 1);
        due("told", x.count(4), 129);
        clause(x, 0, "0");
        due("whatever THE PACT is", wish(x, 3, "1"), 1024);
        feed(x, repeat("a", 100, "") + repeat("a", 140, ""));
        due("100 of 240", x.wish(4, 100), -1001);
        due("empty then", x.count(8), 0);
    }

    static void aWishWithAFault() {
        of(6, "in how many STATES of 1024 it holds; a FAULT; NONE: no such ones, it has not so many (the tape stays)");
        PactYears x = withWishes("a", "b");
        x.wished(0);
        due("a FAULT", wish(x, 0, "b&"), -1002);
        due("the tape is empty", x.count(8), 0);
        due("still a", x.wishIs(0, 3), 1);
        due("still spent", x.count(6), 1);
        due("a FAULT of one that is not told", wish(x, 5, ")"), -1000);
        due("it is not told", x.count(4), 3);
        noneFor("wish of k", outside(0, 7), (y, k) -> y.wish(k, 1));
        noneFor("wish of n", farOutside(1, 100), (y, n) -> y.wish(2, n));
        refusedBy(Kind.NEW, "wish(0, 1) of no tape", -1, y -> y.wish(0, 1));
        refusedBy(Kind.SOME, "wish(0, 21) of 20", -1, y -> y.wish(0, 21));
        refusedBy(Kind.FREE, "wish(7, 100) of 20", -1, y -> y.wish(7, 100));
        feed(x, TWENTY);
        due("20 of 20", x.wish(0, 20) > 0, true);
    }

    static void aClauseByTheFirstBytes() {
        of(7, "CLAUSE k by the first n bytes of the tape (1 to 100; empty then), in place of the one before: in how many STATES of"
                + " 1024 it holds");
        PactYears x = new PactYears();
        feed(x, "a|b");
        due("the first one", x.clause(0, 1), 512);
        due("empty then", x.count(8), 0);
        due("FIT", x.fits(0), 512);
        due("in place of it", clause(x, 0, "a|b"), 768);
        due("FIT", x.fits(0), 768);
        due("none", clause(x, 7, "0"), 0);
        due("none FITS", x.fits(0), 0);
        due("all", clause(x, 7, "1"), 1024);
        due("FIT", x.fits(0), 768);
        due("whatever THE PACT is", clause(x, 1, "!a&!b"), 256);
        due("told", x.count(5), 131);
        due("no WISHES", x.count(4), 0);
        feed(x, repeat("a", 49, "&") + "|!b" + "aaaaaaaaaaaaaaaaaaaa");
        due("100 of 120", x.clause(4, 100), 768);
        due("empty then", x.count(8), 0);
    }

    static void aClauseWithAFault() {
        of(7, "a FAULT; NONE: as above.");
        PactYears x = new PactYears();
        clause(x, 0, "a");
        due("a FAULT", clause(x, 0, "b&"), -1002);
        due("the tape is empty", x.count(8), 0);
        due("still a", x.fits(3), 1);
        due("a FAULT of one that is not told", clause(x, 5, "!!!!!!!a"), -5006);
        due("it is not told", x.count(5), 1);
        noneFor("clause of k", outside(0, 7), (y, k) -> y.clause(k, 1));
        noneFor("clause of n", farOutside(1, 100), (y, n) -> y.clause(2, n));
        refusedBy(Kind.NEW, "clause(0, 1) of no tape", -1, y -> y.clause(0, 1));
        refusedBy(Kind.SOME, "clause(0, 21) of 20", -1, y -> y.clause(0, 21));
        refusedBy(Kind.FREE, "clause(7, 100) of 20", -1, y -> y.clause(7, 100));
        feed(x, TWENTY);
        due("20 of 20", x.clause(0, 20) > 0, true);
    }
}
