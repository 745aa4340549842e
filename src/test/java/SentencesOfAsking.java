/** What WISHES come to, on what they depend, how likely they are; what the spirit that answers truly is asked. */
final class SentencesOfAsking extends Sentences {
    private static final String ALL_TEN = "a&b&c&d&e&f&g&h&i&j";
    private static final String NONE_OF_TEN = "!(a|b|c|d|e|f|g|h|i|j)";

    // ---- FOLLOWS

    static void followsInAllStatesThatFit() {
        of(19, "FOLLOWS: whether in all STATES that FIT in which one WISH holds another one does; ALIKE: both ways; in how many"
                + " STATES that FIT just one of them holds.");
        PactYears x = withWishes("0", "1", "a", "!a", ALL_TEN, "a|b&!b");
        int[][] wants = {{0, 1, 1, 0, 1024}, {1, 0, 0, 0, 1024}, {0, 4, 1, 0, 1}, {4, 0, 0, 0, 1}, {4, 2, 1, 0, 511}, {2, 4, 0, 0, 511},
            {2, 3, 0, 0, 1024}, {3, 2, 0, 0, 1024}, {2, 5, 1, 1, 0}, {5, 2, 1, 1, 0}, {1, 2, 0, 0, 512}};
        for (int[] want : wants) {
            for (int what = 0; what <= 2; what++) {
                due("follows(" + want[0] + ", " + want[1] + ", " + what + ")", x.follows(want[0], want[1], what), want[2 + what]);
            }
        }
        clause(x, 0, "a");
        due("!a can't be: all follows", x.follows(3, 0, 0) * 10 + x.follows(3, 0, 1), 11);
        due("a FITS alone: 1 follows", x.follows(1, 2, 0) * 10 + x.follows(1, 2, 1), 11);
        due("in one STATE less", x.follows(4, 1, 2), 511);
        clause(x, 0, "0");
        due("none FITS: all follows", x.follows(1, 0, 0), 1);
        due("none FITS: ALIKE", x.follows(1, 0, 1), 1);
        due("none FITS: in none", x.follows(1, 0, 2), 0);
    }

    static void followsItself() {
        of(19, "FOLLOWS of WISH k another one j (may be the same), what 0 FOLLOWS (1, 0), 1 ALIKE (1, 0), 2 STATES");
        PactYears x = made(Kind.FULL);
        for (int k = 0; k < 8; k++) {
            due("itself", x.follows(k, k, 0), 1);
            due("ALIKE itself", x.follows(k, k, 1), 1);
            due("in none", x.follows(k, k, 2), 0);
        }
    }

    static void followsNoSuchOnes() {
        of(19, "2 STATES; NONE: no such ones.");
        noneFor("follows of k", outside(0, 7), (x, k) -> x.follows(k, 0, 2));
        noneFor("follows of j", outside(0, 7), (x, j) -> x.follows(0, j, 2));
        noneFor("follows of what", outside(0, 2), (x, what) -> x.follows(0, 2, what));
        PactYears x = withWishes("a");
        due("j is not told", x.follows(0, 1, 0), -1);
        due("k is not told", x.follows(1, 0, 0), -1);
        due("neither is told", x.follows(7, 7, 0), -1);
    }

    // ---- THE WORD

    static void theWord() {
        of(20, "THE WORD: the fewest FACTS that, being told so or not, make a WISH hold whatever the others are (without THE PACT):"
                + " how many");
        String[] wishes = {"1", ALL_TEN, NONE_OF_TEN, "j", "!j", "a&!b&c&!d&e&!f&g&!h&i&!j", "a|!a", "0|a&b&c|h&i"};
        int[][] words = {{0, 0, 0}, {10, 1023, 1023}, {10, 1023, 0}, {1, 512, 512}, {1, 512, 0}, {10, 1023, 341}, {0, 0, 0}, {2, 384, 384}};
        PactYears x = withWishes(wishes);
        clause(x, 0, "a&j");
        for (int k = 0; k < 8; k++) {
            for (int what = 0; what <= 2; what++) {
                due(wishes[k] + ", word " + what, x.word(k, what), words[k][what]);
            }
        }
    }

    static void ofLikeOnesTheLeastFacts() {
        of(20, "which, and which of them so: of like ones the least FACTS (bits), then the least of them that are so (bits).");
        String[] wishes = {"a|j", "i&j|a&b", "c&d|a&j", "a^b", "!(a^b)", "!a|a&b", "2(c,d,e)", "!(a&!b|!a&b&c|j)"};
        int[][] words = {{1, 1, 1}, {2, 3, 3}, {2, 12, 12}, {2, 3, 1}, {2, 3, 0}, {1, 1, 0}, {2, 12, 12}, {3, 515, 0}};
        PactYears x = withWishes(wishes);
        for (int k = 0; k < 8; k++) {
            for (int what = 0; what <= 2; what++) {
                due(wishes[k] + ", word " + what, x.word(k, what), words[k][what]);
            }
        }
        wish(x, 0, "a&!b&c|a&b&!c");
        due("of two the one that is less so", x.word(0, 2), 3);
        wish(x, 0, "a&!b&!c|!a&b&c");
        due("less so is less in bits", x.word(0, 2), 1);
    }

    static void nothingMakesItSure() {
        of(20, "-2: nothing makes it sure; NONE: no such ones.");
        PactYears x = withWishes("0", "a&!a");
        for (int what = 0; what <= 2; what++) {
            due("never", x.word(0, what), -2);
            due("never", x.word(1, what), -2);
            due("not told", x.word(2, what), -1);
        }
        due("never, no such what", x.word(0, 3), -1);
        noneFor("word of k", outside(0, 7), (y, k) -> y.word(k, 0));
        noneFor("word of what", outside(0, 2), (y, what) -> y.word(0, what));
    }

    // ---- POWER, LIKE

    static void power() {
        of(21, "POWER of a FACT in a WISH: in how many of the 1024 STATES changing it alone changes whether the WISH holds.");
        PactYears x = withWishes("0", "1", "a", "j", ALL_TEN, NONE_OF_TEN, "a^b^c^d^e^f^g^h^i^j", "a&j");
        clause(x, 0, "0");
        int[] first = {0, 0, 1024, 0, 2, 2, 1024, 512};
        int[] last = {0, 0, 0, 1024, 2, 2, 1024, 512};
        for (int k = 0; k < 8; k++) {
            due("of a in " + k, x.power(k, 0), first[k]);
            due("of j in " + k, x.power(k, 9), last[k]);
        }
        for (int i = 0; i < 10; i++) {
            due("of " + i + " in all", x.power(4, i), 2);
        }
    }

    static void powerNoSuchOnes() {
        of(21, "POWER of FACT i in a told WISH; NONE: no such ones.");
        noneFor("power of k", outside(0, 7), (x, k) -> x.power(k, 0));
        noneFor("power of i", outside(0, 9), (x, i) -> x.power(0, i));
        PactYears x = withWishes("a");
        due("not told", x.power(1, 0), -1);
        due("told", x.power(0, 0), 1024);
    }

    static void like() {
        of(22, "LIKE a FACT: the others (bits) that may change places with it in all STATES and the WISH holds as before.");
        PactYears x = withWishes("1", "0", ALL_TEN, "a", "a&b&c&d&e&f&g&h&i&!j", "!(a&!(b|c|d|e|f|g|h|i|j))", "a^j", "a&!j");
        clause(x, 0, "0");
        int[] ofA = {1022, 1022, 1022, 0, 510, 0, 512, 0};
        int[] ofB = {1021, 1021, 1021, 1020, 509, 1020, 508, 508};
        int[] ofJ = {511, 511, 511, 510, 0, 510, 1, 0};
        for (int k = 0; k < 8; k++) {
            due("a in " + k, x.like(k, 0), ofA[k]);
            due("b in " + k, x.like(k, 1), ofB[k]);
            due("j in " + k, x.like(k, 9), ofJ[k]);
        }
    }

    static void likeNoSuchOnes() {
        of(22, "LIKE FACT i in a told WISH (bits); NONE: no such ones.");
        noneFor("like of k", outside(0, 7), (x, k) -> x.like(k, 0));
        noneFor("like of i", outside(0, 9), (x, i) -> x.like(0, i));
        PactYears x = withWishes("a");
        due("not told", x.like(1, 0), -1);
        due("told", x.like(0, 0), 0);
    }

    // ---- A LADDER

    private static void ladder(PactYears x, int k, int steps, int first) {
        due("steps to " + k, x.ladder(k, 0), steps);
        due("the first FACT to " + k, x.ladder(k, 1), first);
    }

    static void aLadderFromTheStateIfItFits() {
        of(23, "A LADDER: from THE STATE (if it FITS) to one in which a WISH holds");
        PactYears x = withWishes("a", "!a", "1");
        clause(x, 0, "!b");
        ladder(x, 0, 1, 0);
        ladder(x, 1, 0, -3);
        x.fact(1, true);
        ladder(x, 0, -2, -2);
        ladder(x, 1, -2, -2);
        ladder(x, 2, -2, -2);
        clause(x, 0, "b");
        ladder(x, 2, 0, -3);
    }

    static void eachStateOnTheWayFits() {
        of(23, "one FACT changed at a time, so that each STATE on the way FITS: the fewest steps; the first FACT that changes (the"
                + " lowest by which there are so few).");
        PactYears x = withWishes("a", "j", ALL_TEN, "a&b", "i&j");
        ladder(x, 0, 1, 0);
        ladder(x, 1, 1, 9);
        ladder(x, 2, 10, 0);
        ladder(x, 3, 2, 0);
        ladder(x, 4, 2, 8);
        clause(x, 0, "!a|b");
        ladder(x, 0, 2, 1);
        ladder(x, 2, 10, 1);
        clause(x, 1, "!a");
        ladder(x, 0, -2, -2);
        ladder(x, 1, 1, 9);
        PactYears down = withWishes("!a", "!j", "!(a|b|c|d|e|f|g|h|i|j)", "!i&j");
        set(down, 1023);
        ladder(down, 0, 1, 0);
        ladder(down, 1, 1, 9);
        ladder(down, 2, 10, 0);
        ladder(down, 3, 1, 8);
        clause(down, 0, "a|!b");
        ladder(down, 0, 2, 1);
        PactYears y = withWishes("j&!a");
        clause(y, 0, "(!b|a)&(!c|b)&(!d|c)&(!e|d)&(!f|e)");
        clause(y, 1, "(!g|f)&(!h|g)&(!i|h)&(!j|i|!a)");
        set(y, 0);
        ladder(y, 0, 1, 9);
        clause(y, 1, "(!g|f)&(!h|g)&(!i|h)&(!j|i)");
        ladder(y, 0, -2, -2);
        clause(y, 0, "(!b|a)&(!c|b)&(!d|c)&(!e|d)&(!f|e)|j");
        ladder(y, 0, 11, 0);
        PactYears z = withWishes("a&b&c");
        clause(z, 2, "!(a&!b&!c)&!(!a&b&!c)&!(!a&!b&c)");
        ladder(z, 0, -2, -2);
    }

    static void aLadderThereIsNone() {
        of(23, "A LADDER to a told WISH, what 0 steps, 1 the first FACT (-3: it holds already); -2: there is none; NONE: no such"
                + " ones.");
        PactYears x = withWishes("1", "0", "a");
        ladder(x, 0, 0, -3);
        ladder(x, 1, -2, -2);
        set(x, 1023);
        ladder(x, 2, 0, -3);
        due("not told", x.ladder(3, 0), -1);
        noneFor("ladder of k", outside(0, 7), (y, k) -> y.ladder(k, 0));
        noneFor("ladder of what", outside(0, 1), (y, what) -> y.ladder(0, what));
    }

    // ---- LIKELY

    private static long likely(PactYears x, int k, int what, int... tenths) {
        feed(x, bytes(tenths));
        return x.likely(k, what);
    }

    private static void likelyAll(PactYears x, int k, int tenths, long above, long below) {
        int t = tenths;
        due("above, all " + t, likely(x, k, 0, t, t, t, t, t, t, t, t, t, t), above);
        due("below, all " + t, likely(x, k, 1, t, t, t, t, t, t, t, t, t, t), below);
    }

    static void likely() {
        of(24, "LIKELY: with each FACT so by told tenths (each for itself): how likely a WISH holds (without THE PACT).");
        PactYears x = withWishes(ALL_TEN, NONE_OF_TEN, "!(" + ALL_TEN + ")", "a", "0", "1", "a^b", "j|i&!j");
        clause(x, 0, "0");
        likelyAll(x, 0, 0, 0, 1);
        likelyAll(x, 0, 1, 1, 10000000000L);
        likelyAll(x, 0, 5, 1, 1024);
        likelyAll(x, 0, 9, 3486784401L, 10000000000L);
        likelyAll(x, 0, 10, 1, 1);
        likelyAll(x, 1, 0, 1, 1);
        likelyAll(x, 1, 10, 0, 1);
        likelyAll(x, 2, 1, 9999999999L, 10000000000L);
        likelyAll(x, 2, 10, 0, 1);
        likelyAll(x, 3, 4, 2, 5);
        likelyAll(x, 4, 7, 0, 1);
        likelyAll(x, 5, 7, 1, 1);
        likelyAll(x, 6, 3, 21, 50);
        likelyAll(x, 7, 5, 3, 4);
        due("each for itself", likely(x, 3, 0, 7, 1, 2, 3, 4, 5, 6, 8, 9, 0), 7);
        due("j by the tenth byte", likely(x, 7, 0, 0, 0, 0, 0, 0, 0, 0, 0, 0, 3), 3);
        due("i by the ninth byte", likely(x, 7, 0, 0, 0, 0, 0, 0, 0, 0, 0, 3, 0), 3);
    }

    static void likelyByTheFirstTenBytes() {
        of(24, "LIKELY by the first 10 bytes of the tape (tenths of each FACT, 0 to 10; empty then), what 0 above, 1 below the"
                + " line, without a common divisor");
        PactYears x = withWishes("a");
        due("the 11th byte is not looked at", likely(x, 0, 0, 3, 0, 0, 0, 0, 0, 0, 0, 0, 0, 255), 3);
        due("empty then", x.count(8), 0);
        due("below", likely(x, 0, 1, 3, 10, 10, 10, 10, 10, 10, 10, 10, 10, 11), 10);
        due("empty then", x.count(8), 0);
        due("without a common divisor", likely(x, 0, 0, 8, 1, 1, 1, 1, 1, 1, 1, 1, 1), 4);
        due("without a common divisor", likely(x, 0, 1, 8, 1, 1, 1, 1, 1, 1, 1, 1, 1), 5);
        due("0", likely(x, 0, 1, 0, 1, 1, 1, 1, 1, 1, 1, 1, 1), 1);
        due("10", likely(x, 0, 1, 10, 1, 1, 1, 1, 1, 1, 1, 1, 1), 1);
    }

    static void aByteAbove10() {
        of(24, "-2: a byte above 10; NONE: no such ones, it has not so many (the tape stays).");
        PactYears x = withWishes("a");
        for (int place = 0; place < 10; place++) {
            for (int above : new int[] {11, 128, 255}) {
                int[] tenths = new int[10];
                tenths[place] = above;
                due(above + " at " + place, likely(x, 0, place % 2, tenths), -2);
                due("the tape is empty", x.count(8), 0);
            }
        }
        due("10 at all", likely(x, 0, 0, 10, 10, 10, 10, 10, 10, 10, 10, 10, 10), 1);
        noneFor("likely of k", outside(0, 7), (y, k) -> y.likely(k, 0));
        noneFor("likely of what", outside(0, 1), (y, what) -> y.likely(0, what));
        refusedBy(Kind.SOME, "likely of a WISH that is not told", -1, y -> y.likely(1, 0));
        due("no tape", withWishes("a").likely(0, 0), -1);
        due("no tape", withWishes("a").likely(0, 1), -1);
    }

    // ---- ASKED, QUESTIONS

    private static void asked(PactYears x, int facts, int so, int... wants) {
        for (int what = 0; what <= 4; what++) {
            due("asked(" + facts + ", " + so + ", " + what + ")", x.asked(facts, so, what), wants[what]);
        }
    }

    static void statesThatFitAndAreSo() {
        of(25, "ASKED: the spirit has told truly of some FACTS (bits) which are so: STATES that FIT and are so: how many; the"
                + " first; FACTS (not asked) that are surely so, surely not (bits)");
        PactYears x = new PactYears();
        asked(x, 0, 0, 1024, 0, 0, 0, 0);
        asked(x, 1023, 1023, 1, 1023, 0, 0, -2);
        asked(x, 1023, 0, 1, 0, 0, 0, -2);
        asked(x, 1, 1, 512, 1, 0, 0, 1);
        asked(x, 512, 0, 512, 0, 0, 0, 0);
        asked(x, 511, 511, 2, 511, 0, 0, 9);
        clause(x, 0, "a&!j");
        asked(x, 0, 0, 256, 1, 1, 512, 1);
        asked(x, 1, 1, 256, 1, 0, 512, 1);
        asked(x, 512, 0, 256, 1, 1, 0, 1);
        asked(x, 513, 1, 256, 1, 0, 0, 1);
        clause(x, 1, "!(b|c|d|e|f|g|h|i)");
        asked(x, 0, 0, 1, 1, 1, 1022, -2);
        clause(x, 1, "b&c&d&e&f&g&h&i");
        clause(x, 0, "a&j");
        asked(x, 0, 0, 1, 1023, 1023, 0, -2);
    }

    static void theFactThatTellsMost() {
        of(25, "the FACT not asked that tells most (the greater part of STATES with, without it is smallest; of like ones the"
                + " lowest; if it tells nothing: none)");
        PactYears x = new PactYears();
        for (int i = 0; i < 10; i++) {
            due("of like ones the lowest not asked", x.asked((1 << i) - 1, 0, 4), i);
        }
        due("all are asked", x.asked(1023, 5, 4), -2);
        clause(x, 0, "a|b|c|d|e|f|g|h|i");
        due("j halves, the others all but", x.asked(0, 0, 4), 9);
        due("j is asked", x.asked(512, 0, 4), 0);
        clause(x, 0, NONE_OF_TEN);
        due("one STATE: it tells nothing", x.asked(0, 0, 4), -2);
        clause(x, 0, "!(a|b|c|d|e|f|g|h|i)");
        due("only j tells", x.asked(0, 0, 4), 9);
        due("j is asked: the others tell nothing", x.asked(512, 512, 4), -2);
        clause(x, 0, "!2(a,b,c,d,e,f,g,h,i,j)");
        due("with is the smaller part", x.asked(0, 0, 4), 0);
        clause(x, 0, "9(a,b,c,d,e,f,g,h,i,j)");
        due("without is the smaller part", x.asked(1, 1, 4), 1);
    }

    static void othersAreNotLookedAt() {
        of(25, "ASKED (FACTS, of them those that are so; others are not looked at)");
        PactYears x = new PactYears();
        clause(x, 0, "a|b");
        clause(x, 1, "!j");
        for (int so : new int[] {0, 1, 2, 3, 512, 1023}) {
            due("none is asked, so " + so, x.asked(0, so, 0), 384);
            due("c is asked, so " + so, x.asked(4, so & ~4, 0), 192);
        }
        asked(x, 4, 1023, 192, 5, 0, 512, 3);
        asked(x, 4, 4, 192, 5, 0, 512, 3);
        asked(x, 0, 1023, 384, 1, 0, 512, 2);
    }

    static void askedOfNone() {
        of(25, "what 0 how many, 1 the first (-2: none), 2 surely so, 3 surely not (bits; none left: 0), 4 the FACT to ask next"
                + " (-2: none); NONE: no such ones.");
        PactYears x = new PactYears();
        clause(x, 0, "a");
        asked(x, 1, 0, 0, -2, 0, 0, -2);
        asked(x, 1023, 1022, 0, -2, 0, 0, -2);
        clause(x, 0, "0");
        asked(x, 0, 0, 0, -2, 0, 0, -2);
        noneFor("asked of FACTS", noFacts(), (y, facts) -> y.asked(facts, 0, 0));
        noneFor("asked of so", noFacts(), (y, so) -> y.asked(0, so, 0));
        noneFor("asked of so", noFacts(), (y, so) -> y.asked(1023, so, 1));
        noneFor("asked of what", outside(0, 4), (y, what) -> y.asked(1, 1, what));
        due("the last FACTS", new PactYears().asked(1023, 1023, 0), 1);
    }

    static void questionsTheGreaterPart() {
        of(26, "QUESTIONS: in how many of these STATES one may still be behind n more questions (0 to 10) so asked each time, if"
                + " the greater part (of like ones that which is not so) is left each time.");
        PactYears x = new PactYears();
        for (int n = 0; n <= 10; n++) {
            due("all, " + n, x.questions(0, 0, n), 1024 >> n);
        }
        int[] cubeWithoutB = {8, 4, 2, 1, 1};
        int[] cubeWithB = {8, 4, 3, 2, 1};
        clause(x, 0, "!(a|f|g|h|i|j)&(!b&!e|b&!2(c,d,e))");
        for (int n = 0; n <= 4; n++) {
            due("of like ones that which is not so, " + n, x.questions(0, 0, n), cubeWithoutB[n]);
        }
        clause(x, 0, "!(a|f|g|h|i|j)&(b&!e|!b&!2(c,d,e))");
        for (int n = 0; n <= 4; n++) {
            due("of like ones that which is not so, " + n, x.questions(0, 0, n), cubeWithB[n]);
        }
        clause(x, 0, "!(c|d|e|f|g|h|i|j)&(a|b)");
        int[] greaterIsSo = {3, 2, 1, 1};
        for (int n = 0; n <= 3; n++) {
            due("the greater part is so, " + n, x.questions(0, 0, n), greaterIsSo[n]);
        }
        clause(x, 0, "!2(a,b,c,d,e,f,g,h,i,j)");
        for (int n = 0; n <= 10; n++) {
            due("one less each time, " + n, x.questions(0, 0, n), 11 - n);
        }
        clause(x, 0, "9(a,b,c,d,e,f,g,h,i,j)");
        for (int n = 0; n <= 10; n++) {
            due("one less each time, " + n, x.questions(0, 0, n), 11 - n);
        }
    }

    static void questionsNoSuchOnes() {
        of(26, "QUESTIONS likewise, n more: STATES that are left; NONE: no such ones.");
        PactYears x = new PactYears();
        due("0 more", x.questions(3, 1, 0), 256);
        due("likewise: others are not looked at", x.questions(3, 1021, 0), 256);
        due("likewise: asked already", x.questions(3, 1, 8), 1);
        due("10 more, 8 are left to ask", x.questions(3, 1, 10), 1);
        due("all are asked", x.questions(1023, 77, 10), 1);
        clause(x, 0, "a");
        due("none is left", x.questions(1, 0, 0), 0);
        due("none is left", x.questions(1, 0, 10), 0);
        noneFor("questions of FACTS", noFacts(), (y, facts) -> y.questions(facts, 0, 0));
        noneFor("questions of so", noFacts(), (y, so) -> y.questions(0, so, 0));
        noneFor("questions of so", noFacts(), (y, so) -> y.questions(1023, so, 10));
        noneFor("questions of n", outside(0, 10), (y, n) -> y.questions(0, 0, n));
    }

    // ---- THE OTHER PACT

    static void theOtherPact() {
        of(28, "THE OTHER PACT: THE PACT as it was when it was COPIED (none: all STATES): STATES that FIT the one and not the"
                + " other one.");
        PactYears x = new PactYears();
        compare(x, 0, 0, 1024);
        clause(x, 0, "a");
        compare(x, 0, 512, 512);
        clause(x, 0, "0");
        compare(x, 0, 1024, 0);
        due("COPIED", x.copy(), 0);
        compare(x, 0, 0, 0);
        clause(x, 0, "1");
        compare(x, 1024, 0, 0);
        clause(x, 0, ALL_TEN);
        due("COPIED anew", x.copy(), 1);
        clause(x, 0, "j");
        compare(x, 511, 0, 1);
        clause(x, 0, "!j");
        compare(x, 512, 1, 0);
        x.drop(0);
        compare(x, 1023, 0, 1);
    }

    private static void compare(PactYears x, int... wants) {
        for (int what = 0; what <= 2; what++) {
            due("compare(" + what + ")", x.compare(what), wants[what]);
        }
    }

    static void compareNoSuchWhat() {
        of(28, "THE OTHER PACT, what 0 STATES that FIT THE PACT alone, 1 the other one alone, 2 both; NONE: no such what.");
        PactYears x = new PactYears();
        clause(x, 0, "a|b");
        x.copy();
        clause(x, 0, "b&c");
        compare(x, 0, 512, 256);
        clause(x, 0, "c");
        compare(x, 128, 384, 384);
        noneFor("compare", outside(0, 2), (y, what) -> y.compare(what));
    }

    static void copied() {
        of(27, "THE PACT is COPIED: in how many STATES it FITS.");
        PactYears x = new PactYears();
        due("no CLAUSE", x.copy(), 1024);
        clause(x, 0, "!(" + ALL_TEN + ")");
        due("all but one", x.copy(), 1023);
        clause(x, 7, ALL_TEN);
        due("none", x.copy(), 0);
        clause(x, 0, "1");
        due("one", x.copy(), 1);
        due("once more", x.copy(), 1);
    }
}
