/**
 * Four and twenty years of service: FACTS, WISHES and CLAUSES of a pact with a spirit that does
 * what is wished to the letter, with the least that does.
 *
 * <p>All that is asked about STATES is held as tables of 1024 bits (16 longs, STATE s at bit s % 64
 * of word s / 64), so that most answers come from a few operations on whole words. Every row is
 * made with the object and used again: no call makes an object.
 */
public final class PactYears {
    public static final int NONE = -1;

    private static final int FACTS = 10;
    private static final int STATES = 1024;
    private static final int WORDS = 16;
    private static final int BOOK_SIZE = 8;
    private static final int MOST_TAPE = 260;
    private static final int FED_BYTES = 20;
    private static final int MOST_LAW_BYTES = 240;
    private static final int MOST_FORMULA_BYTES = 100;
    private static final int MOST_FORMULAS = 10;
    private static final int MOST_RULES = 16;
    private static final int DEEPEST = 6;
    private static final int MOST_PRICE = 99;
    private static final int MOST_WISH_DAYS = 999;
    private static final int MOST_WISH_SINS = 99;
    private static final int LAST_DAY = 8640;
    private static final int YEAR_DAYS = 360;
    private static final int MONTH_DAYS = 30;
    private static final int MOST_SINS = 9999;
    private static final int MOST_ORDERED = 5;
    private static final int MOST_BY_WISHES = 4;
    private static final int MOST_DEAD = 8;
    private static final int MOST_QUESTIONS = 10;
    private static final int TENTHS = 10;
    private static final long ALL_CHANCES = 10000000000L;
    private static final int ALL_ANSWER = 20;
    private static final int PRICES_ANSWER = 10;
    private static final int FIRST_PRICE_COUNT = 20;
    /** More than all DAYS, PRICES and what is reckoned of them can come to. */
    private static final int FAR = 1000000000;

    private static final int NO_WAY = -2;
    private static final int BALKS = -3;
    private static final int HOLDS_ALREADY = -3;
    private static final int IS_SPENT = -4;
    private static final int NO_PLACE = -4;
    private static final int IS_OVER = -5;

    private static final int END = -1;
    private static final int WRONG = 1;
    private static final int SIXTH_DIGIT = 2;
    private static final int TOO_MANY = 4;
    private static final int TOO_DEEP = 5;

    private final Tape tape = new Tape();
    private final FormulaReader formulas = new FormulaReader(tape);
    private final Book wishes = new Book();
    private final Book clauses = new Book();
    private final Prices prices = new Prices();
    private final long[] fit = new long[WORDS];
    private final long[] other = new long[WORDS];
    private final long[] chosen = new long[WORDS];
    private final long[] grown = new long[WORDS];
    private final Spirit spirit = new Spirit(new Law(tape), wishes, fit, prices);
    private final WordSearch words = new WordSearch();
    private final Tour tour = new Tour();
    private final Standing now = new Standing();
    private final Standing kept = new Standing();
    private boolean isKept;
    private Law spareLaw = new Law(tape);

    public PactYears() {
        Tables.fill(fit);
        Tables.fill(other);
    }

    public boolean fact(int i, boolean is) {
        if (!isFact(i)) {
            return false;
        }
        int bit = 1 << i;
        now.state = is ? now.state | bit : now.state & ~bit;
        return true;
    }

    public boolean price(int i, int days) {
        if (!isFact(i) || days < 0 || days > MOST_PRICE) {
            return false;
        }
        prices.set(i, days);
        return true;
    }

    public int feed(int a, int b, int c, int d, int e) {
        if (tape.size + FED_BYTES > MOST_TAPE) {
            return NONE;
        }
        tape.add(a);
        tape.add(b);
        tape.add(c);
        tape.add(d);
        tape.add(e);
        return tape.size;
    }

    public int law(int n) {
        if (n < 1 || n > MOST_LAW_BYTES || n > tape.size) {
            return NONE;
        }
        int answer = spareLaw.read(n);
        tape.size = 0;
        if (answer > 0) {
            // the one before must stay as it is until the new one is known to be without a FAULT
            Law before = spirit.law;
            spirit.law = spareLaw;
            spareLaw = before;
        }
        return answer;
    }

    public int wish(int k, int n) {
        int answer = tell(wishes, k, n);
        if (answer >= 0) {
            now.spent &= ~(1 << k);
        }
        return answer;
    }

    public int clause(int k, int n) {
        int answer = tell(clauses, k, n);
        if (answer >= 0) {
            gatherFit();
        }
        return answer;
    }

    public boolean drop(int k) {
        if (!clauses.has(k)) {
            return false;
        }
        clauses.erase(k);
        gatherFit();
        return true;
    }

    public int wished(int k) {
        if (!wishes.has(k)) {
            return NONE;
        }
        spirit.plan(now, k);
        if (spirit.answer == NO_WAY) {
            now.free = true;
        } else if (spirit.answer >= 0) {
            spirit.grant(now, k);
        }
        return spirit.answer;
    }

    public int tried(int k, int what) {
        if (!wishes.has(k) || what < 0 || what > 4) {
            return NONE;
        }
        spirit.plan(now, k);
        switch (what) {
            case 0:
                return spirit.answer;
            case 1:
                return spirit.state;
            case 2:
                return spirit.changes;
            case 3:
                return spirit.paid;
            default:
                return spirit.sins;
        }
    }

    public int days(int n) {
        if (n < 1 || n > LAST_DAY) {
            return NONE;
        }
        now.passDays(n);
        return now.day;
    }

    public int fits(int what) {
        if (what < 0 || what > 5) {
            return NONE;
        }
        if (what == 0) {
            return Tables.size(fit);
        }
        if (what == 5) {
            return Tables.has(fit, now.state) ? 1 : 0;
        }
        if (Tables.isEmpty(fit)) {
            return NO_WAY;
        }
        switch (what) {
            case 1:
                return Tables.first(fit);
            case 2:
                return Tables.last(fit);
            case 3:
                return Tables.sure(fit, true);
            default:
                return Tables.sure(fit, false);
        }
    }

    public int wishIs(int k, int what) {
        if (!wishes.has(k) || what < 0 || what > 4) {
            return NONE;
        }
        long[] table = wishes.tables[k];
        switch (what) {
            case 0:
                return Tables.sharedSize(fit, table);
            case 1:
                return Tables.has(table, now.state) ? 1 : 0;
            case 2:
                return now.spent >> k & 1;
            case 3:
                return Tables.dependsOn(table);
            default:
                return Tables.rising(table);
        }
    }

    public int why(int k, int what) {
        if (!wishes.has(k) || what < 0 || what > 1) {
            return NONE;
        }
        int which = fewestAgainst(wishes.tables[k], clauses, clauses.told, 0);
        return which >= 0 && what == 0 ? Integer.bitCount(which) : which;
    }

    public int joke(int what) {
        if (what < 0 || what > 1) {
            return NONE;
        }
        int which = NO_WAY;
        int most = 0;
        for (int k = 0; k < BOOK_SIZE; k++) {
            if (clauses.has(k)) {
                clauses.meet(clauses.told & ~(1 << k), chosen);
                int more = Tables.size(chosen) - Tables.size(fit);
                if (which == NO_WAY || more > most) {
                    which = k;
                    most = more;
                }
            }
        }
        return what == 0 ? which : most;
    }

    public int freeing() {
        int bits = 0;
        for (int k = 0; k < BOOK_SIZE; k++) {
            if (wishes.has(k) && Tables.sharedSize(fit, wishes.tables[k]) == 0) {
                bits |= 1 << k;
            }
        }
        return bits;
    }

    public int inOrder(int wishes, int what) {
        int places = this.wishes.howMany(wishes);
        if (places < 1 || places > MOST_ORDERED || what != ALL_ANSWER && (what < 0 || what >= places)) {
            return NONE;
        }
        if (!spirit.order(now, wishes)) {
            return NO_WAY;
        }
        return what == ALL_ANSWER ? spirit.fewestDays : spirit.bestRow[what];
    }

    public int byWishes(int k, int what) {
        if (!wishes.has(k) || what != ALL_ANSWER && (what < 0 || what >= MOST_BY_WISHES)) {
            return NONE;
        }
        int places = spirit.reach(now, k);
        if (places < 0) {
            return NO_WAY;
        }
        if (what == ALL_ANSWER) {
            return places;
        }
        return what < places ? spirit.row[what] : NO_PLACE;
    }

    public int follows(int k, int j, int what) {
        if (!wishes.has(k) || !wishes.has(j) || what < 0 || what > 2) {
            return NONE;
        }
        int firstAlone = Tables.loneSize(fit, wishes.tables[k], wishes.tables[j]);
        int secondAlone = Tables.loneSize(fit, wishes.tables[j], wishes.tables[k]);
        switch (what) {
            case 0:
                return firstAlone == 0 ? 1 : 0;
            case 1:
                return firstAlone + secondAlone == 0 ? 1 : 0;
            default:
                return firstAlone + secondAlone;
        }
    }

    public int word(int k, int what) {
        if (!wishes.has(k) || what < 0 || what > 2) {
            return NONE;
        }
        if (!words.find(wishes.tables[k])) {
            return NO_WAY;
        }
        switch (what) {
            case 0:
                return Integer.bitCount(words.facts);
            case 1:
                return words.facts;
            default:
                return words.so;
        }
    }

    public int power(int k, int i) {
        return wishes.has(k) && isFact(i) ? Tables.swing(wishes.tables[k], i) : NONE;
    }

    public int like(int k, int i) {
        if (!wishes.has(k) || !isFact(i)) {
            return NONE;
        }
        int bits = 0;
        for (int j = 0; j < FACTS; j++) {
            if (j != i && Tables.mayChangePlaces(wishes.tables[k], i, j)) {
                bits |= 1 << j;
            }
        }
        return bits;
    }

    public int ladder(int k, int what) {
        if (!wishes.has(k) || what < 0 || what > 1) {
            return NONE;
        }
        if (!Tables.has(fit, now.state)) {
            return NO_WAY;
        }
        long[] goal = wishes.tables[k];
        if (Tables.has(goal, now.state)) {
            return what == 0 ? 0 : HOLDS_ALREADY;
        }
        for (int w = 0; w < WORDS; w++) {
            chosen[w] = fit[w] & goal[w];
        }
        // from the goal back, so that the first ring beside THE STATE tells the lowest first FACT
        for (int steps = 1; steps < STATES; steps++) {
            int first = lowestFactInto(now.state);
            if (first >= 0) {
                return what == 0 ? steps : first;
            }
            if (!growByOneStep()) {
                return NO_WAY;
            }
        }
        return NO_WAY;
    }

    public long likely(int k, int what) {
        if (!wishes.has(k) || what < 0 || what > 1 || tape.size < FACTS) {
            return NONE;
        }
        tape.size = 0;
        for (int i = 0; i < FACTS; i++) {
            if (tape.at(i) > TENTHS) {
                return NO_WAY;
            }
        }
        long above = chances(wishes.tables[k], FACTS, 0);
        long divisor = Math.max(1, commonDivisor(ALL_CHANCES, above));
        return what == 0 ? above / divisor : ALL_CHANCES / divisor;
    }

    public int asked(int facts, int so, int what) {
        if (!areFacts(facts) || !areFacts(so) || what < 0 || what > 4) {
            return NONE;
        }
        gatherAsked(facts, so);
        if (what == 0) {
            return Tables.size(chosen);
        }
        if (what == 4) {
            return nextQuestion(facts);
        }
        if (Tables.isEmpty(chosen)) {
            return what == 1 ? NO_WAY : 0;
        }
        return what == 1 ? Tables.first(chosen) : Tables.sure(chosen, what == 2) & ~facts;
    }

    public int questions(int facts, int so, int n) {
        if (!areFacts(facts) || !areFacts(so) || n < 0 || n > MOST_QUESTIONS) {
            return NONE;
        }
        gatherAsked(facts, so);
        int known = facts;
        for (int turn = 0; turn < n; turn++) {
            int i = nextQuestion(known);
            if (i < 0) {
                break;
            }
            int with = Tables.sizeWith(chosen, i);
            Tables.narrow(chosen, i, with > Tables.size(chosen) - with);
            known |= 1 << i;
        }
        return Tables.size(chosen);
    }

    public int copy() {
        System.arraycopy(fit, 0, other, 0, WORDS);
        return Tables.size(fit);
    }

    public int compare(int what) {
        switch (what) {
            case 0:
                return Tables.size(fit) - Tables.sharedSize(fit, other);
            case 1:
                return Tables.size(other) - Tables.sharedSize(fit, other);
            case 2:
                return Tables.sharedSize(fit, other);
            default:
                return NONE;
        }
    }

    public int dead(int n, int what) {
        if (n < 1 || n > MOST_DEAD || 2 * n > tape.size) {
            return NONE;
        }
        tape.size = 0;
        for (int i = 0; i < n; i++) {
            int state = tape.at(2 * i) * 256 + tape.at(2 * i + 1);
            if (state >= STATES) {
                return NO_WAY;
            }
            tour.states[i] = state;
        }
        if (what != PRICES_ANSWER && (what < 0 || what >= n)) {
            return NO_PLACE;
        }
        int paid = tour.find(now.state, n, prices);
        return what == PRICES_ANSWER ? paid : tour.row[what];
    }

    public int summer(int n) {
        if (n < 1 || n > YEAR_DAYS || now.isOver()) {
            return NONE;
        }
        int month = now.month();
        int cost = 10 * ((n + MONTH_DAYS - 1) / MONTH_DAYS);
        if (month >= 5 && month <= 7) {
            cost *= 2;
        }
        now.addSins(cost);
        now.day = Math.max(0, now.day - n);
        return cost;
    }

    public int hindered(int facts, int what) {
        if (!areFacts(facts) || facts == 0 || what < 0 || what > 1) {
            return NONE;
        }
        int which = NONE;
        int most = NONE;
        for (int i = 0; i < FACTS; i++) {
            if ((facts >> i & 1) != 0) {
                int forbidden = Tables.forbidden(fit, i);
                if (forbidden > most) {
                    which = i;
                    most = forbidden;
                }
            }
        }
        return what == 0 ? which : most;
    }

    public int friends(int wishes, int what) {
        int places = this.wishes.howMany(wishes);
        if (places < 2 || places > 6 || what < 0 || what > 1) {
            return NONE;
        }
        int which = fewestAgainst(fit, this.wishes, wishes, 1);
        return which >= 0 && what == 0 ? Integer.bitCount(which) : which;
    }

    public int keep() {
        kept.take(now);
        isKept = true;
        return now.day;
    }

    public boolean undo() {
        if (isKept) {
            now.take(kept);
        }
        return isKept;
    }

    public int check(int n) {
        if (n < 0 || n > FACTS || n > tape.size) {
            return NO_WAY;
        }
        tape.size = 0;
        for (int i = 0; i < n; i++) {
            if (tape.at(i) != (now.state >> i & 1)) {
                return i;
            }
        }
        return NONE;
    }

    public int count(int what) {
        if (isFact(what - FIRST_PRICE_COUNT)) {
            return prices.of(1 << what - FIRST_PRICE_COUNT);
        }
        switch (what) {
            case 0:
                return now.state;
            case 1:
                return now.day;
            case 2:
                return now.sins;
            case 3:
                return now.granted;
            case 4:
                return wishes.told;
            case 5:
                return clauses.told;
            case 6:
                return now.spent;
            case 7:
                return spirit.law.rules;
            case 8:
                return tape.size;
            case 9:
                return now.free ? 1 : now.isFetched() ? 2 : 0;
            default:
                return NONE;
        }
    }

    private static boolean isFact(int i) {
        return i >= 0 && i < FACTS;
    }

    private static boolean areFacts(int bits) {
        return bits >= 0 && bits < STATES;
    }

    private int tell(Book book, int k, int n) {
        if (k < 0 || k >= BOOK_SIZE || n < 1 || n > MOST_FORMULA_BYTES || n > tape.size) {
            return NONE;
        }
        int fault = formulas.read(n);
        tape.size = 0;
        if (fault != 0) {
            return fault;
        }
        book.write(k, formulas.table);
        return Tables.size(formulas.table);
    }

    private void gatherFit() {
        clauses.meet(clauses.told, fit);
    }

    private void gatherAsked(int facts, int so) {
        System.arraycopy(fit, 0, chosen, 0, WORDS);
        for (int i = 0; i < FACTS; i++) {
            if ((facts >> i & 1) != 0) {
                Tables.narrow(chosen, i, (so >> i & 1) != 0);
            }
        }
    }

    /** The FACT beside the known ones that tells most about the chosen STATES. */
    private int nextQuestion(int known) {
        int all = Tables.size(chosen);
        int which = NO_WAY;
        int least = all;
        for (int i = 0; i < FACTS; i++) {
            if ((known >> i & 1) == 0) {
                int with = Tables.sizeWith(chosen, i);
                int greater = Math.max(with, all - with);
                if (greater < least) {
                    least = greater;
                    which = i;
                }
            }
        }
        return which;
    }

    /** The fewest of these FORMULAS that leave nothing of the table; of like ones the least bits. */
    private static int fewestAgainst(long[] table, Book book, int among, int leastBits) {
        if (book.leavesSome(table, among)) {
            return NO_WAY;
        }
        int which = among;
        for (int bits = leastBits; bits < among; bits++) {
            boolean fewer = Integer.bitCount(bits) < Integer.bitCount(which);
            if ((bits & ~among) == 0 && fewer && !book.leavesSome(table, bits)) {
                which = bits;
            }
        }
        return which;
    }

    /** How many of 10 chances for each of the first FACTS make the table hold, the others being told. */
    private long chances(long[] table, int facts, int state) {
        if (facts <= 0) {
            return Tables.has(table, state) ? 1 : 0;
        }
        int i = facts - 1;
        int with = tape.at(i);
        long sum = 0;
        if (with > 0) {
            sum += with * chances(table, i, state | 1 << i);
        }
        if (with < TENTHS) {
            sum += (TENTHS - with) * chances(table, i, state);
        }
        return sum;
    }

    private static long commonDivisor(long one, long two) {
        long greater = one;
        long less = two;
        for (int turn = 0; turn < 100 && less != 0; turn++) {
            long left = greater % less;
            greater = less;
            less = left;
        }
        return greater;
    }

    private int lowestFactInto(int state) {
        for (int i = 0; i < FACTS; i++) {
            if (Tables.has(chosen, state ^ 1 << i)) {
                return i;
            }
        }
        return NONE;
    }

    private boolean growByOneStep() {
        boolean isMore = false;
        for (int w = 0; w < WORDS; w++) {
            long beside = 0;
            for (int i = 0; i < FACTS; i++) {
                beside |= Tables.changed(chosen, w, 1 << i);
            }
            grown[w] = chosen[w] | beside & fit[w];
            isMore |= grown[w] != chosen[w];
        }
        System.arraycopy(grown, 0, chosen, 0, WORDS);
        return isMore;
    }

    /** The bytes that were fed and not yet used. */
    private static final class Tape {
        final byte[] bytes = new byte[MOST_TAPE];
        int size;

        void add(int four) {
            for (int shift = 24; shift >= 0 && size < MOST_TAPE; shift -= 8) {
                bytes[size] = (byte) (four >> shift);
                size++;
            }
        }

        /** Also of a tape that was just emptied: its bytes stand until others are fed. */
        int at(int i) {
            return i >= 0 && i < MOST_TAPE ? bytes[i] & 255 : 0;
        }
    }

    /** Functions over tables of STATES; a word's number is cut to its bounds. */
    private static final class Tables {
        private static final long[] SO = {
            0xAAAAAAAAAAAAAAAAL, 0xCCCCCCCCCCCCCCCCL, 0xF0F0F0F0F0F0F0F0L,
            0xFF00FF00FF00FF00L, 0xFFFF0000FFFF0000L, 0xFFFFFFFF00000000L
        };
        static final int INSIDE = 6;

        /** The STATES of one word in which a FACT is so. */
        static long soWord(int fact, int w) {
            if (fact >= 0 && fact < INSIDE) {
                return SO[fact];
            }
            return (w >> fact - INSIDE & 1) != 0 ? -1L : 0L;
        }

        /** One word of the table as it is when all these FACTS are changed. */
        static long changed(long[] table, int w, int facts) {
            long word = table[(w ^ facts >> INSIDE) & WORDS - 1];
            for (int i = 0; i < INSIDE; i++) {
                if ((facts >> i & 1) != 0) {
                    word = (word & SO[i]) >>> (1 << i) | (word & ~SO[i]) << (1 << i);
                }
            }
            return word;
        }

        static void fill(long[] table) {
            for (int w = 0; w < WORDS; w++) {
                table[w] = -1L;
            }
        }

        static boolean has(long[] table, int state) {
            return (table[state >> INSIDE & WORDS - 1] >>> (state & 63) & 1L) != 0;
        }

        static boolean isEmpty(long[] table) {
            long any = 0;
            for (int w = 0; w < WORDS; w++) {
                any |= table[w];
            }
            return any == 0;
        }

        static int size(long[] table) {
            int size = 0;
            for (int w = 0; w < WORDS; w++) {
                size += Long.bitCount(table[w]);
            }
            return size;
        }

        static int sharedSize(long[] one, long[] two) {
            int size = 0;
            for (int w = 0; w < WORDS; w++) {
                size += Long.bitCount(one[w] & two[w]);
            }
            return size;
        }

        /** In how many STATES of the first table the second one holds without the third. */
        static int loneSize(long[] among, long[] with, long[] without) {
            int size = 0;
            for (int w = 0; w < WORDS; w++) {
                size += Long.bitCount(among[w] & with[w] & ~without[w]);
            }
            return size;
        }

        static int sizeWith(long[] table, int fact) {
            int size = 0;
            for (int w = 0; w < WORDS; w++) {
                size += Long.bitCount(table[w] & soWord(fact, w));
            }
            return size;
        }

        static void narrow(long[] table, int fact, boolean so) {
            for (int w = 0; w < WORDS; w++) {
                long word = soWord(fact, w);
                table[w] &= so ? word : ~word;
            }
        }

        static int lowestBit(long word) {
            return Long.bitCount((word & -word) - 1);
        }

        static int first(long[] table) {
            for (int w = 0; w < WORDS; w++) {
                if (table[w] != 0) {
                    return w * 64 + lowestBit(table[w]);
                }
            }
            return NONE;
        }

        static int last(long[] table) {
            for (int state = STATES - 1; state >= 0; state--) {
                if (has(table, state)) {
                    return state;
                }
            }
            return NONE;
        }

        /** FACTS (bits) that are so, or that are not so, in all STATES of the table. */
        static int sure(long[] table, boolean so) {
            int size = size(table);
            int bits = 0;
            for (int i = 0; i < FACTS; i++) {
                if (sizeWith(table, i) == (so ? size : 0)) {
                    bits |= 1 << i;
                }
            }
            return bits;
        }

        /** In how many STATES changing the FACT changes whether the table has them. */
        static int swing(long[] table, int fact) {
            int size = 0;
            for (int w = 0; w < WORDS; w++) {
                size += Long.bitCount(table[w] ^ changed(table, w, 1 << fact));
            }
            return size;
        }

        /** How many STATES of the table are left behind by changing the FACT. */
        static int forbidden(long[] table, int fact) {
            // each STATE that is left has its partner outside: half of those that swing
            return swing(table, fact) / 2;
        }

        static int dependsOn(long[] table) {
            int bits = 0;
            for (int i = 0; i < FACTS; i++) {
                if (swing(table, i) != 0) {
                    bits |= 1 << i;
                }
            }
            return bits;
        }

        static int rising(long[] table) {
            int bits = dependsOn(table);
            for (int i = 0; i < FACTS; i++) {
                for (int w = 0; w < WORDS; w++) {
                    if ((table[w] & ~changed(table, w, 1 << i) & ~soWord(i, w)) != 0) {
                        bits &= ~(1 << i);
                    }
                }
            }
            return bits;
        }

        static boolean mayChangePlaces(long[] table, int one, int two) {
            long wrong = 0;
            for (int w = 0; w < WORDS; w++) {
                long differ = soWord(one, w) ^ soWord(two, w);
                wrong |= (table[w] ^ changed(table, w, 1 << one | 1 << two)) & differ;
            }
            return wrong == 0;
        }
    }

    /** WISHES, or CLAUSES: which are told, and in which STATES each holds. */
    private static final class Book {
        final long[][] tables = new long[BOOK_SIZE][WORDS];
        int told;

        boolean has(int k) {
            return k >= 0 && k < BOOK_SIZE && (told >> k & 1) != 0;
        }

        /** How many these bits are, if all of them are told; else NONE. */
        int howMany(int bits) {
            return (bits & ~told) == 0 ? Integer.bitCount(bits) : NONE;
        }

        void write(int k, long[] table) {
            System.arraycopy(table, 0, tables[k], 0, WORDS);
            told |= 1 << k;
        }

        void erase(int k) {
            told &= ~(1 << k);
        }

        long sharedWord(int bits, int w) {
            long word = -1L;
            for (int k = 0; k < BOOK_SIZE; k++) {
                if ((bits >> k & 1) != 0) {
                    word &= tables[k][w & WORDS - 1];
                }
            }
            return word;
        }

        void meet(int bits, long[] into) {
            for (int w = 0; w < WORDS; w++) {
                into[w] = sharedWord(bits, w);
            }
        }

        boolean leavesSome(long[] table, int bits) {
            for (int w = 0; w < WORDS; w++) {
                if ((table[w] & sharedWord(bits, w)) != 0) {
                    return true;
                }
            }
            return false;
        }
    }

    /** PRICES and, in one number, what changing many FACTS costs: 16 times their PRICES and how many. */
    private static final class Prices {
        private static final int LOW = 64;
        private static final int HIGH = 16;
        private static final int STEP = 16;
        private final int[] price = {1, 1, 1, 1, 1, 1, 1, 1, 1, 1};
        private final int[] low = new int[LOW];
        private final int[] high = new int[HIGH];
        private final int[] cheapestFirst = new int[LOW];

        Prices() {
            for (int bits = 0; bits < LOW; bits++) {
                cheapestFirst[bits] = bits;
            }
            reckon();
        }

        void set(int fact, int days) {
            if (fact >= 0 && fact < FACTS) {
                price[fact] = days;
            }
            reckon();
        }

        private void reckon() {
            for (int bits = 1; bits < LOW; bits++) {
                low[bits] = low[bits & bits - 1] + step(Tables.lowestBit(bits));
            }
            for (int bits = 1; bits < HIGH; bits++) {
                high[bits] = high[bits & bits - 1] + step(Tables.INSIDE + Tables.lowestBit(bits));
            }
            for (int place = 1; place < LOW; place++) {
                sortIn(place);
            }
        }

        private void sortIn(int place) {
            int to = place & LOW - 1;
            int bits = cheapestFirst[to] & LOW - 1;
            for (; to > 0 && low[cheapestFirst[to - 1] & LOW - 1] > low[bits]; to--) {
                cheapestFirst[to] = cheapestFirst[to - 1];
            }
            cheapestFirst[to] = bits;
        }

        private int step(int fact) {
            return fact >= 0 && fact < FACTS ? price[fact] * STEP + 1 : 0;
        }

        int of(int facts) {
            return (low[facts & LOW - 1] + high[facts >> Tables.INSIDE & HIGH - 1]) / STEP;
        }

        /** The STATE of both tables that is nearest: by PRICES, changes, its number; or NONE. */
        int nearest(long[] one, long[] two, int from) {
            int best = FAR;
            for (int far = 0; far < WORDS; far++) {
                int w = (far ^ from >> Tables.INSIDE) & WORDS - 1;
                long left = one[w] & two[w];
                for (int turn = 0; turn < LOW && left != 0; turn++) {
                    int near = cheapestFirst[turn] & LOW - 1;
                    int key = (high[far] + low[near]) * STATES;
                    if (key > best) {
                        break;
                    }
                    int bit = near ^ from & LOW - 1;
                    if ((left >>> bit & 1L) != 0) {
                        best = Math.min(best, key + w * LOW + bit);
                    }
                }
            }
            return best == FAR ? NONE : best % STATES;
        }
    }

    /** What is KEPT and UNDONE, and goes on in what is only tried. */
    private static final class Standing {
        int state;
        int day;
        int sins;
        int granted;
        int spent;
        boolean free;

        void take(Standing from) {
            state = from.state;
            day = from.day;
            sins = from.sins;
            granted = from.granted;
            spent = from.spent;
            free = from.free;
        }

        boolean isFetched() {
            return day >= LAST_DAY;
        }

        boolean isOver() {
            return free || isFetched();
        }

        int month() {
            return day % YEAR_DAYS / MONTH_DAYS;
        }

        void passDays(int n) {
            day = Math.min(LAST_DAY, day + n);
        }

        void addSins(int more) {
            sins = Math.min(MOST_SINS, sins + more);
        }
    }

    /** A text that is read from the left; the first FAULT stays, as the answer that tells it. */
    private abstract static class Reader {
        private final Tape tape;
        int length;
        int at;
        int fault;

        Reader(Tape tape) {
            this.tape = tape;
        }

        void begin(int n) {
            length = n;
            at = 0;
            fault = 0;
        }

        int here() {
            return at < length ? tape.at(at) : END;
        }

        void fail(int number) {
            if (fault == 0) {
                fault = -1000 * number - at;
            }
        }

        void expect(int sign) {
            if (here() == sign) {
                at++;
            } else {
                fail(WRONG);
            }
        }

        /** Goes into one more of those that are open in one another. */
        void open(int depth) {
            if (depth >= DEEPEST) {
                fail(TOO_DEEP);
            } else {
                at++;
            }
        }
    }

    /** Reads a FORMULA into a table: once for each word, 64 STATES at a time. */
    private static final class FormulaReader extends Reader {
        final long[] table = new long[WORDS];
        private int word;

        FormulaReader(Tape tape) {
            super(tape);
        }

        int read(int n) {
            for (int w = 0; w < WORDS; w++) {
                word = w;
                begin(n);
                table[w] = formula(0);
                if (here() != END) {
                    fail(WRONG);
                }
                if (fault != 0) {
                    return fault;
                }
            }
            return 0;
        }

        private long formula(int depth) {
            long some = 0;
            long odd = 0;
            long all = piece(depth);
            for (int turn = 0; turn < length && fault == 0; turn++) {
                int sign = here();
                if (sign != '&' && sign != '^' && sign != '|') {
                    break;
                }
                at++;
                long next = piece(depth);
                if (sign == '&') {
                    all &= next;
                    continue;
                }
                odd ^= all;
                all = next;
                if (sign == '|') {
                    some |= odd;
                    odd = 0;
                }
            }
            return some | odd ^ all;
        }

        private long piece(int depth) {
            int sign = here();
            if (!canBegin(sign)) {
                fail(WRONG);
                return 0;
            }
            if (sign >= 'a' || sign == '0' || sign == '1') {
                at++;
                return sign >= 'a' ? Tables.soWord(sign - 'a', word) : '0' - sign;
            }
            open(depth);
            if (fault != 0) {
                return 0;
            }
            if (sign == '!') {
                return ~piece(depth + 1);
            }
            if (sign != '(') {
                return soMany(sign - '0', depth + 1);
            }
            long inside = formula(depth + 1);
            expect(')');
            return inside;
        }

        private static boolean canBegin(int sign) {
            return sign >= 'a' && sign <= 'j' || sign >= '0' && sign <= '9' || sign == '!' || sign == '(';
        }

        /** Counts the FORMULAS that hold in all STATES of the word at once, one bit of the counts a long. */
        private long soMany(int least, int depth) {
            long ones = 0;
            long twos = 0;
            long fours = 0;
            long eights = 0;
            expect('(');
            for (int turn = 1; turn <= MOST_FORMULAS && fault == 0; turn++) {
                long holds = formula(depth);
                long carry = ones & holds;
                ones ^= holds;
                long nextCarry = twos & carry;
                twos ^= carry;
                eights ^= fours & nextCarry;
                fours ^= nextCarry;
                if (here() != ',') {
                    break;
                }
                at++;
                if (turn == MOST_FORMULAS) {
                    fail(canBegin(here()) ? TOO_MANY : WRONG);
                }
            }
            expect(')');
            long same = -1L;
            long more = 0;
            for (int bit = 3; bit >= 0; bit--) {
                long counted = bit == 3 ? eights : bit == 2 ? fours : bit == 1 ? twos : ones;
                if ((least >> bit & 1) == 0) {
                    more |= same & counted;
                    same &= ~counted;
                } else {
                    same &= counted;
                }
            }
            return more | same;
        }
    }

    /**
     * THE LAW, as codes in the order in which they are reckoned: a number, a letter's place behind
     * LETTER, or a sign below 0; a SKIP less its goal passes over what no more matters of a C.
     */
    private static final class Law extends Reader {
        private static final String LETTERS = "wcpsnymz";
        private static final int LETTER = 100000;
        private static final int AND_SKIP = -1000;
        private static final int OR_SKIP = -2000;
        private static final int CLOSE = -')';
        private static final int STACK = 32;
        int rules;
        private final int[] kinds = new int[MOST_RULES];
        private final int[] worths = new int[MOST_RULES];
        private final int[] tests = new int[MOST_RULES];
        private final int[] codes = new int[MOST_LAW_BYTES];
        private int size;
        private final int[] values = new int[8];
        private final int[] stack = new int[STACK];
        private boolean refused;

        Law(Tape tape) {
            super(tape);
        }

        /** How many RULES the text has, or its FAULT. */
        int read(int n) {
            begin(n);
            rules = 0;
            size = 0;
            for (int turn = 0; turn <= MOST_RULES && fault == 0; turn++) {
                readRule(rules);
                if (fault == 0 && here() == END) {
                    return rules;
                }
                expect(';');
            }
            return fault;
        }

        private void readRule(int rule) {
            int kind = here();
            if (kind != 'd' && kind != 'g' && kind != 'x') {
                fail(WRONG);
                return;
            }
            if (rule < 0 || rule >= MOST_RULES) {
                fail(TOO_MANY);
                return;
            }
            at++;
            kinds[rule] = kind;
            worths[rule] = size;
            rules = rule + 1;
            if (kind == 'x') {
                emit(1);
            } else {
                readSum(0);
            }
            emit(CLOSE);
            tests[rule] = size;
            expect('(');
            readSome(1);
            expect(')');
            emit(CLOSE);
        }

        private void emit(int code) {
            if (size < MOST_LAW_BYTES) {
                codes[size] = code;
                size++;
            }
        }

        /** The skip at this place goes to what comes next: there a like skip may go on. */
        private void landSkip(int place) {
            if (place >= 0 && place < MOST_LAW_BYTES) {
                codes[place] -= size;
            }
        }

        private void readSome(int depth) {
            int andSkip = NONE;
            int orSkip = NONE;
            readTest(depth);
            for (int turn = 0; turn < length && fault == 0; turn++) {
                int sign = here();
                if (sign != '&' && sign != '|') {
                    break;
                }
                at++;
                landSkip(andSkip);
                andSkip = NONE;
                if (sign == '&') {
                    andSkip = size;
                    emit(AND_SKIP);
                } else {
                    landSkip(orSkip);
                    orSkip = size;
                    emit(OR_SKIP);
                }
                readTest(depth);
            }
            landSkip(andSkip);
            landSkip(orSkip);
        }

        private void readTest(int depth) {
            int sign = here();
            if (sign == '!') {
                open(depth);
                if (fault == 0) {
                    readTest(depth + 1);
                    emit(-sign);
                }
            } else if (sign == '(') {
                open(depth);
                if (fault == 0) {
                    readSome(depth + 1);
                    expect(')');
                }
            } else {
                readSum(depth);
                int relation = here();
                if (relation != '<' && relation != '>' && relation != '=') {
                    fail(WRONG);
                    return;
                }
                at++;
                readSum(depth);
                emit(-relation);
            }
        }

        private void readSum(int depth) {
            int waiting = 0;
            readFactor(depth);
            for (int turn = 0; turn < length && fault == 0; turn++) {
                int sign = here();
                if (sign == '*' || sign == '/' || sign == '%') {
                    at++;
                    readFactor(depth);
                    emit(-sign);
                } else if (sign == '+' || sign == '-') {
                    at++;
                    // the sign ahead of a TERM is reckoned when the TERM has ended
                    if (waiting != 0) {
                        emit(-waiting);
                    }
                    waiting = sign;
                    readFactor(depth);
                } else {
                    break;
                }
            }
            if (waiting != 0) {
                emit(-waiting);
            }
        }

        private void readFactor(int depth) {
            int sign = here();
            int letter = sign >= 'a' ? LETTERS.indexOf((char) sign) : NONE;
            if (sign == '[') {
                open(depth);
                if (fault == 0) {
                    readSum(depth + 1);
                    expect(']');
                }
            } else if (sign >= '0' && sign <= '9') {
                readNumber();
            } else if (letter >= 0) {
                at++;
                emit(LETTER + letter);
            } else {
                fail(WRONG);
            }
        }

        private void readNumber() {
            int value = 0;
            for (int digits = 0; digits <= 5; digits++) {
                int sign = here();
                if (sign < '0' || sign > '9') {
                    break;
                }
                if (digits == 5) {
                    fail(SIXTH_DIGIT);
                    break;
                }
                value = value * 10 + sign - '0';
                at++;
            }
            emit(value);
        }

        void look(int k, int facts, int theirPrices, Standing ahead) {
            values[0] = k;
            values[1] = facts;
            values[2] = theirPrices;
            values[3] = Integer.bitCount(ahead.state);
            values[4] = ahead.granted;
            values[5] = ahead.day / YEAR_DAYS;
            values[6] = ahead.month();
            values[7] = ahead.sins;
        }

        /** The E of the first RULE of this kind whose C holds, within 0 and the most; of an x it is 1. */
        int worth(int kind, int most) {
            for (int rule = 0; rule < rules && rule < MOST_RULES; rule++) {
                if (kinds[rule] == kind && run(tests[rule]) != 0) {
                    return Math.max(0, Math.min(most, run(worths[rule])));
                }
            }
            return 0;
        }

        /** Reckons an E or a C from its first code on; 0, too, if that is REFUSED. */
        private int run(int from) {
            int value = 0;
            int top = 0;
            refused = false;
            for (int i = Math.max(0, from); i < size && codes[i] != CLOSE && !refused; i++) {
                int code = codes[i];
                if (code >= 0) {
                    stack[top & STACK - 1] = value;
                    top++;
                    value = code < LETTER ? code : values[code - LETTER & 7];
                } else if (code <= AND_SKIP) {
                    boolean isOr = code <= OR_SKIP;
                    if ((value != 0) == isOr) {
                        i = Math.max(i, (isOr ? OR_SKIP : AND_SKIP) - code - 1);
                    } else {
                        top--;
                        value = stack[top & STACK - 1];
                    }
                } else if (code == -'!') {
                    value = 1 - value;
                } else {
                    top--;
                    value = reckon(stack[top & STACK - 1], -code, value);
                }
            }
            return refused ? 0 : value;
        }

        private int reckon(int left, int sign, int right) {
            switch (sign) {
                case '+':
                    return left + right;
                case '-':
                    return left - right;
                case '*':
                    return left * right;
                case '<':
                    return left < right ? 1 : 0;
                case '>':
                    return left > right ? 1 : 0;
                case '=':
                    return left == right ? 1 : 0;
                default:
                    if (right == 0) {
                        refused = true;
                        return 0;
                    }
                    return sign == '/' ? left / right : left % right;
            }
        }
    }

    /** What the spirit would do for a WISH, and rows of WISHES one behind the other. */
    private static final class Spirit {
        Law law;
        int answer;
        int state;
        int changes;
        int paid;
        int sins;
        int fewestDays;
        final int[] row = new int[MOST_ORDERED];
        final int[] bestRow = new int[MOST_ORDERED];
        private final Book wishes;
        private final long[] fit;
        private final Prices prices;
        private final Standing[] trials = new Standing[MOST_ORDERED + 1];

        Spirit(Law law, Book wishes, long[] fit, Prices prices) {
            this.law = law;
            this.wishes = wishes;
            this.fit = fit;
            this.prices = prices;
            for (int i = 0; i < trials.length; i++) {
                trials[i] = new Standing();
            }
        }

        void plan(Standing ahead, int k) {
            state = ahead.state;
            changes = 0;
            paid = 0;
            sins = 0;
            if (ahead.isOver()) {
                answer = IS_OVER;
                return;
            }
            if ((ahead.spent >> k & 1) != 0) {
                answer = IS_SPENT;
                return;
            }
            int nearest = prices.nearest(fit, wishes.tables[k & BOOK_SIZE - 1], ahead.state);
            if (nearest < 0) {
                answer = NO_WAY;
                return;
            }
            int facts = ahead.state ^ nearest;
            law.look(k, Integer.bitCount(facts), prices.of(facts), ahead);
            if (law.worth('x', 1) != 0) {
                answer = BALKS;
                return;
            }
            answer = law.worth('d', MOST_WISH_DAYS);
            sins = law.worth('g', MOST_WISH_SINS);
            state = nearest;
            changes = Integer.bitCount(facts);
            paid = prices.of(facts);
        }

        void grant(Standing at, int k) {
            at.state = state;
            at.passDays(answer);
            at.addSins(sins);
            at.spent |= 1 << k;
            at.granted++;
        }

        /** Whether these WISHES can all be granted: their DAYS and the row are told beside. */
        boolean order(Standing from, int bits) {
            fewestDays = FAR;
            trials[0].take(from);
            orderOn(bits, 0, 0);
            return fewestDays != FAR;
        }

        private void orderOn(int left, int depth, int daysAhead) {
            if (left == 0) {
                fewestDays = daysAhead;
                System.arraycopy(row, 0, bestRow, 0, MOST_ORDERED);
                return;
            }
            for (int k = 0; k < BOOK_SIZE && depth < MOST_ORDERED; k++) {
                if ((left >> k & 1) == 0) {
                    continue;
                }
                // rows come least first, so only fewer DAYS are better than what was found
                if (isGranted(depth, k) && daysAhead + answer < fewestDays) {
                    row[depth] = k;
                    orderOn(left & ~(1 << k), depth + 1, daysAhead + answer);
                }
            }
        }

        /** How many other WISHES lead to where this one holds (the row is told beside), or NONE. */
        int reach(Standing from, int k) {
            trials[0].take(from);
            for (int places = 0; places <= MOST_BY_WISHES; places++) {
                if (reachOn(k, 0, places)) {
                    return places;
                }
            }
            return NONE;
        }

        private boolean reachOn(int goal, int depth, int places) {
            if (depth < 0 || depth >= MOST_ORDERED) {
                return false;
            }
            if (depth >= places) {
                return Tables.has(wishes.tables[goal & BOOK_SIZE - 1], trials[depth].state);
            }
            for (int k = 0; k < BOOK_SIZE; k++) {
                if (k != goal && wishes.has(k) && isGranted(depth, k)) {
                    row[depth] = k;
                    if (reachOn(goal, depth + 1, places)) {
                        return true;
                    }
                }
            }
            return false;
        }

        /** Wishes one behind the trial of this depth: if it is granted, the next trial is as then. */
        private boolean isGranted(int depth, int k) {
            if (depth < 0 || depth >= MOST_ORDERED) {
                return false;
            }
            plan(trials[depth], k);
            if (answer < 0) {
                return false;
            }
            trials[depth + 1].take(trials[depth]);
            grant(trials[depth + 1], k);
            return true;
        }
    }

    /** Looks for THE WORD: FACTS are told, or the WISH must hold both with and without them. */
    private static final class WordSearch {
        int facts;
        int so;
        private int on;
        private final long[][] levels = new long[FACTS + 1][WORDS];

        /** Whether there is one; its FACTS and which of them are so are told beside. */
        boolean find(long[] table) {
            facts = NONE;
            if (Tables.isEmpty(table)) {
                return false;
            }
            on = Tables.dependsOn(table);
            System.arraycopy(table, 0, levels[0], 0, WORDS);
            decide(0, 0);
            return true;
        }

        private void decide(int fact, int told) {
            if (fact < 0 || fact > FACTS || Tables.isEmpty(levels[fact]) || !mayBeBetter(told)) {
                return;
            }
            if (fact == FACTS) {
                facts = told;
                so = Tables.first(levels[fact]);
                return;
            }
            boolean matters = (on >> fact & 1) != 0;
            for (int w = 0; w < WORDS; w++) {
                long word = levels[fact][w];
                levels[fact + 1][w] = matters ? word & Tables.changed(levels[fact], w, 1 << fact) : word;
            }
            decide(fact + 1, told);
            if (matters) {
                System.arraycopy(levels[fact], 0, levels[fact + 1], 0, WORDS);
                decide(fact + 1, told | 1 << fact);
            }
        }

        private boolean mayBeBetter(int told) {
            int more = Integer.bitCount(told) - Integer.bitCount(facts);
            return facts < 0 || more < 0 || more == 0 && told < facts;
        }
    }

    /** THE DEAD: for each set of STATES seen, and the last of them, what the rest costs at least. */
    private static final class Tour {
        private static final int REST = (1 << MOST_DEAD) * MOST_DEAD;
        final int[] states = new int[MOST_DEAD];
        final int[] row = new int[MOST_DEAD];
        private final int[] rest = new int[REST];

        /** The fewest PRICES of all; the least row for them is told beside. */
        int find(int from, int n, Prices prices) {
            int places = Math.max(0, Math.min(n, MOST_DEAD));
            int all = (1 << places) - 1;
            for (int last = 0; last < places; last++) {
                rest[all * MOST_DEAD + last] = 0;
            }
            for (int seen = all - 1; seen > 0; seen--) {
                for (int last = 0; last < places; last++) {
                    int next = nextOf(seen, states[last], places, prices);
                    rest[seen * MOST_DEAD + last] = throughNext(seen, states[last], next, prices);
                }
            }
            return walk(from, places, prices);
        }

        private int walk(int from, int places, Prices prices) {
            int seen = 0;
            int state = from;
            int paid = 0;
            for (int place = 0; place < places && place < MOST_DEAD; place++) {
                int next = nextOf(seen, state, places, prices) & MOST_DEAD - 1;
                row[place] = next;
                paid += prices.of(state ^ states[next]);
                state = states[next];
                seen |= 1 << next;
            }
            return paid;
        }

        /** The lowest of those not seen by which the rest costs least. */
        private int nextOf(int seen, int state, int places, Prices prices) {
            int best = 0;
            int least = FAR;
            for (int next = 0; next < places && next < MOST_DEAD; next++) {
                if ((seen >> next & 1) == 0) {
                    int paid = throughNext(seen, state, next, prices);
                    if (paid < least) {
                        least = paid;
                        best = next;
                    }
                }
            }
            return best;
        }

        private int throughNext(int seen, int state, int next, Prices prices) {
            int nowSeen = (seen | 1 << next) * MOST_DEAD + next & REST - 1;
            return prices.of(state ^ states[next & MOST_DEAD - 1]) + rest[nowSeen];
        }
    }
}
