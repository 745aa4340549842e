/** How texts and bytes are told to an object; what the tests share. */
abstract class Telling {
    /** The tape holds this text alone, filled up with a to twenties. */
    static void feed(PactYears x, String text) {
        x.check(0);
        StringBuilder bytes = new StringBuilder(text);
        while (bytes.length() == 0 || bytes.length() % 20 != 0) {
            bytes.append('a');
        }
        for (int from = 0; from < bytes.length(); from += 20) {
            int[] fives = new int[5];
            for (int i = 0; i < 20; i++) {
                fives[i / 4] = fives[i / 4] << 8 | bytes.charAt(from + i);
            }
            x.feed(fives[0], fives[1], fives[2], fives[3], fives[4]);
        }
    }

    static int law(PactYears x, String text) {
        feed(x, text);
        return x.law(text.length());
    }

    static int wish(PactYears x, int k, String text) {
        feed(x, text);
        return x.wish(k, text.length());
    }

    static int clause(PactYears x, int k, String text) {
        feed(x, text);
        return x.clause(k, text.length());
    }

    static PactYears withWishes(String... texts) {
        PactYears x = new PactYears();
        for (int k = 0; k < texts.length; k++) {
            wish(x, k, texts[k]);
        }
        return x;
    }

    static String bytes(int... numbers) {
        StringBuilder text = new StringBuilder();
        for (int number : numbers) {
            text.append((char) number);
        }
        return text.toString();
    }

    static String states(int... states) {
        StringBuilder text = new StringBuilder();
        for (int state : states) {
            text.append((char) (state >> 8)).append((char) (state & 255));
        }
        return text.toString();
    }

    static String repeat(String text, int times, String between) {
        StringBuilder all = new StringBuilder(text);
        for (int i = 1; i < times; i++) {
            all.append(between).append(text);
        }
        return all.toString();
    }

    static void set(PactYears x, int state) {
        for (int i = 0; i < 10; i++) {
            x.fact(i, (state >> i & 1) == 1);
        }
    }
}
