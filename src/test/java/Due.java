/** Compares answers with those that are due, and ends a test. */
final class Due {
    private static int asked = 0;
    private static int wrong = 0;

    private Due() {
    }

    static void due(String call, long got, long want) {
        asked++;
        if (got != want) {
            wrong++;
            System.out.println(call + " answered " + got + ", due is " + want);
        }
    }

    static void end(String test) {
        System.out.println(test + ": " + asked + " answers, " + wrong + " not as due");
        if (wrong != 0 || asked == 0) {
            System.exit(1);
        }
    }

    /** Puts a text on the pad, as many characters a call as there may be. */
    static void write(ToldDrops valley, String text) {
        for (int from = 0; from < text.length(); from += 8) {
            valley.put(characters(text.substring(from, Math.min(from + 8, text.length()))));
        }
    }

    static long characters(String text) {
        long number = 0;
        for (int i = 0; i < text.length(); i++) {
            number = number << 8 | text.charAt(i);
        }
        return number;
    }
}
