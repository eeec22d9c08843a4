/** Tells every answer that is not the one that is due, and ends with exit code 1 if there was one. */
final class Due {
    private static int asked = 0;
    private static int wrong = 0;

    private Due() {
    }

    static void is(String call, long got, long want) {
        asked++;
        if (got != want) {
            wrong++;
            System.out.println(call + " answered " + got + ", due is " + want);
        }
    }

    static void close(String test) {
        System.out.println(test + ": " + asked + " answers asked, " + wrong + " not as due");
        if (wrong != 0 || asked == 0) {
            System.exit(1);
        }
    }

    /** Feeds a text to THE TAPE, byte by byte. */
    static void feed(StonesOver x, String text) {
        for (int i = 0; i < text.length(); i++) {
            x.feed(text.charAt(i));
        }
    }

    /** A law told as a text: what law() answers. */
    static int law(StonesOver x, String text) {
        feed(x, text);
        return x.law();
    }

    /** Lays a ROW of a sort on a SHELF. */
    static void row(StonesOver x, int shelf, int sort, long... elements) {
        is("row(" + shelf + ", " + sort + ", " + elements.length + ")", x.row(shelf, sort, elements.length), 1);
        for (int i = 0; i < elements.length; i++) {
            is("put(" + shelf + ", " + i + ", " + elements[i] + ")", x.put(shelf, i, elements[i]), 1);
        }
    }
}
