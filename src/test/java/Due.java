import java.nio.file.Files;
import java.nio.file.Path;
import java.util.LinkedHashMap;
import java.util.Map;

/** Tells every answer that is not the one that is due, and ends with exit code 1 if there was one. */
final class Due {
    private static final Path DOCUMENT = Path.of("../shared/DOC.md");

    private static int asked = 0;
    private static int wrong = 0;
    private static String document = "";
    private static String sentence = "";
    private static final Map<String, int[]> SENTENCES = new LinkedHashMap<>();

    private Due() {
    }

    static void is(String call, long got, long want) {
        asked++;
        int[] ofSentence = SENTENCES.get(sentence);
        if (ofSentence != null) {
            ofSentence[0]++;
        }
        if (got != want) {
            wrong++;
            if (ofSentence != null) {
                ofSentence[1]++;
            }
            System.out.println((sentence.isEmpty() ? "" : "\"" + sentence + "\": ") + call + " answered " + got
                    + ", due is " + want);
        }
    }

    /** What is asked from here on holds this sentence of the document, which must stand there word by word. */
    static void sentence(String words) {
        if (document.isEmpty()) {
            document = read();
        }
        if (!document.isEmpty() && !document.contains(words)) {
            wrong++;
            System.out.println("the document does not say: " + words);
        }
        if (SENTENCES.put(words, new int[2]) != null) {
            wrong++;
            System.out.println("asked twice: " + words);
        }
        sentence = words;
    }

    /** Without the document its words can't be looked up; the answers are asked all the same. */
    private static String read() {
        try {
            return Files.readString(DOCUMENT).replaceAll("\\s+", " ");
        } catch (java.io.IOException e) {
            System.out.println("no document at " + DOCUMENT.toAbsolutePath());
            return "";
        }
    }

    /** By sentence: how many answers were asked, and how many were not as due. */
    static Map<String, int[]> sentences() {
        return SENTENCES;
    }

    static void close(String test) {
        for (Map.Entry<String, int[]> each : SENTENCES.entrySet()) {
            if (each.getValue()[0] == 0) {
                wrong++;
                System.out.println("nothing asked of: " + each.getKey());
            }
        }
        String ofSentences = SENTENCES.isEmpty() ? "" : " of " + SENTENCES.size() + " sentences";
        System.out.println(test + ": " + asked + " answers asked" + ofSentences + ", " + wrong + " not as due");
        if (wrong != 0 || asked == 0) {
            System.exit(1);
        }
    }

    /** Feeds a text to THE TAPE, byte by byte. */
    static void feed(StonesOver x, String text) {
        for (int i = 0; i < text.length(); i++) {
            x.feed(text.charAt(i));
        }
    }

    /** A law told as a text: what law() answers. */
    static int law(StonesOver x, String text) {
        feed(x, text);
        return x.law();
    }

    /** Lays a ROW of a sort on a SHELF. */
    static void row(StonesOver x, int shelf, int sort, long... elements) {
        is("row(" + shelf + ", " + sort + ", " + elements.length + ")", x.row(shelf, sort, elements.length), 1);
        for (int i = 0; i < elements.length; i++) {
            is("put(" + shelf + ", " + i + ", " + elements[i] + ")", x.put(shelf, i, elements[i]), 1);
        }
    }

    /** An object with so many SPITTERS of MOUTH 5, SKILL 4, and a law by which all LAND as the text says. */
    static StonesOver lane(int spitters, String text) {
        StonesOver x = new StonesOver();
        for (int i = 0; i < spitters; i++) {
            x.spitter(5, 4);
        }
        if (!text.isEmpty()) {
            is("law " + text, law(x, text), 1);
        }
        return x;
    }
}
