import java.io.IOException;
import java.nio.file.Files;
import java.nio.file.Path;
import java.util.ArrayList;
import java.util.Arrays;
import java.util.BitSet;
import java.util.HashMap;
import java.util.List;
import java.util.Map;
import java.util.regex.Matcher;
import java.util.regex.Pattern;

/** What the tests of bounds share: the sentence of the document at hand, and what is due by it. */
final class Checks {
    static final int NONE = -1, BAD = -2, NO = -3, FULL = -4;
    static final int NULL = -11, INDEX = -12, CAST = -13, ZERO = -14;
    static final int SIZE = -15, STORE = -16, LACK = -17, HELD = -18;
    static final int FAR_BAD = -100000;
    static final long NO_REAL = 9221120237041090560L;
    static final int NO_FLOAT = 2143289344;
    static final int LAST = 2591999, DAY = 86400;
    static final int LEAST = Integer.MIN_VALUE, MOST = Integer.MAX_VALUE;

    /** A call, or some, on a desk, and what the last of them answers. */
    interface Act {
        long on(TideDesk x);
    }

    interface Maker {
        TideDesk make();
    }

    private static final int TERMS = 0;
    private static final Map<Integer, String> TEXTS = new HashMap<>();
    private static final Map<Integer, BitSet> QUOTED = new HashMap<>();
    private static String sentence = "";
    private static int wrong;
    private static int made;

    private Checks() {
    }

    /** From here on what is due is due by these words of the Terms. */
    static void terms(String quote) {
        quoted(TERMS, quote);
    }

    /** From here on what is due is due by these words of a promise. */
    static void promise(int number, String quote) {
        quoted(number, quote);
    }

    private static void quoted(int section, String quote) {
        sentence = (section == TERMS ? "Terms" : "promise " + section) + ", \"" + quote + "\"";
        if (TEXTS.isEmpty()) {
            return;
        }
        String text = TEXTS.getOrDefault(section, "");
        String words = plain(quote);
        int place = text.indexOf(words);
        if (place < 0) {
            wrong++;
            System.out.println("the document does not say: " + sentence);
        }
        while (place >= 0) {
            QUOTED.get(section).set(place, place + words.length());
            place = text.indexOf(words, place + 1);
        }
    }

    static void due(String what, long got, long want) {
        made++;
        if (got != want) {
            wrong++;
            System.out.println(sentence + ": " + what + " answered " + got + ", due is " + want);
        }
    }

    static void dueTrue(String what, boolean is) {
        due(what, is ? 1 : 0, 1);
    }

    static void dueAll(String what, long want, long... got) {
        for (int i = 0; i < got.length; i++) {
            due(what + " (" + i + ")", got[i], want);
        }
    }

    static void dueLike(String what, List<String> got, List<String> want) {
        for (int i = 0; i < Math.max(got.size(), want.size()); i++) {
            String mine = i < got.size() ? got.get(i) : "nothing";
            String other = i < want.size() ? want.get(i) : "nothing";
            if (!mine.equals(other)) {
                wrong++;
                System.out.println(sentence + ": " + what + ": " + mine + ", due is " + other);
            }
        }
        made++;
    }

    /** THE TRACE, to its end. */
    static void traced(String what, TideDesk x, int... bodies) {
        for (int i = 0; i < bodies.length; i++) {
            due(what + ", trace(" + i + ")", x.trace(i), bodies[i]);
        }
        due(what + ", end of the trace", x.trace(bodies.length), NONE);
    }

    static long bits(double v) {
        return Double.doubleToLongBits(v);
    }

    static int bits(float v) {
        return Float.floatToIntBits(v);
    }

    /** COS of a, as the Terms reckon it. */
    static double cosOf(long a) {
        long n = Math.floorMod(a, 65536L);
        long m = n > 32768 ? 65536 - n : n;
        long k = m > 16384 ? 32768 - m : m;
        double x = k / 16384.0;
        double y = x * x;
        double inner = 0.020863480763353 - y * 0.000919260274839426;
        double next = 0.253669507901048 - y * inner;
        double outer = 1.2337005501361697 - y * next;
        double c = 1.0 - y * outer;
        return m > 16384 ? -c : c;
    }

    // ---- the document

    /** Reads the Terms and the promises, so that no test quotes what is not said. */
    static void readDocument(Path path) throws IOException {
        String all = Files.readString(path);
        int terms = all.indexOf("## Terms");
        int behind = all.indexOf("Ahead of the calls", terms);
        TEXTS.put(TERMS, plain(all.substring(terms + "## Terms".length(), behind)));
        Matcher m = Pattern.compile("## Promise (\\d+): \\w[^\\n]*\\n(.*?)(?=\\n## )", Pattern.DOTALL).matcher(all);
        while (m.find()) {
            String text = plain(m.group(2));
            TEXTS.put(Integer.parseInt(m.group(1)), text.substring(text.indexOf("`: ") + 3));
        }
        for (int section : TEXTS.keySet()) {
            QUOTED.put(section, new BitSet());
        }
    }

    private static String plain(String text) {
        return text.replace("```text", " ").replace("```", " ").replaceAll("={3,}", " ").replaceAll("\\s+", " ").trim();
    }

    /** Each word of the Terms and the promises must have been quoted by a test. */
    static void dueAllQuoted() {
        for (int section : TEXTS.keySet()) {
            for (String words : notQuoted(section)) {
                wrong++;
                System.out.println((section == TERMS ? "Terms" : "promise " + section) + ": no test quotes: " + words);
            }
        }
    }

    private static List<String> notQuoted(int section) {
        char[] text = TEXTS.get(section).toCharArray();
        BitSet is = QUOTED.get(section);
        List<String> found = new ArrayList<>();
        int from = 0;
        while (from < text.length) {
            int start = is.nextClearBit(from);
            int end = Math.min(text.length, is.nextSetBit(start) < 0 ? text.length : is.nextSetBit(start));
            String words = start >= text.length ? "" : new String(Arrays.copyOfRange(text, start, end));
            if (words.matches(".*[A-Za-z0-9].*")) {
                found.add(words);
            }
            from = Math.max(end, start + 1);
        }
        return found;
    }

    /** Ends the test: with exit code 1, if an answer was not the one that is due. */
    static void end(String kept) {
        System.out.println(wrong == 0 ? kept + " (" + made + " checks)" : wrong + " answers are not as due");
        if (wrong != 0) {
            System.exit(1);
        }
    }
}
