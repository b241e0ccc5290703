import java.util.Arrays;
import java.util.stream.Stream;

/** What the tests share: texts written in words, and answers held against those that are due. */
final class Check {
    static final int MIN = Integer.MIN_VALUE;
    static final int MAX = Integer.MAX_VALUE;

    // A token's word stands at its number; "?" where there is no such token.
    private static final String[] WORDS = (
            "0 1 2 3 4 5 6 7 8 9 a b c d e f ? ? ? ? + - * max min = < rest ? ? "
            + "shape count turn back take drop join pick rise ? / \\ outer . ? ? ? ? ? ? ( ) becomes").split(" ");

    private static int asked = 0;
    private static int wrong = 0;
    private static String sentence = "";

    private Check() {
    }

    static void due(String what, Object got, Object want) {
        asked++;
        if (!got.equals(want)) {
            wrong++;
            System.out.println(sentence + what + " answered " + got + ", due is " + want);
        }
    }

    /** The document's words that the answers from now on are due to. */
    static void sentence(String words) {
        sentence = "\"" + words + "\": ";
    }

    static void end() {
        System.out.println(asked + " answers, " + wrong + " not as due");
        if (wrong != 0 || asked == 0) {
            System.exit(1);
        }
    }

    static boolean isToken(int t) {
        return t >= 0 && t < WORDS.length && !WORDS[t].equals("?");
    }

    static int token(String word) {
        for (int t = 0; t < WORDS.length; t++) {
            if (isToken(t) && WORDS[t].equals(word)) {
                return t;
            }
        }
        throw new IllegalArgumentException("no such word: " + word);
    }

    static String word(int t) {
        return isToken(t) ? WORDS[t] : "?" + t;
    }

    static void write(ArrayWords x, String text) {
        int[] tokens = Stream.of(text.split(" ")).filter(word -> !word.isEmpty()).mapToInt(Check::token).toArray();
        int[] padded = Arrays.copyOf(tokens, tokens.length + 3);
        Arrays.fill(padded, tokens.length, padded.length, -1);
        x.clear();
        for (int p = 0; p < tokens.length; p += 4) {
            if (x.tokens(padded[p], padded[p + 1], padded[p + 2], padded[p + 3]) < 0) {
                throw new IllegalStateException("tokens are refused: " + text);
            }
        }
    }

    static int run(ArrayWords x, String text) {
        write(x, text);
        return x.run();
    }

    /** The result: its shape in brackets, then its ravel. */
    static String result(ArrayWords x) {
        StringBuilder s = new StringBuilder("[");
        int rank = x.rank();
        int size = x.size();
        for (int i = 0; i < rank; i++) {
            s.append(i == 0 ? "" : " ").append(x.length(i));
        }
        s.append("]");
        for (int i = 0; i < size; i++) {
            s.append(" ").append(x.at(i));
        }
        return s.toString();
    }

    /** The rank of a result that is written as above. */
    static int rankOf(String array) {
        String shape = array.substring(1, array.indexOf(']'));
        return shape.isEmpty() ? 0 : shape.split(" ").length;
    }

    static void gives(ArrayWords x, String text, String want) {
        due("run of " + text, run(x, text), rankOf(want));
        due(text, result(x), want);
    }

    static void gives(String text, String want) {
        gives(new ArrayWords(), text, want);
        gives(used(), text, want);
    }

    static void fails(ArrayWords x, String text, int want) {
        String before = result(x);
        due("run of " + text, run(x, text), want);
        due("the result after " + text, result(x), before);
    }

    static void fails(String text, int want) {
        fails(new ArrayWords(), text, want);
        fails(used(), text, want);
    }

    /** An object without names whose earlier runs have left numbers wherever a run may hold them. */
    static ArrayWords used() {
        ArrayWords x = new ArrayWords();
        run(x, "a becomes b becomes c becomes d becomes e becomes f becomes - 6 6 shape 7");
        run(x, "a + ( b + ( c + ( d + ( e + f ) + a ) + b ) + c ) + d");
        run(x, "( ".repeat(14) + "a" + " )".repeat(14));
        for (int n = 0; n < 6; n++) {
            x.forget(n);
        }
        return x;
    }

    /** An object whose name n has number n of these alone. */
    static ArrayWords with(int... numbers) {
        ArrayWords x = new ArrayWords();
        for (int n = 0; n < numbers.length; n++) {
            x.put(0, numbers[n]);
            x.keep(n);
        }
        return x;
    }

    /** " first .. last", step 1 or -1. */
    static String series(int first, int last) {
        StringBuilder s = new StringBuilder();
        int step = first <= last ? 1 : -1;
        for (int i = first; i != last + step; i += step) {
            s.append(" ").append(i);
        }
        return s.toString();
    }
}
