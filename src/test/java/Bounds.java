import java.util.ArrayList;
import java.util.List;
import java.util.function.Supplier;
import java.util.function.ToIntFunction;
import java.util.regex.Matcher;
import java.util.regex.Pattern;
import java.util.stream.Stream;

/**
 * What the tests of the document's bounds share: texts with any arrays in them, and refusals that change nothing.
 *
 * A text may have arrays in braces, written as results are: "{[] 37} take {[2] 1 2}". Names that it does not use itself
 * are given these arrays first. Several in one pair of braces, "{[0] | [0 6]}", are taken one after another. In arrays
 * 0..35 stands for the numbers from 0 to 35, 7x36 for 36 times 7, MIN and MAX for the least and the greatest int.
 */
final class Bounds {
    /** Arrays of each rank, with no number, one, some, and as many as can be. */
    static final String ARRAYS = "[] 4 | [0] | [1] 4 | [36] 1..36 | [0 0] | [0 6] | [6 0] | [1 1] 4 | [2 3] 1..6"
            + " | [6 6] 1..36";
    static final String RANK_2 = "[0 0] | [0 1] | [1 0] | [1 1] 0 | [1 1] 99 | [1 2] 1 1 | [6 6] 0x36";

    private static final Pattern IN_BRACES = Pattern.compile("\\{([^}]*)\\}");
    private static final Pattern SEVERAL = Pattern.compile("\\{([^}]* \\| [^}]*)\\}");

    private Bounds() {
    }

    static String[] each(String list) {
        return list.split(" \\| ");
    }

    /** The text with each choice of one array per pair of braces. */
    static List<String> eachText(String texts) {
        List<String> chosen = List.of(texts);
        for (Matcher several = SEVERAL.matcher(texts); several.find();) {
            List<String> more = new ArrayList<>();
            for (String text : chosen) {
                for (String array : each(several.group(1))) {
                    more.add(SEVERAL.matcher(text).replaceFirst("{" + array + "}"));
                }
            }
            chosen = more;
        }
        return chosen;
    }

    /** The array with its short forms written out. */
    static String array(String shortened) {
        String s = shortened.replace("MIN", "" + Check.MIN).replace("MAX", "" + Check.MAX);
        s = Pattern.compile(" (-?\\d+)\\.\\.(-?\\d+)").matcher(s).replaceAll(m -> series(m.group(1), m.group(2)));
        return Pattern.compile(" (-?\\d+)x(\\d+)").matcher(s).replaceAll(m -> times(m.group(1), m.group(2)));
    }

    private static String series(String first, String last) {
        return Check.series(Integer.parseInt(first), Integer.parseInt(last));
    }

    private static String times(String number, String count) {
        return (" " + number).repeat(Integer.parseInt(count));
    }

    private static int[] numbersOf(String words) {
        return Stream.of(words.split(" ")).filter(word -> !word.isEmpty()).mapToInt(Integer::parseInt).toArray();
    }

    /** How many numbers the array has. */
    static int sizeOf(String array) {
        String whole = array(array);
        return numbersOf(whole.substring(whole.indexOf(']') + 1)).length;
    }

    /** The row of the count numbers from first on, as X back leaves it. */
    static String turned(int x, int first, int count) {
        StringBuilder s = new StringBuilder();
        for (long i = 0; i < count; i++) {
            s.append(" ").append(first + Math.floorMod(i + x, (long) count));
        }
        return s.toString();
    }

    /** Makes the array the result of x. */
    static void hold(ArrayWords x, String shortened) {
        String array = array(shortened);
        int end = array.indexOf(']');
        int[] lengths = numbersOf(array.substring(1, end));
        int[] numbers = numbersOf(array.substring(end + 1));
        if (lengths.length == 0) {
            Check.run(x, "9");
        } else if (lengths.length == 2) {
            Check.run(x, lengths[0] + " " + lengths[1] + " shape 9");
        } else {
            // A text has no number above 9.
            Check.run(x, "( " + lengths[0] % 9 + " + 9 * " + lengths[0] / 9 + " ) shape 9");
        }
        if (x.size() != numbers.length) {
            throw new IllegalStateException("not an array: " + shortened);
        }
        for (int i = 0; i < numbers.length; i++) {
            x.put(i, numbers[i]);
        }
    }

    /** Makes x ready to run the text: its arrays in names, other values in the result and in names beside them. */
    static ArrayWords ready(ArrayWords x, String text) {
        List<String> used = List.of(IN_BRACES.matcher(text).replaceAll("").split(" "));
        List<Integer> free = new ArrayList<>();
        for (int n = 0; n < 6; n++) {
            if (!used.contains(Check.word(10 + n))) {
                free.add(n);
            }
        }
        Matcher braces = IN_BRACES.matcher(text);
        String plain = braces.replaceAll(m -> {
            int n = free.remove(0);
            hold(x, m.group(1));
            x.keep(n);
            return Check.word(10 + n);
        });
        if (!free.isEmpty()) {
            hold(x, "[2 1] -61 62");
            x.keep(free.get(0));
            Check.run(x, "6 6 shape - 1 + count 9 * 4");
            x.keep(free.get(free.size() - 1));
        }
        hold(x, "[3] 71 -72 73");
        Check.write(x, plain);
        return x;
    }

    /** The names' values. The result is lost by asking for them. */
    static String names(ArrayWords x) {
        StringBuilder s = new StringBuilder();
        for (int n = 0; n < 6; n++) {
            s.append("; name ").append(n).append(" ").append(x.show(n) < 0 ? "none" : Check.result(x));
        }
        return s.toString();
    }

    /** The text. It is lost by asking for it. */
    static String text(ArrayWords x) {
        StringBuilder s = new StringBuilder();
        for (int t = x.untoken(); t >= 0; t = x.untoken()) {
            s.insert(0, " " + Check.word(t));
        }
        return s.toString();
    }

    /** All that an object can be asked for, and what it makes of a further text. */
    static String state(ArrayWords x) {
        String state = "result " + Check.result(x) + names(x) + "; text" + text(x);
        Check.run(x, "8 - ( 3 - 1 2 )");
        return state + "; 8 - ( 3 - 1 2 ) gives " + Check.result(x);
    }

    /** The call must answer the code, also when it is made again, and leave all as where it is not made. */
    static void refused(String what, Supplier<ArrayWords> make, ToIntFunction<ArrayWords> call, int code) {
        ArrayWords x = make.get();
        Check.due(what, call.applyAsInt(x), code);
        Check.due(what + " again", call.applyAsInt(x), code);
        Check.due("what is there after " + what, state(x), state(make.get()));
    }

    static void refuses(String texts, int code) {
        for (String text : eachText(texts)) {
            refused("run of " + text, () -> ready(new ArrayWords(), text), ArrayWords::run, code);
            refused("run of " + text + " after others", () -> ready(Check.used(), text), ArrayWords::run, code);
        }
    }

    private static void gives(ArrayWords x, ArrayWords alike, String text, String want) {
        Check.due("run of " + text, x.run(), Check.rankOf(want));
        Check.due(text, Check.result(x), array(want));
        // Only "becomes" may change a name, and a run never changes its text.
        if (!text.contains("becomes")) {
            Check.due("the names after " + text, names(x), names(alike));
        }
        Check.due("the text after " + text, text(x), text(alike));
    }

    static void gives(String texts, String want) {
        for (String text : eachText(texts)) {
            gives(ready(new ArrayWords(), text), ready(new ArrayWords(), text), text, want);
            gives(ready(Check.used(), text), ready(Check.used(), text), text, want);
            // As an operand too, while the array right of it waits.
            String operand = "( " + text + " ) * 1";
            if (IN_BRACES.matcher(operand).replaceAll("a").split(" +").length <= 30) {
                gives(ready(new ArrayWords(), operand), ready(new ArrayWords(), operand), operand, want);
            }
        }
    }
}
