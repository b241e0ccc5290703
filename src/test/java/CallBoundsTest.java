import java.util.ArrayList;
import java.util.List;
import java.util.function.Supplier;
import java.util.function.ToIntBiFunction;
import java.util.function.ToIntFunction;

/** The bounds that the document names for the calls: promises 1 to 5 and 7 to 15, sentence by sentence. */
public final class CallBoundsTest {
    private static final int BAD_ARG = ArrayWords.BAD_ARG;
    private static final int FULL = ArrayWords.FULL;
    private static final int NONE = ArrayWords.NONE;
    private static final int VALUE = ArrayWords.VALUE;
    private static final int MIN = Check.MIN;
    private static final int MAX = Check.MAX;

    private static final int[] NO_NAMES = {MIN, -2, -1, 6, 7, 10, 15, MAX};
    private static final int[] NO_TOKENS = {MIN, -3, -2, 16, 19, 28, 29, 39, 44, 49, 53, 54, MAX};
    private static final int[] FIRST_AND_LAST_TOKENS = {0, 9, 10, 15, 20, 27, 30, 38, 40, 43, 50, 52};

    // The least and the greatest arrays of each rank, their shapes, and their numbers of numbers.
    private static final String[] ARRAYS = {
        "[] 5", "[0]", "[1] 5", "[2] 5 6", "[35] 1..35", "[36] 1..36", "[0 0]", "[0 1]", "[0 6]", "[1 0]", "[6 0]",
        "[1 1] 5", "[1 6] 1..6", "[6 1] 1..6", "[2 3] 1..6", "[5 6] 1..30", "[6 5] 1..30", "[6 6] 1..36"};
    private static final int[][] SHAPES = {
        {}, {0}, {1}, {2}, {35}, {36}, {0, 0}, {0, 1}, {0, 6}, {1, 0}, {6, 0},
        {1, 1}, {1, 6}, {6, 1}, {2, 3}, {5, 6}, {6, 5}, {6, 6}};
    private static final int[] SIZES = {1, 0, 1, 2, 35, 36, 0, 0, 0, 0, 0, 1, 6, 6, 6, 30, 30, 36};

    public static void main(String[] args) {
        neverThrows();
        refusedCalls();
        codes();
        questions();
        lastCall();
        newObject();
        tokenRanges();
        thirtyTokens();
        notMinusOne();
        badTokenFirst();
        numberOfTokens();
        untokenOfNone();
        untokenOfOne();
        clear();
        rank();
        length();
        size();
        at();
        digest();
        keep();
        keepReplaces();
        show();
        showOfNone();
        showOrder();
        forget();
        forgetAgain();
        put();
        putAndNames();
        Check.end();
    }

    private static ArrayWords holding(String array) {
        ArrayWords x = Bounds.ready(new ArrayWords(), "1 + {[2 2] 5 6 7 8}");
        // A longer result before it must not shine through.
        Bounds.hold(x, "[6 6] -9x36");
        Bounds.hold(x, array);
        Check.write(x, "1 + a");
        return x;
    }

    private static ArrayWords withTokens(int count) {
        ArrayWords x = Bounds.ready(new ArrayWords(), "{[2] 3 4}");
        x.clear();
        for (int i = 0; i < count; i++) {
            x.tokens(i % 10, -1, -1, -1);
        }
        return x;
    }

    private static void neverThrows() {
        Check.sentence("No call ever throws.");
        List<Supplier<ArrayWords>> states = new ArrayList<>();
        for (String array : ARRAYS) {
            states.add(() -> holding(array));
        }
        for (String token : new String[] {"0", "f", "+", "rise", "/", "outer", ".", "(", ")", "becomes"}) {
            states.add(() -> Bounds.ready(new ArrayWords(), (token + " ").repeat(30)));
        }
        states.add(ArrayWords::new);
        for (Supplier<ArrayWords> state : states) {
            for (int i : new int[] {MIN, MIN + 1, -37, -7, -2, -1, 0, 1, 5, 6, 7, 30, 35, 36, 37, MAX - 1, MAX}) {
                Check.due("calls with " + i, thrownBy(state.get(), i), "nothing");
            }
        }
    }

    private static String thrownBy(ArrayWords x, int i) {
        try {
            x.reads();
            x.run();
            x.rank();
            x.length(i);
            x.size();
            x.at(i);
            x.digest();
            x.show(i);
            x.put(i, i);
            x.keep(i);
            x.forget(i);
            x.tokens(i, i, i, i);
            x.untoken();
            x.clear();
            x.untoken();
            x.run();
            return "nothing";
        } catch (RuntimeException | Error thrown) {
            return thrown.toString();
        }
    }

    private static void refusedCalls() {
        Check.sentence("A refused call answers the code named and changes nothing.");
        List<Supplier<ArrayWords>> states = List.of(
                ArrayWords::new, () -> withTokens(30), () -> named(2), () -> holding("[6 6] 1..36"),
                () -> holding("[0 6]"));
        for (Supplier<ArrayWords> state : states) {
            Bounds.refused("tokens of no token", state, x -> x.tokens(1, 2, 3, 53), BAD_ARG);
            Bounds.refused("length -1", state, x -> x.length(-1), NONE);
            Bounds.refused("length 2", state, x -> x.length(2), NONE);
            Bounds.refused("keep -1", state, x -> x.keep(-1), BAD_ARG);
            Bounds.refused("keep 6", state, x -> x.keep(6), BAD_ARG);
            Bounds.refused("show -1", state, x -> x.show(-1), BAD_ARG);
            Bounds.refused("show 6", state, x -> x.show(6), BAD_ARG);
            Bounds.refused("show of no value", state, x -> x.show(4), VALUE);
            Bounds.refused("forget -1", state, x -> x.forget(-1), BAD_ARG);
            Bounds.refused("forget 6", state, x -> x.forget(6), BAD_ARG);
            Bounds.refused("put at -1", state, x -> x.put(-1, 5), NONE);
            Bounds.refused("put at 36", state, x -> x.put(36, 5), NONE);
        }
        Bounds.refused("tokens at 30", () -> withTokens(30), x -> x.tokens(-1, 1, -1, -1), FULL);
        Bounds.refused("untoken of none", () -> withTokens(0), ArrayWords::untoken, NONE);
        Bounds.refused("run of none", () -> withTokens(0), ArrayWords::run, ArrayWords.SYNTAX);
    }

    private static void codes() {
        Check.sentence("`BAD_ARG = -1`: An argument is out of its range.");
        Check.due("tokens of 53", new ArrayWords().tokens(53, -1, -1, -1), -1);
        Check.due("keep 6", new ArrayWords().keep(6), -1);
        Check.due("show 6", new ArrayWords().show(6), -1);
        Check.due("forget 6", new ArrayWords().forget(6), -1);
        Check.sentence("`FULL = -2`: The text has 30 tokens.");
        Check.due("token 31", withTokens(30).tokens(1, -1, -1, -1), -2);
        Check.sentence("`NONE = -3`: There is no such thing.");
        Check.due("untoken of none", new ArrayWords().untoken(), -3);
        Check.due("length of rank 0", new ArrayWords().length(0), -3);
        Check.due("put behind the result", new ArrayWords().put(1, 5), -3);
        Check.sentence("`SYNTAX = -10`, `VALUE = -11`, `VALENCE = -12`, `RANK = -13`, `LENGTH = -14`, "
                + "`DOMAIN = -15`, `LIMIT = -16`: Why a run ended.");
        String[] texts = {"+", "a", "drop 1", "rise 1", "1 2 + 1 2 3", "count - 1", "( count 7 ) outer + 1 2"};
        for (int k = 0; k < texts.length; k++) {
            Check.due("run of " + texts[k], Check.run(new ArrayWords(), texts[k]), -10 - k);
        }
        Check.due("show of no value", new ArrayWords().show(0), -11);
    }

    private static void questions() {
        Check.sentence("Nothing is promised beyond the answers and state changes described above");
        for (int k = 0; k < ARRAYS.length; k++) {
            String array = ARRAYS[k];
            Supplier<ArrayWords> state = () -> holding(array);
            int digest = holding(array).digest();
            unchanged("rank of " + array, state, ArrayWords::rank, SHAPES[k].length);
            unchanged("size of " + array, state, ArrayWords::size, SIZES[k]);
            unchanged("digest of " + array, state, ArrayWords::digest, digest);
            unchanged("reads beside " + array, state, x -> x.reads() ? 1 : 0, 1);
            unchanged("tokens of nothing beside " + array, state, x -> x.tokens(-1, -1, -1, -1), 3);
            for (int i = 0; i < SHAPES[k].length; i++) {
                int place = i;
                unchanged("length " + i + " of " + array, state, x -> x.length(place), SHAPES[k][i]);
            }
            for (int i = 0; i < SIZES[k]; i++) {
                int place = i;
                unchanged("at " + i + " of " + array, state, x -> x.at(place), holding(array).at(i));
            }
        }
    }

    /** A call that only asks leaves all as it is, just as a refused one does. */
    private static void unchanged(String what, Supplier<ArrayWords> make, ToIntFunction<ArrayWords> call, int want) {
        Bounds.refused(what, make, call, want);
    }

    private static void lastCall() {
        Check.sentence("An object is used for at most 512 calls after it has been made");
        ArrayWords x = new ArrayWords();
        for (int i = 0; i < 102; i++) {
            x.clear();
            Check.due("tokens, call " + (5 * i + 2), x.tokens(10, 52, i % 10, -1), 3);
            Check.due("run, call " + (5 * i + 3), x.run(), 0);
            Check.due("put, call " + (5 * i + 4), x.put(0, i), i % 10);
            Check.due("show, call " + (5 * i + 5), x.show(0), 0);
        }
        Check.due("at, call 511", x.at(0), 1);
        Check.due("untoken, call 512", x.untoken(), 1);
    }

    private static void newObject() {
        Check.sentence("The text is empty, no name has a value, the result is the array of rank 0 with the number 0.");
        Check.due("the text", new ArrayWords().untoken(), NONE);
        Check.due("the number of tokens", new ArrayWords().tokens(-1, -1, -1, -1), 0);
        for (int n = 0; n <= 5; n++) {
            Check.due("the value of name " + n, new ArrayWords().show(n), VALUE);
            Check.due("forget of name " + n, new ArrayWords().forget(n), 0);
        }
        Check.due("the result", Check.result(new ArrayWords()), "[] 0");
        Check.due("the result's length 0", new ArrayWords().length(0), NONE);
        Check.due("the result behind its number", new ArrayWords().at(1), 0);
        Check.due("the names after another object's use", Bounds.names(new ArrayWords()),
                "; name 0 none; name 1 none; name 2 none; name 3 none; name 4 none; name 5 none");
    }

    private static int tokensAt(ArrayWords x, int place, int token, int others) {
        return x.tokens(place == 0 ? token : others, place == 1 ? token : others, place == 2 ? token : others,
                place == 3 ? token : others);
    }

    private static void tokenRanges() {
        Check.sentence("one of them is neither -1 nor a token answers BAD_ARG");
        for (int place = 0; place < 4; place++) {
            int at = place;
            for (int t : FIRST_AND_LAST_TOKENS) {
                ArrayWords x = new ArrayWords();
                Check.due("token " + t + " at place " + at, tokensAt(x, at, t, -1), 1);
                Check.due("the text then", x.untoken(), t);
            }
            for (int t : NO_TOKENS) {
                String what = t + " at place " + at;
                Bounds.refused(what, () -> withTokens(3), x -> tokensAt(x, at, t, -1), BAD_ARG);
                Bounds.refused(what + " of 4", () -> withTokens(3), x -> tokensAt(x, at, t, 7), BAD_ARG);
            }
        }
    }

    private static int append(ArrayWords x, int count) {
        return x.tokens(count > 3 ? 3 : -1, count > 0 ? 0 : -1, count > 2 ? 2 : -1, count > 1 ? 1 : -1);
    }

    private static void thirtyTokens() {
        Check.sentence("there would be more than 30 tokens answers FULL");
        for (int had = 25; had <= 30; had++) {
            int before = had;
            for (int count = 0; count <= 4; count++) {
                int more = count;
                String what = more + " tokens behind " + before;
                if (before + more <= 30) {
                    Check.due(what, append(withTokens(before), more), before + more);
                } else {
                    Bounds.refused(what, () -> withTokens(before), x -> append(x, more), FULL);
                }
            }
        }
    }

    private static void notMinusOne() {
        Check.sentence("Appends those of a, b, c and d, in this order, that are not -1.");
        for (int mask = 0; mask < 16; mask++) {
            ArrayWords x = withTokens(2);
            int a = (mask & 1) == 0 ? -1 : 20;
            int b = (mask & 2) == 0 ? -1 : 31;
            int c = (mask & 4) == 0 ? -1 : 42;
            int d = (mask & 8) == 0 ? -1 : 0;
            Check.due("tokens, mask " + mask, x.tokens(a, b, c, d), 2 + Integer.bitCount(mask));
            for (int t : new int[] {d, c, b, a, 1, 0}) {
                Check.due("the last token, mask " + mask, t < 0 ? -1 : x.untoken(), t);
            }
            Check.due("the text behind them, mask " + mask, x.untoken(), NONE);
        }
    }

    private static void badTokenFirst() {
        Check.sentence("Tested in this order: one of them is neither -1 nor a token answers BAD_ARG; there would be "
                + "more than 30 tokens answers FULL.");
        for (int t : NO_TOKENS) {
            for (int place = 0; place < 4; place++) {
                int at = place;
                Bounds.refused(t + " behind 30", () -> withTokens(30), x -> tokensAt(x, at, t, -1), BAD_ARG);
                for (int had : new int[] {26, 27, 30}) {
                    String what = t + " among four behind " + had;
                    Bounds.refused(what, () -> withTokens(had), x -> tokensAt(x, at, t, 5), BAD_ARG);
                }
            }
        }
    }

    private static void numberOfTokens() {
        Check.sentence("Otherwise the number of tokens.");
        ArrayWords x = new ArrayWords();
        Check.due("nothing", x.tokens(-1, -1, -1, -1), 0);
        for (int count = 1; count <= 30; count++) {
            Check.due("token " + count, x.tokens(-1, -1, 52, -1), count);
        }
        Check.due("nothing behind 30", x.tokens(-1, -1, -1, -1), 30);
    }

    private static void untokenOfNone() {
        Check.sentence("Takes the last token off. NONE if there is none.");
        Bounds.refused("untoken of a new object", ArrayWords::new, ArrayWords::untoken, NONE);
        Bounds.refused("untoken of no token", () -> withTokens(0), ArrayWords::untoken, NONE);
        Bounds.refused("untoken after the last one", () -> {
            ArrayWords x = withTokens(1);
            x.untoken();
            return x;
        }, ArrayWords::untoken, NONE);
        ArrayWords x = withTokens(0);
        x.untoken();
        Check.due("the first token behind a refused untoken", x.tokens(8, -1, -1, -1), 1);
    }

    private static void untokenOfOne() {
        Check.sentence("Otherwise that token.");
        for (int t : FIRST_AND_LAST_TOKENS) {
            ArrayWords x = withTokens(1);
            x.tokens(t, -1, -1, -1);
            Check.due("untoken of " + t, x.untoken(), t);
            Check.due("the token before it", x.untoken(), 0);
        }
        ArrayWords x = withTokens(30);
        for (int i = 29; i >= 0; i--) {
            Check.due("untoken of token " + i, x.untoken(), i % 10);
        }
        Check.due("untoken of none", x.untoken(), NONE);
    }

    private static void clear() {
        Check.sentence("The text is empty from now on.");
        for (int count : new int[] {0, 1, 29, 30}) {
            ArrayWords x = withTokens(count);
            x.clear();
            Check.due("what is there after clear of " + count, Bounds.state(x), Bounds.state(withTokens(0)));
            ArrayWords y = withTokens(count);
            y.clear();
            for (int more = 1; more <= 30; more++) {
                Check.due("token " + more + " after clear of " + count, y.tokens(1, -1, -1, -1), more);
            }
            Check.due("token 31 after clear of " + count, y.tokens(1, -1, -1, -1), FULL);
        }
    }

    private static void rank() {
        Check.sentence("The rank of the result.");
        for (int k = 0; k < ARRAYS.length; k++) {
            Check.due("rank of " + ARRAYS[k], holding(ARRAYS[k]).rank(), SHAPES[k].length);
        }
    }

    private static void length() {
        Check.sentence("Number i of the result's shape; NONE if there is none.");
        for (int k = 0; k < ARRAYS.length; k++) {
            String array = ARRAYS[k];
            int rank = SHAPES[k].length;
            for (int i = 0; i < rank; i++) {
                Check.due("length " + i + " of " + array, holding(array).length(i), SHAPES[k][i]);
            }
            for (int i : new int[] {MIN, -1, rank, rank + 1, MAX}) {
                Bounds.refused("length " + i + " of " + array, () -> holding(array), x -> x.length(i), NONE);
            }
        }
    }

    private static void size() {
        Check.sentence("The number of numbers of the result.");
        for (int k = 0; k < ARRAYS.length; k++) {
            Check.due("size of " + ARRAYS[k], holding(ARRAYS[k]).size(), SIZES[k]);
        }
    }

    private static void at() {
        Check.sentence("Number i of the result's ravel; 0 if there is none.");
        for (int k = 0; k < ARRAYS.length; k++) {
            String array = ARRAYS[k];
            int first = SIZES[k] < 3 ? 5 : 1;
            ArrayWords x = holding(array);
            for (int i = 0; i < SIZES[k]; i++) {
                Check.due("at " + i + " of " + array, x.at(i), first + i);
            }
            for (int i : new int[] {MIN, -1, SIZES[k], SIZES[k] + 1, 36, 37, MAX}) {
                Bounds.refused("at " + i + " of " + array, () -> holding(array), y -> y.at(i), 0);
            }
        }
    }

    private static void digest() {
        Check.sentence("The sum, wrapping, over the ravel of the result, of (i + 1) times number i.");
        String[] arrays = {
            "[0]", "[0 6]", "[6 0]", "[] -7", "[] MIN", "[] MAX", "[36] 1x36", "[6 6] 1x36", "[2] 0 1073741823",
            "[2] 0 1073741824", "[2] 0 -1073741824", "[2] 0 -1073741825", "[2] MAX 0", "[3] MAX 0 -1",
            "[2] 1 1073741823", "[2] 2 1073741823", "[2] MIN MIN", "[36] 0x35 MAX", "[36] 0x35 MIN", "[36] MAX 0x34 1"};
        int[] wants = {
            0, 0, 0, -7, MIN, MAX, 666, 666, 2147483646,
            MIN, MIN, 2147483646, MAX, 2147483644,
            MAX, MIN, MIN, -36, 0, -2147483613};
        for (int k = 0; k < arrays.length; k++) {
            Check.due("digest of " + arrays[k], holding(arrays[k]).digest(), wants[k]);
        }
    }

    /** An object with a value, n + 1 of rank 0, in names 0 to last alone. */
    private static ArrayWords named(int last) {
        ArrayWords x = new ArrayWords();
        for (int n = 0; n <= last; n++) {
            Bounds.hold(x, "[] " + (n + 1));
            x.keep(n);
        }
        Bounds.hold(x, "[2 2] 9 8 7 6");
        return x;
    }

    private static void badNames(String what, ToIntBiFunction<ArrayWords, Integer> call) {
        for (int n : NO_NAMES) {
            Bounds.refused(what + " " + n + ", no values", () -> named(-1), x -> call.applyAsInt(x, n), BAD_ARG);
            Bounds.refused(what + " " + n + ", all values", () -> named(5), x -> call.applyAsInt(x, n), BAD_ARG);
        }
    }

    private static void keep() {
        Check.sentence("Name n becomes the result. BAD_ARG if n is not 0 to 5. Otherwise 0.");
        badNames("keep", ArrayWords::keep);
        for (int n = 0; n <= 5; n++) {
            for (String array : ARRAYS) {
                ArrayWords x = new ArrayWords();
                Bounds.hold(x, array);
                Check.due("keep " + n, x.keep(n), 0);
                Check.due("the result after keep", Check.result(x), Bounds.array(array));
                Bounds.hold(x, "[] 3");
                StringBuilder want = new StringBuilder();
                for (int m = 0; m < 6; m++) {
                    want.append("; name ").append(m).append(" ").append(m == n ? Bounds.array(array) : "none");
                }
                Check.due("the names after keep " + n, Bounds.names(x), want.toString());
            }
        }
    }

    private static void keepReplaces() {
        Check.sentence("Name n becomes the result.");
        for (String before : ARRAYS) {
            for (String array : new String[] {"[] -5", "[0]", "[0 6]", "[6 0]", "[6 6] 2..37"}) {
                ArrayWords x = new ArrayWords();
                Bounds.hold(x, before);
                x.keep(5);
                Bounds.hold(x, array);
                Check.due("keep over " + before, x.keep(5), 0);
                Bounds.hold(x, "[] 3");
                x.show(5);
                Check.due("the value after keep over " + before, Check.result(x), Bounds.array(array));
            }
        }
    }

    private static void show() {
        Check.sentence("The result becomes the value of name n. BAD_ARG if n is not 0 to 5");
        badNames("show", ArrayWords::show);
        for (int n = 0; n <= 5; n++) {
            ArrayWords x = named(5);
            Check.due("show " + n, x.show(n), 0);
            Check.due("the result after show " + n, Check.result(x), "[] " + (n + 1));
            Check.due("the names after show " + n, Bounds.names(x), Bounds.names(named(5)));
        }
        for (String array : ARRAYS) {
            ArrayWords x = holding(array);
            x.keep(3);
            Bounds.hold(x, "[6 6] -4x36");
            Check.due("show of " + array, x.show(3), Check.rankOf(array));
            Check.due("the result after show", Check.result(x), Bounds.array(array));
        }
    }

    private static void showOfNone() {
        Check.sentence("VALUE if it has none. Otherwise the rank.");
        for (int last = -1; last <= 5; last++) {
            int withValue = last;
            for (int n = 0; n <= 5; n++) {
                int name = n;
                if (name > withValue) {
                    Bounds.refused("show " + name, () -> named(withValue), x -> x.show(name), VALUE);
                } else {
                    Check.due("show " + name, named(withValue).show(name), 0);
                }
            }
        }
    }

    private static void showOrder() {
        Check.sentence("show: BAD_ARG is tested before VALUE.");
        Bounds.refused("show -1 of a new object", ArrayWords::new, x -> x.show(-1), BAD_ARG);
        Bounds.refused("show 0 of a new object", ArrayWords::new, x -> x.show(0), VALUE);
        Bounds.refused("show 5 of a new object", ArrayWords::new, x -> x.show(5), VALUE);
        Bounds.refused("show 6 of a new object", ArrayWords::new, x -> x.show(6), BAD_ARG);
    }

    private static void forget() {
        Check.sentence("Name n has no value from now on. BAD_ARG if n is not 0 to 5.");
        badNames("forget", ArrayWords::forget);
        for (int n = 0; n <= 5; n++) {
            ArrayWords x = named(5);
            x.forget(n);
            String without = Bounds.names(named(5)).replace("name " + n + " [] " + (n + 1), "name " + n + " none");
            Check.due("the result after forget " + n, Check.result(x), "[2 2] 9 8 7 6");
            Check.due("the names after forget " + n, Bounds.names(x), without);
        }
    }

    private static void forgetAgain() {
        Check.sentence("Otherwise 1 if it had one, else 0.");
        for (int n = 0; n <= 5; n++) {
            ArrayWords x = named(5);
            Check.due("forget " + n, x.forget(n), 1);
            Check.due("forget " + n + " again", x.forget(n), 0);
            Check.due("keep after forget " + n, x.keep(n), 0);
            Check.due("forget " + n + " after keep", x.forget(n), 1);
            Check.due("forget " + n + " of a new object", new ArrayWords().forget(n), 0);
        }
    }

    private static String withNumber(String array, int i, int number) {
        String whole = Bounds.array(array);
        int end = whole.indexOf(']') + 1;
        String[] numbers = whole.substring(end).trim().split(" ");
        numbers[i] = "" + number;
        return whole.substring(0, end) + " " + String.join(" ", numbers);
    }

    private static void put() {
        Check.sentence("Number i of the result's ravel becomes x. NONE if there is none. Otherwise what it was.");
        for (int k = 0; k < ARRAYS.length; k++) {
            String array = ARRAYS[k];
            int size = SIZES[k];
            for (int i : new int[] {MIN, -1, size, size + 1, 36, 37, MAX}) {
                Bounds.refused("put at " + i + " of " + array, () -> holding(array), x -> x.put(i, 99), NONE);
            }
            for (int i = 0; i < size; i++) {
                ArrayWords x = holding(array);
                int before = x.at(i);
                Check.due("put at " + i + " of " + array, x.put(i, MIN), before);
                Check.due("put at " + i + " again", x.put(i, MAX), MIN);
                Check.due("put at " + i + " once more", x.put(i, -9), MAX);
                ArrayWords y = holding(withNumber(array, i, -9));
                Check.due("what is there after put at " + i + " of " + array, Bounds.state(x), Bounds.state(y));
            }
        }
    }

    private static void putAndNames() {
        Check.sentence("(Names keep what they have.)");
        String[] ways = {"b becomes a", "b becomes + a", "b becomes c becomes a", "b", "b + 0"};
        for (String way : ways) {
            ArrayWords x = new ArrayWords();
            Bounds.hold(x, "[6 6] 1..36");
            x.keep(0);
            x.keep(1);
            Check.run(x, way);
            Check.due("put at 0", x.put(0, 77), 1);
            Check.due("put at 35", x.put(35, 78), 36);
            x.show(1);
            Check.due("the name after " + way + " and put", Check.result(x), Bounds.array("[6 6] 1..36"));
            Check.due("put after show", x.put(0, 79), 1);
            x.show(1);
            Check.due("the name after show and put", Check.result(x), Bounds.array("[6 6] 1..36"));
        }
        ArrayWords x = new ArrayWords();
        Bounds.hold(x, "[2] 1 2");
        x.keep(4);
        x.put(1, 3);
        x.show(4);
        Check.due("the name after keep and put", Check.result(x), "[2] 1 2");
    }
}
