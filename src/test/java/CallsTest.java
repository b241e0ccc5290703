/** Promises 1 to 5 and 7 to 15: the calls around a run. */
public final class CallsTest {
    private static final int NONE = ArrayWords.NONE;
    private static final int BAD_ARG = ArrayWords.BAD_ARG;
    private static final int FULL = ArrayWords.FULL;
    private static final int VALUE = ArrayWords.VALUE;

    public static void main(String[] args) {
        newObject();
        everyToken();
        tokens();
        fullText();
        untoken();
        clear();
        reads();
        rankAndLength();
        sizeAndAt();
        digest();
        keep();
        show();
        forget();
        put();
        Check.end();
    }

    private static void newObject() {
        ArrayWords x = new ArrayWords();
        Check.due("the result of a new object", Check.result(x), "[] 0");
        Check.due("rank of a new object", x.rank(), 0);
        Check.due("digest of a new object", x.digest(), 0);
        Check.due("reads of a new object", x.reads(), false);
        Check.due("run of a new object", x.run(), ArrayWords.SYNTAX);
        Check.due("tokens of a new object", x.tokens(-1, -1, -1, -1), 0);
        Check.due("untoken of a new object", x.untoken(), NONE);
        for (int n = 0; n < 6; n++) {
            Check.due("show of a new object's name " + n, x.show(n), VALUE);
            Check.due("forget of a new object's name " + n, x.forget(n), 0);
        }
        Check.run(x, "a becomes 1 2 3");
        ArrayWords y = new ArrayWords();
        Check.due("the result beside a used object", Check.result(y), "[] 0");
        Check.due("the name beside a used object", y.show(0), VALUE);
        Check.due("the text beside a used object", y.untoken(), NONE);
    }

    private static void everyToken() {
        for (int t = -200; t <= 200; t++) {
            boolean is = Check.isToken(t);
            int ifOne = t == -1 ? 0 : is ? 1 : BAD_ARG;
            int ifFour = t == -1 ? 3 : is ? 4 : BAD_ARG;
            ArrayWords x = new ArrayWords();
            Check.due("tokens of " + t + " alone", x.tokens(t, -1, -1, -1), ifOne);
            Check.due("untoken after " + t + " alone", x.untoken(), is ? t : NONE);
            Check.due("tokens with a = " + t, x.tokens(t, 1, 2, 3), ifFour);
            x.clear();
            Check.due("tokens with b = " + t, x.tokens(1, t, 2, 3), ifFour);
            x.clear();
            Check.due("tokens with c = " + t, x.tokens(1, 2, t, 3), ifFour);
            x.clear();
            Check.due("tokens with d = " + t, x.tokens(1, 2, 3, t), ifFour);
            Check.due("untoken with d = " + t, x.untoken(), is ? t : t == -1 ? 3 : NONE);
        }
        for (int t : new int[] {Check.MIN, Check.MIN + 1, Check.MAX}) {
            Check.due("tokens of " + t, new ArrayWords().tokens(1, 2, 3, t), BAD_ARG);
        }
    }

    private static void tokens() {
        ArrayWords x = new ArrayWords();
        Check.due("tokens with gaps", x.tokens(-1, 4, -1, 7), 2);
        Check.due("tokens of nothing", x.tokens(-1, -1, -1, -1), 2);
        Check.due("four tokens", x.tokens(20, 21, 22, 23), 6);
        Check.due("a wrong token", x.tokens(1, 2, 3, 44), BAD_ARG);
        for (int t : new int[] {23, 22, 21, 20, 7, 4, NONE}) {
            Check.due("untoken", x.untoken(), t);
        }
    }

    private static void fullText() {
        ArrayWords x = new ArrayWords();
        for (int n = 4; n <= 28; n += 4) {
            Check.due("tokens", x.tokens(1, 2, 3, 4), n);
        }
        Check.due("31 tokens", x.tokens(5, 6, 7, -1), FULL);
        Check.due("32 tokens", x.tokens(5, 6, 7, 8), FULL);
        Check.due("32 tokens with a wrong one", x.tokens(5, 6, 7, 16), BAD_ARG);
        Check.due("30 tokens", x.tokens(-1, 5, -1, 6), 30);
        Check.due("nothing at 30 tokens", x.tokens(-1, -1, -1, -1), 30);
        Check.due("one at 30 tokens", x.tokens(-1, -1, -1, 0), FULL);
        Check.due("a wrong one at 30 tokens", x.tokens(-1, 53, -1, 0), BAD_ARG);
        Check.due("untoken at 30", x.untoken(), 6);
        Check.due("two at 29 tokens", x.tokens(7, 8, -1, -1), FULL);
        Check.due("one at 29 tokens", x.tokens(-1, -1, 9, -1), 30);
        Check.due("run of 30 numbers", x.run(), 1);
        Check.due("size of 30 numbers", x.size(), 30);
        Check.due("the number before the last", x.at(28), 5);
        Check.due("the last number", x.at(29), 9);
    }

    private static void untoken() {
        ArrayWords x = new ArrayWords();
        x.tokens(0, 52, 15, -1);
        Check.due("untoken", x.untoken(), 15);
        Check.due("untoken", x.untoken(), 52);
        Check.due("tokens after two untokens", x.tokens(-1, -1, -1, -1), 1);
        Check.due("untoken of the first", x.untoken(), 0);
        Check.due("untoken of none", x.untoken(), NONE);
        Check.due("untoken of none again", x.untoken(), NONE);
        Check.due("tokens behind none", x.tokens(3, 20, -1, -1), 2);
        Check.due("reads of 3 +", x.reads(), false);
        Check.due("untoken of +", x.untoken(), 20);
        Check.due("reads of 3", x.reads(), true);
        Check.due("run of 3", x.run(), 0);
    }

    private static void clear() {
        ArrayWords x = new ArrayWords();
        Check.run(x, "b becomes 4 5");
        x.clear();
        Check.due("tokens after clear", x.tokens(-1, -1, -1, -1), 0);
        Check.due("reads after clear", x.reads(), false);
        Check.due("run after clear", x.run(), ArrayWords.SYNTAX);
        Check.due("the result after clear", Check.result(x), "[2] 4 5");
        Check.due("the name after clear", x.show(1), 1);
        x.clear();
        Check.due("untoken after clear", x.untoken(), NONE);
    }

    private static void reads() {
        String[] statements = {
            "1", "1 2 3", "a", "( 1 )", "( ( a ) )", "+ 1", "1 + 2", "a + b", "a becomes 1", "a becomes b becomes 1 2",
            "1 + a becomes 2", "+ a becomes 2", "( a becomes 2 ) + 3", "+ + + 1", "1 + + 2", "shape 1", "1 shape 1",
            "+ / 1", "1 + / 2", "+ \\ 1", "1 + \\ 2", "outer + 1", "1 outer + 2", "+ . * 1", "1 + . * 2",
            "+ / + / 1", "+ / outer * 1", "+ . * shape 1", "1 2 + . * 3 4 + 5", "rise count 3", "( 1 2 ) + ( 3 4 )",
            "f becomes ( + / ( 1 2 ) )", "a becomes + 1", "a + ( 1 )", "1 + . + + 1", "1 drop turn a",
            "( ( ( ( ( ( ( ( ( ( ( ( ( ( 1 ) ) ) ) ) ) ) ) ) ) ) ) ) )",
            "+ + + + + + + + + + + + + + + + + + + + + + + + + + + + + 1"};
        String[] others = {
            "", "+", "1 +", "( 1", "1 )", ")", "(", "( )", "( ) 1", "1 ( 2 )", "( 1 ) 2", "( 1 ) ( 2 )", "a b", "a 1",
            "1 a", "( 1 ) a", "a ( 1 )", "becomes", "becomes 1", "1 becomes 2", "a becomes", "( a ) becomes 1",
            "1 2 becomes 3", "1 a becomes 3", "a b becomes 3", "a becomes becomes 1", "/ 1", "\\ 1", ". 1", "1 / 2",
            "1 \\ 2", "1 . 2", "shape / 1", "shape \\ 1", "outer shape 1", "1 outer 2", "outer 1", "outer outer + 1",
            "outer + / 1", "outer + \\ 1", "outer + . * 1", "+ . 1", "+ . shape 1", "shape . + 1", ". + 1", "+ / / 1",
            "+ / \\ 1", "+ . * / 1", "+ . * . + 1", "+ / . * 1", "+ /", "1 + ( )", "( + ) 1", "( + 1", "+ 1 )",
            ") 1 (", "( 1 ) )", "( ( 1 )", "( 1 + ) 2", "a becomes )", "( a becomes ) 1", "+ outer", "1 + outer 2",
            "+ . outer * 1", "+ becomes 1", "1 + 2 3 a", "+ . * +", "+ .", "outer", "1 outer +",
            "( ( ( ( ( ( ( ( ( ( ( ( ( ( ( 1 ) ) ) ) ) ) ) ) ) ) ) ) ) )",
            "+ + + + + + + + + + + + + + + + + + + + + + + + + + + + + +",
            "( ( ( ( ( ( ( ( ( ( ( ( ( ( ( ( ( ( ( ( ( ( ( ( ( ( ( ( ( (",
            ") ) ) ) ) ) ) ) ) ) ) ) ) ) ) ) ) ) ) ) ) ) ) ) ) ) ) ) ) )"};
        for (String text : statements) {
            readsAs(text, true);
        }
        for (String text : others) {
            readsAs(text, false);
        }
    }

    private static void readsAs(String text, boolean want) {
        ArrayWords x = new ArrayWords();
        Check.write(x, text);
        Check.due("reads of " + text, x.reads(), want);
        Check.due("run answers SYNTAX for " + text, x.run() == ArrayWords.SYNTAX, !want);
        Check.due("reads after the run of " + text, x.reads(), want);
    }

    private static void rankAndLength() {
        String[] texts = {"7", "7 8 9", "0 shape 1", "2 5 shape 1", "0 4 shape 1", "4 0 shape 1"};
        int[][] shapes = {{}, {3}, {0}, {2, 5}, {0, 4}, {4, 0}};
        for (int k = 0; k < texts.length; k++) {
            ArrayWords x = new ArrayWords();
            Check.run(x, texts[k]);
            Check.due("rank of " + texts[k], x.rank(), shapes[k].length);
            for (int i : new int[] {Check.MIN, -2, -1, 0, 1, 2, 3, 36, Check.MAX}) {
                int want = i >= 0 && i < shapes[k].length ? shapes[k][i] : NONE;
                Check.due("length " + i + " of " + texts[k], x.length(i), want);
            }
        }
    }

    private static void sizeAndAt() {
        String[] texts = {"7", "7 8 9", "0 shape 1", "2 2 shape 5 6 7 8", "0 4 shape 1", "4 0 shape 1", "6 6 shape 3"};
        int[] sizes = {1, 3, 0, 4, 0, 0, 36};
        for (int k = 0; k < texts.length; k++) {
            ArrayWords x = new ArrayWords();
            // What an earlier and longer result had must not shine through.
            Check.run(x, "6 6 shape 4");
            Check.run(x, texts[k]);
            Check.due("size of " + texts[k], x.size(), sizes[k]);
            for (int i : new int[] {Check.MIN, -1, sizes[k], sizes[k] + 1, 36, 37, Check.MAX}) {
                Check.due("at " + i + " of " + texts[k], x.at(i), 0);
            }
        }
        ArrayWords x = new ArrayWords();
        Check.run(x, "2 2 shape 5 6 7 8");
        for (int i = 0; i < 4; i++) {
            Check.due("at " + i, x.at(i), 5 + i);
        }
    }

    private static void digest() {
        ArrayWords x = new ArrayWords();
        Check.run(x, "4 5 6");
        Check.due("digest of 4 5 6", x.digest(), 32);
        Check.run(x, "2 2 shape 1 2 3 4");
        Check.due("digest of a matrix", x.digest(), 30);
        Check.run(x, "0 4 shape 1");
        Check.due("digest of no number", x.digest(), 0);
        Check.run(x, "3 shape 0");
        x.put(1, Check.MAX);
        x.put(2, Check.MAX);
        // 5 times 2147483647 is 2147483643 above 2 times 4294967296.
        Check.due("digest that wraps", x.digest(), 2147483643);
        x.put(0, Check.MIN);
        Check.due("digest that wraps", x.digest(), -5);
    }

    private static void keep() {
        ArrayWords x = new ArrayWords();
        for (int n : new int[] {Check.MIN, -1, 6, 7, 10, 15, Check.MAX}) {
            Check.due("keep " + n, x.keep(n), BAD_ARG);
        }
        for (int n = 0; n < 6; n++) {
            x.put(0, 20 + n);
            Check.due("keep " + n, x.keep(n), 0);
        }
        Check.due("the result after keep", Check.result(x), "[] 25");
        for (int n = 0; n < 6; n++) {
            Check.due("show " + n, x.show(n), 0);
            Check.due("the value of name " + n, x.at(0), 20 + n);
        }
        Check.run(x, "2 3 shape count 6");
        Check.due("keep of a matrix", x.keep(3), 0);
        Check.run(x, "1");
        Check.gives(x, "d", "[2 3] 0 1 2 3 4 5");
        Check.gives(x, "c", "[] 22");
        Check.gives(x, "e", "[] 24");
        Check.run(x, "0 3 shape 1");
        x.keep(0);
        Check.run(x, "7");
        Check.gives(x, "a", "[0 3]");
    }

    private static void show() {
        ArrayWords x = new ArrayWords();
        for (int n : new int[] {Check.MIN, -1, 6, 10, Check.MAX}) {
            Check.due("show " + n, x.show(n), BAD_ARG);
        }
        Check.due("show of no value", x.show(5), VALUE);
        Check.run(x, "f becomes 2 2 shape 1 2 3 4");
        Check.run(x, "e becomes 8 9");
        Check.run(x, "d becomes 5");
        Check.due("show of a matrix", x.show(5), 2);
        Check.due("the matrix", Check.result(x), "[2 2] 1 2 3 4");
        Check.due("show of a vector", x.show(4), 1);
        Check.due("the vector", Check.result(x), "[2] 8 9");
        Check.due("show of a number", x.show(3), 0);
        Check.due("the number", Check.result(x), "[] 5");
        Check.due("show of no value", x.show(2), VALUE);
        Check.due("show of no name", x.show(-1), BAD_ARG);
        Check.due("the result after refusals", Check.result(x), "[] 5");
    }

    private static void forget() {
        ArrayWords x = new ArrayWords();
        for (int n : new int[] {Check.MIN, -1, 6, 10, Check.MAX}) {
            Check.due("forget " + n, x.forget(n), BAD_ARG);
        }
        Check.run(x, "b becomes c becomes 3 4");
        Check.due("forget of a name", x.forget(1), 1);
        Check.due("forget of it again", x.forget(1), 0);
        Check.due("show of it", x.show(1), VALUE);
        Check.fails(x, "b", VALUE);
        Check.gives(x, "c", "[2] 3 4");
        Check.due("forget of a name never given", x.forget(5), 0);
        Check.gives(x, "b becomes 6", "[] 6");
        Check.due("forget of a name given anew", x.forget(1), 1);
        x.keep(1);
        Check.due("forget of a kept name", x.forget(1), 1);
        Check.due("the result after forget", Check.result(x), "[] 6");
    }

    private static void put() {
        ArrayWords x = new ArrayWords();
        for (int i : new int[] {Check.MIN, -1, 1, 2, 36, Check.MAX}) {
            Check.due("put at " + i, x.put(i, 9), NONE);
        }
        Check.due("the result after refusals", Check.result(x), "[] 0");
        Check.due("put at 0", x.put(0, Check.MIN), 0);
        Check.due("put at 0 again", x.put(0, Check.MAX), Check.MIN);
        Check.due("the result", x.at(0), Check.MAX);
        Check.run(x, "a becomes 2 2 shape 1 2 3 4");
        Check.due("put in a matrix", x.put(3, -8), 4);
        Check.due("put behind a matrix", x.put(4, 5), NONE);
        Check.due("the matrix", Check.result(x), "[2 2] 1 2 3 -8");
        Check.gives(x, "a", "[2 2] 1 2 3 4");
        x.keep(1);
        x.put(0, 70);
        Check.gives(x, "b", "[2 2] 1 2 3 4");
        x.show(1);
        x.put(1, 70);
        Check.gives(x, "b", "[2 2] 1 2 3 4");
        Check.run(x, "0 3 shape 1");
        Check.due("put in no number", x.put(0, 5), NONE);
    }
}
