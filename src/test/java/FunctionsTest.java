/** Promises 6 and 16: what runs make of arrays and names, and which error ends them. */
public final class FunctionsTest {
    private static final int SYNTAX = ArrayWords.SYNTAX;
    private static final int VALUE = ArrayWords.VALUE;
    private static final int VALENCE = ArrayWords.VALENCE;
    private static final int RANK = ArrayWords.RANK;
    private static final int LENGTH = ArrayWords.LENGTH;
    private static final int DOMAIN = ArrayWords.DOMAIN;
    private static final int LIMIT = ArrayWords.LIMIT;
    private static final int MIN = Check.MIN;
    private static final int MAX = Check.MAX;

    public static void main(String[] args) {
        statements();
        errors();
        scalarNumbers();
        extremeNumbers();
        scalarShapes();
        folds();
        outer();
        inner();
        shape();
        count();
        turn();
        back();
        take();
        drop();
        join();
        pick();
        rise();
        Check.end();
    }

    private static void statements() {
        Check.gives("7", "[] 7");
        Check.gives("7 0", "[2] 7 0");
        Check.gives("( 7 )", "[] 7");
        Check.gives("( 1 2 3 )", "[3] 1 2 3");
        Check.gives("( ( ( ( ( ( ( ( ( ( ( ( ( ( 1 ) ) ) ) ) ) ) ) ) ) ) ) ) )", "[] 1");
        Check.gives("8 - 4 - 1", "[] 5");
        Check.gives("( 8 - 4 ) - 1", "[] 3");
        Check.gives("8 - ( 4 - ( 1 - ( 3 - ( 2 - 9 ) ) ) )", "[] -5");
        Check.gives("( ( ( 9 - 5 ) - 3 ) - 2 ) - 1", "[] -2");
        Check.gives("- - 3", "[] 3");
        Check.gives("2 * - 3 + 4", "[] -14");
        ArrayWords x = new ArrayWords();
        Check.gives(x, "a becomes 1 2 3", "[3] 1 2 3");
        Check.gives(x, "a + a", "[3] 2 4 6");
        Check.gives(x, "a becomes a + 1", "[3] 2 3 4");
        Check.gives(x, "b becomes c becomes a * 2", "[3] 4 6 8");
        Check.gives(x, "a", "[3] 2 3 4");
        Check.gives(x, "c", "[3] 4 6 8");
        Check.gives(x, "b", "[3] 4 6 8");
        Check.gives(x, "f becomes 2 2 shape a", "[2 2] 2 3 4 2");
        Check.gives(x, "f becomes - 1", "[] -1");
        Check.gives(x, "f", "[] -1");
        Check.gives(x, "( f becomes 5 ) + f", "[] 4");
        Check.gives(x, "f", "[] 5");
        Check.gives(x, "2 * ( e becomes 1 + 6 7 ) + 1", "[2] 16 18");
        Check.gives(x, "e", "[2] 7 8");
        Check.gives(x, "f + f becomes 4", "[] 8");
        Check.due("the same text run again", x.run(), 0);
        Check.due("its result", Check.result(x), "[] 8");
        Check.due("the tokens after a run", x.tokens(-1, -1, -1, -1), 5);
        Check.gives(x, "d becomes ( e becomes 0 3 shape 1 ) + 1", "[0 3]");
        Check.gives(x, "e", "[0 3]");
    }

    private static void errors() {
        Check.fails("", SYNTAX);
        Check.fails("a", VALUE);
        Check.fails("f + 1", VALUE);
        Check.fails("+ b", VALUE);
        Check.fails("( e ) + 1", VALUE);
        ArrayWords x = new ArrayWords();
        Check.run(x, "a becomes 3 4");
        Check.fails(x, "b + a becomes 1", VALUE);
        Check.due("show of b", x.show(1), VALUE);
        Check.gives(x, "a", "[2] 3 4");
        Check.fails(x, "1 turn c becomes b becomes 5 6", VALENCE);
        Check.fails(x, "a + c becomes 1 2 3", LENGTH);
        Check.due("show of b", x.show(1), VALUE);
        Check.due("show of c", x.show(2), VALUE);
        Check.gives(x, "a", "[2] 3 4");
        Check.fails(x, "a +", SYNTAX);
        // Of a statement's errors the first one from the right counts.
        Check.fails(x, "f + 1 2 + 1 2 3", LENGTH);
        Check.fails(x, "( 1 2 + 1 2 3 ) + f", VALUE);
        Check.fails(x, "( 1 turn 2 ) + 1 2 + 1 2 3", LENGTH);
        Check.fails(x, "f turn 1", VALUE);
        Check.fails(x, "( 1 2 + 1 2 3 ) turn 1", LENGTH);
        Check.fails(x, "1 turn 1 2 + 1 2 3", LENGTH);
        Check.fails(x, "drop 1 2 + 1 2 3", LENGTH);
        Check.fails(x, "drop f", VALUE);
        Check.fails(x, "pick count 1 2", RANK);
        Check.fails(x, "f + / 1", VALUE);
        Check.fails(x, "f + / drop 1", VALENCE);
    }

    private static void scalarNumbers() {
        Check.gives("5 + 3", "[] 8");
        Check.gives("5 - 8", "[] -3");
        Check.gives("5 * 3", "[] 15");
        Check.gives("5 3 4 max 3 5 4", "[3] 5 5 4");
        Check.gives("5 3 4 min 3 5 4", "[3] 3 3 4");
        Check.gives("3 3 5 = 3 5 3", "[3] 1 0 0");
        Check.gives("3 3 5 < 3 5 3", "[3] 0 1 0");
        Check.gives("3 rest 0 1 2 3 4 5 6 7", "[8] 0 1 2 0 1 2 0 1");
        Check.gives("3 rest - 0 1 2 3 4 5 6 7", "[8] 0 2 1 0 2 1 0 2");
        Check.gives("( - 3 ) rest 0 1 2 3 4", "[5] 0 1 2 0 1");
        Check.gives("( - 3 ) rest - 0 1 2 3 4", "[5] 0 2 1 0 2");
        Check.gives("0 rest 5 - 0 7", "[2] 5 -2");
        Check.gives("+ 4 4 - 0 9", "[2] 4 -5");
        Check.gives("- 4 4 - 0 9", "[2] -4 5");
        Check.gives("* 4 4 - 0 9", "[2] 4 -5");
        Check.gives("max 4 4 - 0 9", "[2] 4 0");
        Check.gives("min 4 4 - 0 9", "[2] 0 -5");
        Check.gives("= 4 4 4 - 0 4 9", "[3] 0 1 0");
        Check.gives("< 4 4 4 - 0 4 9", "[3] 1 0 0");
        Check.gives("rest 4 4 - 0 9", "[2] 4 -5");
        Check.gives("- 3", "[] -3");
        Check.gives("- 2 2 shape 1 2 3 4", "[2 2] -1 -2 -3 -4");
        Check.gives("- 0 2 shape 1", "[0 2]");
    }

    private static void extremeNumbers() {
        ArrayWords x = Check.with(MIN, MAX, -1, 1);
        Check.gives(x, "b + d", "[] " + MIN);
        Check.gives(x, "a - d", "[] " + MAX);
        Check.gives(x, "- a", "[] " + MIN);
        Check.gives(x, "a * c", "[] " + MIN);
        Check.gives(x, "b * b", "[] 1");
        Check.gives(x, "a < b", "[] 1");
        Check.gives(x, "b < a", "[] 0");
        Check.gives(x, "a max b", "[] " + MAX);
        Check.gives(x, "a min b", "[] " + MIN);
        Check.gives(x, "a rest a", "[] 0");
        Check.gives(x, "a rest b", "[] " + MAX);
        Check.gives(x, "a rest c", "[] " + MAX);
        Check.gives(x, "a rest d", "[] 1");
        Check.gives(x, "b rest a", "[] " + (MAX - 1));
        Check.gives(x, "c rest a", "[] 0");
        Check.gives(x, "d rest a", "[] 0");
        Check.gives(x, "0 rest a", "[] " + MIN);
        Check.gives(x, "3 rest a", "[] 1");
        Check.gives(x, "a rest 0", "[] 0");
    }

    private static void scalarShapes() {
        Check.gives("1 2 3 + 4 5 6", "[3] 5 7 9");
        Check.gives("1 + 4 5 6", "[3] 5 6 7");
        Check.gives("1 2 3 - 4", "[3] -3 -2 -1");
        Check.gives("( 2 2 shape count 4 ) * 2 2 shape 5 6", "[2 2] 0 6 10 18");
        Check.gives("2 - 2 2 shape count 4", "[2 2] 2 1 0 -1");
        Check.gives("( 2 2 shape count 4 ) - 2", "[2 2] -2 -1 0 1");
        Check.gives("( 0 shape 1 ) + 0 shape 1", "[0]");
        Check.gives("1 + 0 shape 1", "[0]");
        Check.gives("( 0 3 shape 1 ) + 1", "[0 3]");
        Check.gives("( 1 shape 4 ) + 5", "[1] 9");
        Check.gives("4 + 1 shape 5", "[1] 9");
        Check.fails("1 2 + 1 2 3", LENGTH);
        Check.fails("( 1 shape 4 ) + 1 2", LENGTH);
        Check.fails("( 0 shape 4 ) + 1 2", LENGTH);
        Check.fails("1 2 + 2 2 shape 1", RANK);
        Check.fails("( 1 1 shape 1 ) + 1 shape 1", RANK);
        Check.fails("( 1 4 shape 1 ) + 1 2 3 4", RANK);
        Check.fails("( 2 3 shape 1 ) + 3 2 shape 1", LENGTH);
        Check.fails("( 2 3 shape 1 ) + 2 2 shape 1", LENGTH);
        Check.fails("( 0 3 shape 1 ) + 3 0 shape 1", LENGTH);
    }

    private static void folds() {
        Check.gives("+ / 1 2 3 4", "[] 10");
        Check.gives("- / 9 4 2 1", "[] 6");
        Check.gives("< / 5 2 3", "[] 0");
        Check.gives("- / 1 shape 5", "[] 5");
        Check.gives("< / 1 shape 5", "[] 5");
        Check.gives("- / 7", "[] 7");
        Check.gives("= / 7", "[] 7");
        for (String f : new String[] {"+", "-", "max", "min", "=", "<", "rest"}) {
            Check.gives(f + " / 0 shape 5", "[] 0");
            Check.gives(f + " / 2 0 shape 5", "[2] 0 0");
        }
        Check.gives("* / 0 shape 5", "[] 1");
        Check.gives("* / 2 0 shape 5", "[2] 1 1");
        Check.gives("* / 0 2 shape 5", "[0]");
        Check.gives("- / 2 3 shape 9 4 2 1 2 5", "[2] 7 4");
        Check.gives("+ / 1 1 shape 3", "[1] 3");
        Check.fails("1 + / 2", VALENCE);
        Check.fails("1 2 + / 1 2 3", VALENCE);
        Check.gives("+ \\ 1 2 3 4", "[4] 1 3 6 10");
        Check.gives("- \\ 9 4 2 1", "[4] 9 5 7 6");
        Check.gives("- \\ 7", "[] 7");
        Check.gives("- \\ 1 shape 7", "[1] 7");
        Check.gives("- \\ 0 shape 7", "[0]");
        Check.gives("- \\ 2 3 shape 9 4 2 1 2 5", "[2 3] 9 5 7 1 -1 4");
        Check.gives("- \\ 3 2 shape 9 4 2 1 2 5", "[3 2] 9 5 2 1 2 -3");
        Check.gives("- \\ 0 3 shape 1", "[0 3]");
        Check.gives("- \\ 3 0 shape 1", "[3 0]");
        Check.fails("1 + \\ 2", VALENCE);
        Check.fails("1 2 + \\ 1 2 3", VALENCE);
    }

    private static void outer() {
        Check.gives("1 2 outer - 5 6 7", "[2 3] -4 -5 -6 -3 -4 -5");
        Check.gives("1 outer - 5", "[] -4");
        Check.gives("1 outer - 5 6", "[2] -4 -5");
        Check.gives("5 6 outer - 1", "[2] 4 5");
        Check.gives("1 outer - 2 2 shape 5 6 7 8", "[2 2] -4 -5 -6 -7");
        Check.gives("( 2 2 shape 5 6 7 8 ) outer - 1", "[2 2] 4 5 6 7");
        Check.gives("0 outer + count 9 * 4", "[36]" + Check.series(0, 35));
        Check.gives("( count 9 * 4 ) outer + 1", "[36]" + Check.series(1, 36));
        Check.gives("( 0 shape 1 ) outer + 1 2", "[0 2]");
        Check.gives("1 2 outer + 0 shape 1", "[2 0]");
        Check.gives("( 6 * count 6 ) outer + count 6", "[6 6]" + Check.series(0, 35));
        Check.fails("( count 7 ) outer + 1 2", LIMIT);
        Check.fails("1 2 outer + count 7", LIMIT);
        Check.fails("( 0 shape 1 ) outer + count 7", LIMIT);
        Check.fails("( count 7 ) outer + 0 shape 1", LIMIT);
        Check.fails("( 1 1 shape 1 ) outer + 1 2", RANK);
        Check.fails("1 2 outer + 1 1 shape 1", RANK);
        Check.fails("( count 7 ) outer + 1 1 shape 1", RANK);
        Check.fails("( 1 1 shape 1 ) outer + 1 1 shape 1", RANK);
        Check.fails("outer + 1", VALENCE);
        Check.fails("outer + 1 2 3", VALENCE);
    }

    private static void inner() {
        Check.gives("1 2 3 + . * 4 5 6", "[] 32");
        Check.gives("1 2 3 - . + 4 5 6", "[] 7");
        Check.gives("9 8 7 + . - 1 2 3", "[] 18");
        Check.gives("( 2 3 shape count 6 ) + . * 1 2 3", "[2] 8 26");
        Check.gives("1 2 + . * 2 3 shape count 6", "[3] 6 9 12");
        Check.gives("( 2 3 shape count 6 ) - . - 3 2 shape 9 8 7", "[2 2] -9 -5 -6 -2");
        Check.gives("( 3 2 shape count 6 ) + . * 2 4 shape 1 2 3 4 5 6 7 8", "[3 4] 5 6 7 8 17 22 27 32 29 38 47 56");
        Check.gives("( 1 2 shape 3 4 ) + . * 5 6", "[1] 39");
        Check.gives("3 4 + . * 2 1 shape 5 6", "[1] 39");
        Check.gives("( 1 2 shape 3 4 ) + . * 2 1 shape 5 6", "[1 1] 39");
        Check.gives("( 1 shape 3 ) < . - 1 shape 5", "[] -2");
        Check.gives("( 0 shape 1 ) + . * 0 shape 1", "[] 0");
        Check.gives("( 0 shape 1 ) * . + 0 shape 1", "[] 1");
        Check.gives("( 2 0 shape 1 ) * . + 0 3 shape 1", "[2 3] 1 1 1 1 1 1");
        Check.gives("( 2 0 shape 1 ) + . * 0 3 shape 1", "[2 3] 0 0 0 0 0 0");
        Check.gives("( 0 2 shape 1 ) + . * 2 3 shape 1", "[0 3]");
        Check.gives("( 3 2 shape 1 ) + . * 2 0 shape 1", "[3 0]");
        Check.gives("( 0 2 shape 1 ) + . * 1 2", "[0]");
        Check.gives("1 2 + . * 2 0 shape 1", "[0]");
        Check.gives("( count 9 * 4 ) + . * 1 + 0 * count 9 * 4", "[] 630");
        Check.fails("1 + . * 1 2", RANK);
        Check.fails("1 2 + . * 1", RANK);
        Check.fails("1 + . * 1", RANK);
        Check.fails("1 2 + . * 1 2 3", LENGTH);
        Check.fails("( 2 3 shape 1 ) + . * 1 2", LENGTH);
        Check.fails("1 2 3 + . * 2 3 shape 1", LENGTH);
        Check.fails("( 2 3 shape 1 ) + . * 2 3 shape 1", LENGTH);
        Check.fails("+ . * 1 2", VALENCE);
    }

    private static void shape() {
        Check.gives("shape 5", "[0]");
        Check.gives("shape 5 6 7", "[1] 3");
        Check.gives("shape 0 shape 1", "[1] 0");
        Check.gives("shape 2 3 shape 1", "[2] 2 3");
        Check.gives("shape 0 3 shape 1", "[2] 0 3");
        Check.gives("shape 3 0 shape 1", "[2] 3 0");
        Check.gives("2 3 shape 1 2 3 4", "[2 3] 1 2 3 4 1 2");
        Check.gives("5 shape 1 2", "[5] 1 2 1 2 1");
        Check.gives("2 shape 7 8 9", "[2] 7 8");
        Check.gives("( 1 shape 3 ) shape 4", "[3] 4 4 4");
        Check.gives("( 0 shape 1 ) shape 7 8", "[] 7");
        Check.gives("( 0 shape 1 ) shape 0 shape 1", "[] 0");
        Check.gives("( shape 5 ) shape 2 2 shape 6 7 8 9", "[] 6");
        Check.gives("0 shape 1", "[0]");
        Check.gives("3 shape 0 shape 1", "[3] 0 0 0");
        Check.gives("2 2 shape 0 3 shape 1", "[2 2] 0 0 0 0");
        Check.gives("4 shape 2 2 shape 1 2 3 4", "[4] 1 2 3 4");
        Check.gives("( 9 * 4 ) shape count 9 * 4", "[36]" + Check.series(0, 35));
        Check.gives("6 6 shape count 9 * 4", "[6 6]" + Check.series(0, 35));
        Check.fails("( 1 1 shape 1 ) shape 1", RANK);
        Check.fails("( 0 0 shape 1 ) shape 1", RANK);
        Check.fails("( 2 2 shape 9 ) shape 1", RANK);
        Check.fails("1 1 1 shape 1", LENGTH);
        Check.fails("9 9 9 shape 1", LENGTH);
        Check.fails("7 1 shape 1", DOMAIN);
        Check.fails("1 7 shape 1", DOMAIN);
        Check.fails("( - 1 0 ) shape 1", DOMAIN);
        Check.fails("( - 0 1 ) shape 1", DOMAIN);
        Check.fails("( - 1 ) shape 1", DOMAIN);
        Check.fails("( 1 + 9 * 4 ) shape 1", DOMAIN);
        Check.fails("( join 1 + 9 * 4 ) shape 1", DOMAIN);
        Check.fails("( join - 1 ) shape 1", DOMAIN);
        Check.fails(Check.with(MIN), "a shape 1", DOMAIN);
        Check.fails(Check.with(MAX), "a shape 1", DOMAIN);
    }

    private static void count() {
        Check.gives("count 0", "[0]");
        Check.gives("count 4", "[4] 0 1 2 3");
        Check.gives("count 9 * 4", "[36]" + Check.series(0, 35));
        Check.fails("count 1 + 9 * 4", DOMAIN);
        Check.fails("count - 1", DOMAIN);
        Check.fails(Check.with(MIN), "count a", DOMAIN);
        Check.fails(Check.with(MAX), "count a", DOMAIN);
        Check.fails("count 1 shape 1", RANK);
        Check.fails("count join - 1", RANK);
        Check.fails("count 1 1 shape 1", RANK);
        Check.gives("5 6 5 7 count 7 5 9 6", "[4] 3 0 4 1");
        Check.gives("5 6 count 6", "[] 1");
        Check.gives("5 6 count 2 2 shape 6 4 5", "[2 2] 1 2 0 1");
        Check.gives("( 0 shape 1 ) count 0 1", "[2] 0 0");
        Check.gives("5 6 count 0 3 shape 1", "[0 3]");
        Check.fails("5 count 5", RANK);
        Check.fails("( 1 2 shape 5 ) count 5", RANK);
    }

    private static void turn() {
        Check.gives("turn 5", "[] 5");
        Check.gives("turn 5 6", "[2] 5 6");
        Check.gives("turn 0 shape 5", "[0]");
        Check.gives("turn 2 3 shape count 6", "[3 2] 0 3 1 4 2 5");
        Check.gives("turn turn 2 3 shape count 6", "[2 3]" + Check.series(0, 5));
        Check.gives("turn 1 4 shape count 4", "[4 1] 0 1 2 3");
        Check.gives("turn 0 4 shape 1", "[4 0]");
        Check.gives("turn 4 0 shape 1", "[0 4]");
        Check.gives("turn 0 0 shape 1", "[0 0]");
        Check.fails("1 turn 1 2", VALENCE);
        Check.fails("( 1 1 shape 1 ) turn 1", VALENCE);
    }

    private static void back() {
        Check.gives("back 5", "[] 5");
        Check.gives("back 1 2 3", "[3] 3 2 1");
        Check.gives("back 1 2 3 4", "[4] 4 3 2 1");
        Check.gives("back 0 shape 1", "[0]");
        Check.gives("back 2 3 shape count 6", "[2 3] 2 1 0 5 4 3");
        Check.gives("back 3 2 shape count 6", "[3 2] 1 0 3 2 5 4");
        Check.gives("back 3 0 shape 1", "[3 0]");
        Check.gives("back 0 3 shape 1", "[0 3]");
        Check.gives("0 back 1 2 3", "[3] 1 2 3");
        Check.gives("1 back 1 2 3", "[3] 2 3 1");
        Check.gives("5 back 1 2 3", "[3] 3 1 2");
        Check.gives("( - 1 ) back 1 2 3", "[3] 3 1 2");
        Check.gives("( - 7 ) back 1 2 3", "[3] 3 1 2");
        Check.gives("1 back 2 3 shape count 6", "[2 3] 1 2 0 4 5 3");
        Check.gives("1 back 3 2 shape count 6", "[3 2] 1 0 3 2 5 4");
        Check.gives("3 back 5", "[] 5");
        Check.gives("3 back 0 shape 5", "[0]");
        Check.gives("3 back 2 0 shape 5", "[2 0]");
        Check.gives("3 back 0 2 shape 5", "[0 2]");
        // 2147483647 modulo 3 is 1, -2147483648 modulo 3 is 1: both stay so for i above 0.
        ArrayWords x = Check.with(MAX, MIN);
        Check.gives(x, "a back 1 2 3", "[3] 2 3 1");
        Check.gives(x, "b back 1 2 3", "[3] 2 3 1");
        Check.gives(x, "a back 1 2 3 4 5", "[5] 3 4 5 1 2");
        Check.gives(x, "b back 1 2 3 4 5", "[5] 3 4 5 1 2");
        Check.fails("1 2 back 1 2", RANK);
        Check.fails("( 1 shape 1 ) back 1 2", RANK);
        Check.fails("( 1 shape 1 ) back 1", RANK);
        Check.fails("( 1 1 shape 1 ) back 1", RANK);
    }

    private static void take() {
        Check.gives("take 5", "[] 5");
        Check.gives("take 6 7", "[] 6");
        Check.gives("take 2 2 shape 8 9", "[] 8");
        Check.gives("take 0 shape 8", "[] 0");
        Check.gives("take 0 3 shape 8", "[] 0");
        Check.gives("take 3 0 shape 8", "[] 0");
        Check.gives("2 take 1 2 3", "[2] 1 2");
        Check.gives("( - 2 ) take 1 2 3", "[2] 2 3");
        Check.gives("0 take 1 2 3", "[0]");
        Check.gives("5 take 1 2 3", "[5] 1 2 3 0 0");
        Check.gives("( - 5 ) take 1 2 3", "[5] 0 0 1 2 3");
        Check.gives("3 take 4", "[3] 4 0 0");
        Check.gives("( - 3 ) take 4", "[3] 0 0 4");
        Check.gives("1 take 4", "[1] 4");
        Check.gives("0 take 4", "[0]");
        Check.gives("2 take 0 shape 4", "[2] 0 0");
        Check.gives("( 9 * 4 ) take 1 + count 9 * 4", "[36]" + Check.series(1, 36));
        Check.gives("( - 9 * 4 ) take 1 + count 9 * 4", "[36]" + Check.series(1, 36));
        Check.gives("+ / ( 9 * 4 ) take 7", "[] 7");
        Check.gives("1 take 2 3 shape count 6", "[1 3] 0 1 2");
        Check.gives("( - 1 ) take 2 3 shape count 6", "[1 3] 3 4 5");
        Check.gives("3 take 2 3 shape 1", "[3 3] 1 1 1 1 1 1 0 0 0");
        Check.gives("( - 3 ) take 2 3 shape 1", "[3 3] 0 0 0 1 1 1 1 1 1");
        Check.gives("0 take 2 3 shape 1", "[0 3]");
        Check.gives("6 take 6 6 shape 1 + count 9 * 4", "[6 6]" + Check.series(1, 36));
        Check.gives("( - 6 ) take 6 6 shape 1 + count 9 * 4", "[6 6]" + Check.series(1, 36));
        Check.gives("2 take 0 3 shape 1", "[2 3] 0 0 0 0 0 0");
        Check.gives("( - 2 ) take 0 3 shape 1", "[2 3] 0 0 0 0 0 0");
        Check.gives("2 take 3 0 shape 1", "[2 0]");
        Check.gives("6 take 3 0 shape 1", "[6 0]");
        Check.fails("( 1 shape 1 ) take 1 2", RANK);
        Check.fails("( 1 1 shape 1 ) take 1 2", RANK);
        Check.fails("( 1 shape 7 ) take 1 1 shape 1", RANK);
        Check.fails("( 1 + 9 * 4 ) take 1 2", DOMAIN);
        Check.fails("( - 1 + 9 * 4 ) take 1 2", DOMAIN);
        Check.fails("( 1 + 9 * 4 ) take 1", DOMAIN);
        Check.fails("7 take 1 1 shape 1", DOMAIN);
        Check.fails("( - 7 ) take 1 1 shape 1", DOMAIN);
        ArrayWords x = Check.with(MIN, MAX);
        Check.fails(x, "a take 1 2", DOMAIN);
        Check.fails(x, "b take 1 2", DOMAIN);
        Check.fails(x, "a take 1 1 shape 1", DOMAIN);
        Check.fails(x, "b take 1 1 shape 1", DOMAIN);
    }

    private static void drop() {
        Check.gives("1 drop 1 2 3", "[2] 2 3");
        Check.gives("( - 1 ) drop 1 2 3", "[2] 1 2");
        Check.gives("0 drop 1 2 3", "[3] 1 2 3");
        Check.gives("3 drop 1 2 3", "[0]");
        Check.gives("4 drop 1 2 3", "[0]");
        Check.gives("( - 3 ) drop 1 2 3", "[0]");
        Check.gives("( - 4 ) drop 1 2 3", "[0]");
        Check.gives("0 drop 5", "[1] 5");
        Check.gives("1 drop 5", "[0]");
        Check.gives("1 drop 0 shape 5", "[0]");
        Check.gives("1 drop 3 2 shape count 6", "[2 2] 2 3 4 5");
        Check.gives("( - 1 ) drop 3 2 shape count 6", "[2 2] 0 1 2 3");
        Check.gives("0 drop 3 2 shape count 6", "[3 2]" + Check.series(0, 5));
        Check.gives("3 drop 3 2 shape 1", "[0 2]");
        Check.gives("9 drop 3 2 shape 1", "[0 2]");
        Check.gives("( - 9 ) drop 3 2 shape 1", "[0 2]");
        Check.gives("1 drop 0 2 shape 1", "[0 2]");
        Check.gives("1 drop 3 0 shape 1", "[2 0]");
        Check.gives("( - 1 ) drop 3 0 shape 1", "[2 0]");
        ArrayWords x = Check.with(MIN, MAX);
        Check.gives(x, "a drop 1 2 3", "[0]");
        Check.gives(x, "b drop 1 2 3", "[0]");
        Check.gives(x, "a drop 3 2 shape 1", "[0 2]");
        Check.gives(x, "b drop 3 2 shape 1", "[0 2]");
        Check.fails("drop 1 2", VALENCE);
        Check.fails("( 1 shape 1 ) drop 1 2", RANK);
        Check.fails("( 1 1 shape 1 ) drop 1 2", RANK);
    }

    private static void join() {
        Check.gives("join 5", "[1] 5");
        Check.gives("join 5 6", "[2] 5 6");
        Check.gives("join 2 2 shape 5 6 7 8", "[4] 5 6 7 8");
        Check.gives("join 0 3 shape 5", "[0]");
        Check.gives("join 6 6 shape count 9 * 4", "[36]" + Check.series(0, 35));
        Check.gives("1 2 join 3 4 5", "[5] 1 2 3 4 5");
        Check.gives("1 join 3 4", "[3] 1 3 4");
        Check.gives("3 4 join 1", "[3] 3 4 1");
        Check.gives("1 join 2", "[2] 1 2");
        Check.gives("( 0 shape 1 ) join 2", "[1] 2");
        Check.gives("( 0 shape 1 ) join 0 shape 1", "[0]");
        Check.gives("( count 9 * 3 ) join 9 * 3 + 0 * count 9", "[36]" + Check.series(0, 26) + " 27".repeat(9));
        Check.gives("( 2 2 shape count 4 ) join 2 3 shape 9", "[2 5] 0 1 9 9 9 2 3 9 9 9");
        Check.gives("( 6 3 shape 1 ) join 6 3 shape 1", "[6 6]" + " 1".repeat(36));
        Check.gives("( 2 0 shape 1 ) join 2 3 shape 4", "[2 3] 4 4 4 4 4 4");
        Check.gives("( 2 3 shape 4 ) join 2 0 shape 1", "[2 3] 4 4 4 4 4 4");
        Check.gives("( 0 2 shape 1 ) join 0 4 shape 1", "[0 6]");
        Check.gives("( 3 0 shape 1 ) join 3 0 shape 1", "[3 0]");
        Check.fails("1 join 1 1 shape 1", RANK);
        Check.fails("( 1 1 shape 1 ) join 1 2", RANK);
        Check.fails("( 1 1 shape 1 ) join 1", RANK);
        Check.fails("1 2 join 1 2 shape 1", RANK);
        Check.fails("( count 9 * 4 ) join 1", LIMIT);
        Check.fails("1 join count 9 * 4", LIMIT);
        Check.fails("( 2 3 shape 1 ) join 3 3 shape 1", LENGTH);
        Check.fails("( 2 6 shape 1 ) join 3 3 shape 1", LENGTH);
        Check.fails("( 2 3 shape 1 ) join 2 4 shape 1", LIMIT);
        Check.fails("( 0 3 shape 1 ) join 0 4 shape 1", LIMIT);
    }

    private static void pick() {
        Check.gives("1 pick 5 6 7", "[] 6");
        Check.gives("0 pick 5 6 7", "[] 5");
        Check.gives("2 pick 5 6 7", "[] 7");
        Check.gives("1 pick 2 3 shape count 6", "[3] 3 4 5");
        Check.gives("1 pick 2 0 shape 1", "[0]");
        Check.gives("2 0 2 pick 5 6 7", "[3] 7 5 7");
        Check.gives("( 1 shape 2 ) pick 5 6 7", "[1] 7");
        Check.gives("1 0 1 pick 2 2 shape count 4", "[3 2] 2 3 0 1 2 3");
        Check.gives("( 1 shape 1 ) pick 2 2 shape count 4", "[1 2] 2 3");
        Check.gives("( 0 shape 1 ) pick 2 2 shape 1", "[0 2]");
        Check.gives("( 0 shape 1 ) pick 0 shape 1", "[0]");
        Check.gives("( 0 shape 1 ) pick 0 5 shape 1", "[0 5]");
        Check.gives("1 1 1 pick 2 0 shape 1", "[3 0]");
        Check.gives("( 0 * count 9 * 4 ) pick 5 6", "[36]" + " 5".repeat(36));
        Check.gives("0 0 0 0 0 0 pick 1 2 shape 5 6", "[6 2]" + " 5 6".repeat(6));
        Check.gives("( back count 6 ) pick 6 6 shape 6", "[6 6]" + " 6".repeat(36));
        Check.fails("( 1 1 shape 0 ) pick 1 2", RANK);
        Check.fails("0 pick 5", RANK);
        Check.fails("( 0 shape 0 ) pick 5", RANK);
        Check.fails("( 1 1 shape 9 ) pick 5", RANK);
        Check.fails("3 pick 5 6 7", DOMAIN);
        Check.fails("( - 1 ) pick 5 6 7", DOMAIN);
        Check.fails("0 1 3 pick 5 6 7", DOMAIN);
        Check.fails("( - 0 1 0 ) pick 5 6 7", DOMAIN);
        Check.fails("2 pick 2 3 shape 1", DOMAIN);
        Check.fails("0 pick 0 shape 1", DOMAIN);
        Check.fails("0 pick 0 3 shape 1", DOMAIN);
        Check.fails("0 0 0 0 0 0 9 pick 1 2 shape 5 6", DOMAIN);
        Check.fails("0 0 0 0 0 0 0 pick 1 2 shape 5 6", LIMIT);
        Check.fails("0 0 0 0 0 0 0 pick 1 0 shape 5 6", LIMIT);
        Check.fails("pick 1 2", VALENCE);
        Check.fails("pick 1", VALENCE);
        Check.fails(Check.with(MIN), "a pick 1 2", DOMAIN);
        Check.fails(Check.with(MAX), "a pick 2 2 shape 1", DOMAIN);
    }

    private static void rise() {
        Check.gives("rise 3 1 2", "[3] 1 2 0");
        Check.gives("rise 3 1 3 1 2", "[5] 1 3 4 0 2");
        Check.gives("rise 0 shape 1", "[0]");
        Check.gives("rise 1 shape 1", "[1] 0");
        Check.gives("rise 9 * 4 shape 1", "[4] 0 1 2 3");
        Check.gives("rise - count 9 * 4", "[36]" + Check.series(35, 0));
        Check.fails("rise 1", RANK);
        Check.fails("rise 1 3 shape 1", RANK);
        Check.fails("1 rise 1 2", VALENCE);
        Check.fails("1 rise 1", VALENCE);
        ArrayWords x = Check.with(MIN, MAX);
        Check.gives(x, "rise b join 0 join a", "[3] 2 1 0");
    }
}
