/** The bounds that the document names for its functions, sentence by sentence. */
public final class FunctionBoundsTest {
    private static final int VALENCE = ArrayWords.VALENCE;
    private static final int RANK = ArrayWords.RANK;
    private static final int LENGTH = ArrayWords.LENGTH;
    private static final int DOMAIN = ArrayWords.DOMAIN;
    private static final int LIMIT = ArrayWords.LIMIT;

    private static final String[] SCALARS = {"+", "-", "*", "max", "min", "=", "<", "rest"};
    // Of each rank, with no number, one, some and as many as can be.
    private static final String[] ARRAYS = {"[] 4", "[0]", "[1] 4", "[36] 1..36", "[0 0]", "[0 6]", "[6 0]", "[1 1] 4",
        "[2 3] 1..6", "[6 6] 1..36"};
    private static final String[] NOT_RANK_0 = {"[0]", "[1] 0", "[1] 99", "[2] 0 0", "[36] 0x36", "[0 0]", "[0 1]", "[1 0]",
        "[1 1] 0", "[1 1] 99", "[6 6] 0x36"};
    private static final String[] RANK_2 = {"[0 0]", "[0 1]", "[1 0]", "[1 1] 0", "[1 1] 99", "[1 2] 1 1", "[6 6] 0x36"};

    public static void main(String[] args) {
        rest();
        comparisons();
        scalarShapes();
        scalarAlone();
        foldOfRank0();
        foldOfVector();
        foldOfMatrix();
        foldWithLeft();
        scanOfRank0();
        scanOfVector();
        scanOfMatrix();
        scanWithLeft();
        outerRank();
        outerLimit();
        outerShape();
        outerAlone();
        innerRank();
        innerLength();
        innerShape();
        innerNumbers();
        innerAlone();
        shapeAlone();
        shapeRank();
        shapeLength();
        shapeDomain();
        shapeOfNone();
        shapeRepeats();
        countAlone();
        countPlaces();
        turn();
        turnWithLeft();
        backAlone();
        backWithLeft();
        takeAlone();
        takeRank();
        takeOfVector();
        takeOfMatrix();
        dropAlone();
        dropRank();
        dropOfVector();
        dropOfMatrix();
        joinAlone();
        joinRank();
        joinOfVectors();
        joinLength();
        joinOfMatrices();
        pickAlone();
        pickRank();
        pickDomain();
        pickOfOne();
        pickOfVector();
        rise();
        riseWithLeft();
        Check.end();
    }

    /** The function, with every one of these arrays left of every one of those, must end with the code. */
    private static void refusesAll(String[] lefts, String function, String[] rights, int code) {
        for (String left : lefts) {
            for (String right : rights) {
                Bounds.refuses("{" + left + "} " + function + " {" + right + "}", code);
            }
        }
    }

    private static void refusesAlone(String function, String[] rights, int code) {
        for (String right : rights) {
            Bounds.refuses(function + " {" + right + "}", code);
        }
    }

    private static void rest() {
        Check.sentence("x rest y (y if x is 0, else the number from 0 to size of x - 1 that differs from y by a multiple of x, "
                + "x being taken without its sign; for the least int 2 to the power 31)");
        Bounds.gives("0 rest {[5] MIN -1 0 1 MAX}", "[5] MIN -1 0 1 MAX");
        Bounds.gives("1 rest {[5] MIN -1 0 1 MAX}", "[5] 0x5");
        Bounds.gives("{[] -1} rest {[5] MIN -1 0 1 MAX}", "[5] 0x5");
        Bounds.gives("2 rest {[5] MIN -1 0 1 MAX}", "[5] 0 1 0 1 1");
        Bounds.gives("5 rest {[9] -6 -5 -4 -1 0 1 4 5 6}", "[9] 4 0 1 4 0 1 4 0 1");
        Bounds.gives("{[] -5} rest {[9] -6 -5 -4 -1 0 1 4 5 6}", "[9] 4 0 1 4 0 1 4 0 1");
        String ends = "{[6] MIN -2147483647 -1 0 2147483646 MAX}";
        Bounds.gives("{[] MAX} rest " + ends, "[6] 2147483646 0 2147483646 0 2147483646 0");
        Bounds.gives("{[] -2147483647} rest " + ends, "[6] 2147483646 0 2147483646 0 2147483646 0");
        Bounds.gives("{[] MIN} rest " + ends, "[6] 0 1 MAX 0 2147483646 MAX");
    }

    private static void comparisons() {
        Check.sentence("the greater, the lesser, = and < (1 if it holds, else 0)");
        String ends = "{[5] MIN -1 0 1 MAX}";
        Bounds.gives("0 max " + ends, "[5] 0 0 0 1 MAX");
        Bounds.gives("0 min " + ends, "[5] MIN -1 0 0 0");
        Bounds.gives("0 = " + ends, "[5] 0 0 1 0 0");
        Bounds.gives("0 < " + ends, "[5] 0 0 0 1 1");
        Bounds.gives(ends + " < 0", "[5] 1 1 0 0 0");
        Bounds.gives("{[] MIN} max " + ends, "[5] MIN -1 0 1 MAX");
        Bounds.gives("{[] MIN} min " + ends, "[5] MIN MIN MIN MIN MIN");
        Bounds.gives("{[] MIN} = " + ends, "[5] 1 0 0 0 0");
        Bounds.gives("{[] MIN} < " + ends, "[5] 0 1 1 1 1");
        Bounds.gives("{[] MAX} max " + ends, "[5] MAX MAX MAX MAX MAX");
        Bounds.gives("{[] MAX} min " + ends, "[5] MIN -1 0 1 MAX");
        Bounds.gives("{[] MAX} = " + ends, "[5] 0 0 0 0 1");
        Bounds.gives("{[] MAX} < " + ends, "[5] 0x5");
    }

    private static void scalarShapes() {
        Check.sentence("X f Y: if both have the same shape, number by number; if one has rank 0, it with every number of the "
                + "other; else RANK if the ranks differ, LENGTH.");
        for (String array : ARRAYS) {
            String zeros = array.substring(0, array.indexOf(']') + 1) + " 0x" + sizeOf(array);
            Bounds.gives("{" + array + "} + {" + zeros + "}", array);
            Bounds.gives("{" + zeros + "} + {" + array + "}", array);
            Bounds.gives("{" + array + "} + 0", array);
            Bounds.gives("0 + {" + array + "}", array);
        }
        Bounds.gives("{[36] 1..36} - {[36] 0..35}", "[36] 1x36");
        Bounds.gives("{[6 6] 1..36} - {[6 6] 0..35}", "[6 6] 1x36");
        Bounds.gives("{[1] 5} - 3", "[1] 2");
        Bounds.gives("5 - {[1 1] 3}", "[1 1] 2");
        Bounds.gives("5 - {[36] 0..35}", "[36] 5..-30");
        Bounds.gives("{[6 6] 0..35} - 5", "[6 6] -5..30");
        for (String f : SCALARS) {
            refusesAll(new String[] {"[0]", "[1] 2", "[36] 1x36"}, f, new String[] {"[2] 1 2", "[35] 1x35"}, LENGTH);
            refusesAll(new String[] {"[2] 1 2", "[35] 1x35"}, f, new String[] {"[0]", "[1] 2", "[36] 1x36"}, LENGTH);
            refusesAll(new String[] {"[6 5] 1x30", "[5 6] 1x30", "[0 6]", "[6 0]"}, f, new String[] {"[6 6] 1x36", "[0 5]",
                "[5 0]", "[0 0]", "[1 1] 1"}, LENGTH);
            refusesAll(new String[] {"[0]", "[1] 1", "[6] 1x6", "[36] 1x36"}, f, RANK_2, RANK);
            refusesAll(RANK_2, f, new String[] {"[0]", "[1] 1", "[6] 1x6", "[36] 1x36"}, RANK);
        }
    }

    private static int sizeOf(String array) {
        String whole = Bounds.array(array);
        int count = 0;
        for (int i = whole.indexOf(']'); i < whole.length(); i++) {
            count += whole.charAt(i) == ' ' ? 1 : 0;
        }
        return count;
    }

    private static void scalarAlone() {
        Check.sentence("f Y: 0 f Y, but 1 * Y for *.");
        String ends = " {[5] MIN -1 0 1 MAX}";
        Bounds.gives("+" + ends, "[5] MIN -1 0 1 MAX");
        Bounds.gives("-" + ends, "[5] MIN 1 0 -1 -2147483647");
        Bounds.gives("*" + ends, "[5] MIN -1 0 1 MAX");
        Bounds.gives("max" + ends, "[5] 0 0 0 1 MAX");
        Bounds.gives("min" + ends, "[5] MIN -1 0 0 0");
        Bounds.gives("=" + ends, "[5] 0 0 1 0 0");
        Bounds.gives("<" + ends, "[5] 0 0 0 1 1");
        Bounds.gives("rest" + ends, "[5] MIN -1 0 1 MAX");
        for (String array : ARRAYS) {
            Bounds.gives("+ {" + array + "}", array);
            Bounds.gives("* {" + array + "}", array);
            Bounds.gives("rest {" + array + "}", array);
        }
    }

    private static void foldOfRank0() {
        Check.sentence("scalar f / Y: rank 0: Y.");
        for (String f : SCALARS) {
            for (String number : new String[] {"MIN", "-1", "0", "1", "MAX"}) {
                Bounds.gives(f + " / {[] " + number + "}", "[] " + number);
            }
        }
    }

    private static void foldOfVector() {
        Check.sentence("A vector: y0 f (y1 f (y2 ..)), the last number alone being itself, for none 0 (1 for *).");
        for (String f : SCALARS) {
            Bounds.gives(f + " / {[0]}", f.equals("*") ? "[] 1" : "[] 0");
            Bounds.gives(f + " / {[1] -7}", "[] -7");
            Bounds.gives(f + " / {[1] MIN}", "[] MIN");
        }
        Bounds.gives("- / {[2] 9 4}", "[] 5");
        Bounds.gives("< / {[2] 4 9}", "[] 1");
        Bounds.gives("rest / {[2] 4 9}", "[] 1");
        Bounds.gives("rest / {[3] 7 5 8}", "[] 3");
        Bounds.gives("+ / {[36] 1..36}", "[] 666");
        Bounds.gives("- / {[36] 1..36}", "[] -18");
        Bounds.gives("- / {[35] 1..35}", "[] 18");
        Bounds.gives("max / {[36] 0x35 5}", "[] 5");
        Bounds.gives("max / {[36] 5 0x35}", "[] 5");
        Bounds.gives("max / {[2] MIN -1}", "[] -1");
        Bounds.gives("min / {[2] 1 MAX}", "[] 1");
        Bounds.gives("* / {[36] 2x30 1x6}", "[] 1073741824");
        Bounds.gives("* / {[36] 2x31 1x5}", "[] MIN");
        Bounds.gives("* / {[36] 2x32 1x4}", "[] 0");
        Bounds.gives("+ / {[2] MAX 1}", "[] MIN");
    }

    private static void foldOfMatrix() {
        Check.sentence("A matrix: the vector of this for its rows.");
        for (String f : SCALARS) {
            Bounds.gives(f + " / {[0 0]}", "[0]");
            Bounds.gives(f + " / {[0 1]}", "[0]");
            Bounds.gives(f + " / {[0 6]}", "[0]");
            Bounds.gives(f + " / {[1 0]}", f.equals("*") ? "[1] 1" : "[1] 0");
            Bounds.gives(f + " / {[6 0]}", f.equals("*") ? "[6] 1x6" : "[6] 0x6");
            Bounds.gives(f + " / {[1 1] -7}", "[1] -7");
            Bounds.gives(f + " / {[6 1] -7..-2}", "[6] -7..-2");
        }
        Bounds.gives("- / {[1 6] 1..6}", "[1] -3");
        Bounds.gives("- / {[6 6] 1..36}", "[6] -3x6");
        Bounds.gives("+ / {[6 6] 0..35}", "[6] 15 51 87 123 159 195");
        Bounds.gives("- / {[2 5] 1..10}", "[2] 3 8");
    }

    private static void foldWithLeft() {
        Check.sentence("X f / Y: VALENCE.");
        for (String f : SCALARS) {
            refusesAll(ARRAYS, f + " /", ARRAYS, VALENCE);
        }
    }

    private static void scanOfRank0() {
        Check.sentence("f \\ Y: rank 0: Y.");
        for (String f : SCALARS) {
            for (String number : new String[] {"MIN", "-1", "0", "1", "MAX"}) {
                Bounds.gives(f + " \\ {[] " + number + "}", "[] " + number);
            }
        }
    }

    private static void scanOfVector() {
        Check.sentence("A vector: the vector of f / of its first 1, 2, .. numbers.");
        for (String f : SCALARS) {
            Bounds.gives(f + " \\ {[0]}", "[0]");
            Bounds.gives(f + " \\ {[1] -7}", "[1] -7");
        }
        Bounds.gives("- \\ {[2] 9 4}", "[2] 9 5");
        Bounds.gives("+ \\ {[36] 1x36}", "[36] 1..36");
        Bounds.gives("- \\ {[36] 1x36}", "[36]" + " 1 0".repeat(18));
        Bounds.gives("+ \\ {[36] MAX 1 0x34}", "[36] MAX MIN" + " MIN".repeat(34));
    }

    private static void scanOfMatrix() {
        Check.sentence("A matrix: with this for its rows.");
        for (String f : SCALARS) {
            for (String array : new String[] {"[0 0]", "[0 1]", "[0 6]", "[1 0]", "[6 0]", "[1 1] -7", "[6 1] -7..-2"}) {
                Bounds.gives(f + " \\ {" + array + "}", array);
            }
        }
        Bounds.gives("+ \\ {[6 6] 1x36}", "[6 6]" + " 1 2 3 4 5 6".repeat(6));
        Bounds.gives("- \\ {[1 6] 1x6}", "[1 6] 1 0 1 0 1 0");
        Bounds.gives("- \\ {[2 3] 9 4 2 1 2 5}", "[2 3] 9 5 7 1 -1 4");
    }

    private static void scanWithLeft() {
        Check.sentence("X f \\ Y: VALENCE.");
        for (String f : SCALARS) {
            refusesAll(ARRAYS, f + " \\", ARRAYS, VALENCE);
        }
    }

    private static void outerRank() {
        Check.sentence("X outer f Y: RANK if the ranks are together above 2");
        Bounds.gives("5 outer - 3", "[] 2");
        Bounds.gives("5 outer - {[1] 3}", "[1] 2");
        Bounds.gives("{[1] 5} outer - 3", "[1] 2");
        Bounds.gives("{[1] 5} outer - {[1] 3}", "[1 1] 2");
        Bounds.gives("5 outer - {[1 1] 3}", "[1 1] 2");
        Bounds.gives("{[1 1] 5} outer - 3", "[1 1] 2");
        String[] vectors = {"[0]", "[1] 1", "[6] 1..6", "[7] 1..7", "[36] 1..36"};
        for (String f : SCALARS) {
            refusesAll(vectors, "outer " + f, RANK_2, RANK);
            refusesAll(RANK_2, "outer " + f, vectors, RANK);
            refusesAll(RANK_2, "outer " + f, RANK_2, RANK);
        }
    }

    private static void outerLimit() {
        Check.sentence("LIMIT if the result would not be an array as above");
        Bounds.gives("{[6] 0 6 12 18 24 30} outer + {[6] 0..5}", "[6 6] 0..35");
        Bounds.gives("{[6] 0..5} outer + {[1] 1}", "[6 1] 1..6");
        Bounds.gives("{[1] 1} outer + {[6] 0..5}", "[1 6] 1..6");
        Bounds.gives("{[0]} outer + {[6] 0..5}", "[0 6]");
        Bounds.gives("{[6] 0..5} outer + {[0]}", "[6 0]");
        Bounds.gives("{[0]} outer + {[0]}", "[0 0]");
        Bounds.gives("1 outer + {[36] 0..35}", "[36] 1..36");
        Bounds.gives("{[36] 0..35} outer + 1", "[36] 1..36");
        Bounds.gives("1 outer + {[6 6] 0..35}", "[6 6] 1..36");
        Bounds.gives("{[6 6] 0..35} outer + 1", "[6 6] 1..36");
        String[] shortEnough = {"[0]", "[1] 1", "[6] 1..6"};
        String[] tooLong = {"[7] 1..7", "[12] 1..12", "[36] 1..36"};
        for (String f : SCALARS) {
            refusesAll(shortEnough, "outer " + f, tooLong, LIMIT);
            refusesAll(tooLong, "outer " + f, shortEnough, LIMIT);
            refusesAll(tooLong, "outer " + f, tooLong, LIMIT);
        }
    }

    private static void outerShape() {
        Check.sentence("the shape is that of X followed by that of Y, the numbers x f y, those of X's first number first");
        Bounds.gives("{[2] 10 20} outer - {[3] 1 2 3}", "[2 3] 9 8 7 19 18 17");
        Bounds.gives("{[3] 10 20 30} outer - {[2] 1 2}", "[3 2] 9 8 19 18 29 28");
        Bounds.gives("{[2 3] 1..6} outer - {[] 10}", "[2 3] -9..-4");
        Bounds.gives("{[] 10} outer - {[2 3] 1..6}", "[2 3] 9..4");
        for (String array : new String[] {"[0]", "[0 0]", "[0 6]", "[6 0]"}) {
            Bounds.gives("{" + array + "} outer - 1", array);
            Bounds.gives("1 outer - {" + array + "}", array);
        }
        Bounds.gives("{[] MAX} outer + {[2] 0 1}", "[2] MAX MIN");
    }

    private static void outerAlone() {
        Check.sentence("outer f Y: VALENCE.");
        for (String f : SCALARS) {
            refusesAlone("outer " + f, ARRAYS, VALENCE);
        }
    }

    private static void innerRank() {
        Check.sentence("X f . g Y: RANK if X or Y has rank 0");
        String[] rank0 = {"[] 0", "[] 1"};
        for (String f : SCALARS) {
            refusesAll(rank0, f + " . *", ARRAYS, RANK);
            refusesAll(ARRAYS, "+ . " + f, rank0, RANK);
        }
        Bounds.gives("{[1] 3} + . * {[1] 4}", "[] 12");
        Bounds.gives("{[1] 3} + . * {[1 1] 4}", "[1] 12");
        Bounds.gives("{[1 1] 3} + . * {[1] 4}", "[1] 12");
    }

    private static void innerLength() {
        Check.sentence("LENGTH if X's last length is not Y's first");
        Bounds.gives("{[36] 1..36} + . * {[36] 1x36}", "[] 666");
        Bounds.gives("{[6] 1..6} + . * {[6 1] 1x6}", "[1] 21");
        Bounds.gives("{[1 6] 1..6} + . * {[6] 1x6}", "[1] 21");
        Bounds.gives("{[6 6] 1..36} + . * {[6 6] 1 0x6 1 0x6 1 0x6 1 0x6 1 0x6 1}", "[6 6] 1..36");
        String[] lefts = {"[0]", "[5] 1..5", "[7] 1..7", "[36] 1..36", "[6 0]", "[6 5] 1..30", "[0 5]"};
        refusesAll(lefts, "+ . *", new String[] {"[6] 1..6", "[6 0]", "[6 5] 1..30", "[6 6] 1..36", "[1] 1", "[1 0]"}, LENGTH);
        String[] rights = {"[0]", "[5] 1..5", "[7] 1..7", "[36] 1..36", "[0 6]", "[5 6] 1..30", "[5 0]"};
        refusesAll(new String[] {"[6] 1..6", "[0 6]", "[5 6] 1..30", "[6 6] 1..36", "[1] 1", "[0 1]"}, "+ . *", rights, LENGTH);
        refusesAll(new String[] {"[36] 1..36"}, "+ . *", new String[] {"[35] 1..35"}, LENGTH);
        refusesAll(new String[] {"[35] 1..35"}, "+ . *", new String[] {"[36] 1..36"}, LENGTH);
    }

    private static void innerShape() {
        Check.sentence("the shape is that of X without its last followed by that of Y without its first");
        Bounds.gives("{[0]} + . * {[0]}", "[] 0");
        Bounds.gives("{[0]} + . * {[0 0]}", "[0]");
        Bounds.gives("{[0]} + . * {[0 6]}", "[6] 0x6");
        Bounds.gives("{[6] 1..6} + . * {[6 0]}", "[0]");
        Bounds.gives("{[0 0]} + . * {[0]}", "[0]");
        Bounds.gives("{[6 0]} + . * {[0]}", "[6] 0x6");
        Bounds.gives("{[0 6]} + . * {[6] 1..6}", "[0]");
        Bounds.gives("{[0 0]} + . * {[0 0]}", "[0 0]");
        Bounds.gives("{[6 0]} + . * {[0 6]}", "[6 6] 0x36");
        Bounds.gives("{[0 6]} + . * {[6 0]}", "[0 0]");
        Bounds.gives("{[0 6]} + . * {[6 6] 1..36}", "[0 6]");
        Bounds.gives("{[6 6] 1..36} + . * {[6 0]}", "[6 0]");
        Bounds.gives("{[6 1] 1..6} + . * {[1 6] 1x6}", "[6 6] 1x6 2x6 3x6 4x6 5x6 6x6");
        Bounds.gives("{[1 6] 1..6} + . * {[6 1] 1x6}", "[1 1] 21");
    }

    private static void innerNumbers() {
        Check.sentence("the numbers are f / of (the row of X) g (the column of Y) (a vector is its own row or column)");
        for (String f : SCALARS) {
            Bounds.gives("{[0]} " + f + " . + {[0]}", f.equals("*") ? "[] 1" : "[] 0");
            Bounds.gives("{[2 0]} " + f + " . + {[0 3]}", f.equals("*") ? "[2 3] 1x6" : "[2 3] 0x6");
            Bounds.gives("{[1] 5} " + f + " . - {[1] 9}", "[] -4");
        }
        Bounds.gives("{[36] 1..36} - . - {[36] 0x36}", "[] -18");
        Bounds.gives("{[2] 9 8} - . - {[2] 3 1}", "[] -1");
        Bounds.gives("{[2] MAX 1} + . * {[2] 1 1}", "[] MIN");
        Bounds.gives("{[2] 10 20} + . - {[2 3] 1..6}", "[3] 25 23 21");
        Bounds.gives("{[3 2] 1..6} + . * {[2] 10 1}", "[3] 12 34 56");
        Bounds.gives("{[2 3] 1..6} - . * {[3 2] 1..6}", "[2 2] 10 12 19 24");
    }

    private static void innerAlone() {
        Check.sentence("f . g Y: VALENCE.");
        for (String f : SCALARS) {
            refusesAlone(f + " . *", ARRAYS, VALENCE);
            refusesAlone("+ . " + f, ARRAYS, VALENCE);
        }
    }

    private static void shapeAlone() {
        Check.sentence("shape Y: its shape.");
        Bounds.gives("shape {[] 5}", "[0]");
        Bounds.gives("shape {[0]}", "[1] 0");
        Bounds.gives("shape {[1] 5}", "[1] 1");
        Bounds.gives("shape {[36] 1..36}", "[1] 36");
        for (int r = 0; r <= 6; r++) {
            for (int c = 0; c <= 6; c++) {
                Bounds.gives("shape {[" + r + " " + c + "] 7x" + r * c + "}", "[2] " + r + " " + c);
            }
        }
    }

    private static void shapeRank() {
        Check.sentence("X shape Y: RANK if X has rank 2");
        refusesAll(RANK_2, "shape", ARRAYS, RANK);
        refusesAll(new String[] {"[1 3] 1 1 1", "[1 1] -1"}, "shape", ARRAYS, RANK);
    }

    private static void shapeLength() {
        Check.sentence("LENGTH if X has more than two numbers");
        Bounds.gives("{[0]} shape 7", "[] 7");
        Bounds.gives("{[1] 1} shape 7", "[1] 7");
        Bounds.gives("{[2] 1 1} shape 7", "[1 1] 7");
        refusesAll(new String[] {"[3] 1 1 1", "[3] 0 0 0", "[3] -1 7 37", "[36] 1x36"}, "shape", ARRAYS, LENGTH);
    }

    private static void shapeDomain() {
        Check.sentence("DOMAIN if a number of X is below 0 or above 6 (36 if X has one number)");
        for (int n : new int[] {0, 1, 6, 7, 35, 36}) {
            Bounds.gives("{[] " + n + "} shape {[36] 1..36}", "[" + n + "]" + (n == 0 ? "" : " 1.." + n));
            Bounds.gives("{[1] " + n + "} shape {[36] 1..36}", "[" + n + "]" + (n == 0 ? "" : " 1.." + n));
        }
        for (String n : new String[] {"MIN", "-1", "37", "38", "MAX"}) {
            refusesAll(new String[] {"[] " + n, "[1] " + n}, "shape", ARRAYS, DOMAIN);
        }
        for (int r = 0; r <= 6; r++) {
            for (int c = 0; c <= 6; c++) {
                String want = "[" + r + " " + c + "]" + (r * c == 0 ? "" : " 1.." + r * c);
                Bounds.gives("{[2] " + r + " " + c + "} shape {[36] 1..36}", want);
            }
        }
        for (String n : new String[] {"MIN", "-1", "7", "8", "36", "MAX"}) {
            for (String other : new String[] {"0", "1", "6", "-1", "7"}) {
                refusesAll(new String[] {"[2] " + n + " " + other, "[2] " + other + " " + n}, "shape", ARRAYS, DOMAIN);
            }
        }
    }

    private static void shapeOfNone() {
        Check.sentence("the array with this shape (rank 0 for a vector X of none)");
        Bounds.gives("{[0]} shape {[] -5}", "[] -5");
        Bounds.gives("{[0]} shape {[36] 1..36}", "[] 1");
        Bounds.gives("{[0]} shape {[6 6] 1..36}", "[] 1");
        Bounds.gives("{[0]} shape {[0]}", "[] 0");
        Bounds.gives("{[0]} shape {[0 6]}", "[] 0");
        Bounds.gives("{[0]} shape {[6 0]}", "[] 0");
    }

    private static void shapeRepeats() {
        Check.sentence("whose ravel is that of Y, repeated again and again, or cut off (0s if Y has no number)");
        Bounds.gives("{[] 36} shape {[36] 1..36}", "[36] 1..36");
        Bounds.gives("{[] 36} shape {[35] 1..35}", "[36] 1..35 1");
        Bounds.gives("{[] 35} shape {[36] 1..36}", "[35] 1..35");
        Bounds.gives("{[] 36} shape {[] -5}", "[36] -5x36");
        Bounds.gives("{[] 36} shape {[6 6] 1..36}", "[36] 1..36");
        Bounds.gives("6 6 shape {[36] 1..36}", "[6 6] 1..36");
        Bounds.gives("6 6 shape {[5 6] 1..30}", "[6 6] 1..30 1..6");
        Bounds.gives("2 3 shape {[5] 1..5}", "[2 3] 1..5 1");
        Bounds.gives("2 3 shape {[7] 1..7}", "[2 3] 1..6");
        for (String none : new String[] {"[0]", "[0 0]", "[0 6]", "[6 0]"}) {
            Bounds.gives("{[] 36} shape {" + none + "}", "[36] 0x36");
            Bounds.gives("6 6 shape {" + none + "}", "[6 6] 0x36");
            Bounds.gives("0 shape {" + none + "}", "[0]");
            Bounds.gives("0 6 shape {" + none + "}", "[0 6]");
            Bounds.gives("6 0 shape {" + none + "}", "[6 0]");
        }
    }

    private static void countAlone() {
        Check.sentence("count Y: RANK if Y's rank is not 0; DOMAIN if it is not 0 to 36; the vector 0, 1, .., Y - 1.");
        refusesAlone("count", NOT_RANK_0, RANK);
        refusesAlone("count", new String[] {"[1] -1", "[1] 37", "[1 1] 37"}, RANK);
        refusesAlone("count", new String[] {"[] MIN", "[] -1", "[] 37", "[] MAX"}, DOMAIN);
        Bounds.gives("count {[] 0}", "[0]");
        Bounds.gives("count {[] 1}", "[1] 0");
        Bounds.gives("count {[] 35}", "[35] 0..34");
        Bounds.gives("count {[] 36}", "[36] 0..35");
    }

    private static void countPlaces() {
        Check.sentence("X count Y: RANK if X's rank is not 1; of Y's shape, for each number the first place at which X has it, "
                + "X's length if none.");
        refusesAll(new String[] {"[] 0", "[] 4"}, "count", ARRAYS, RANK);
        refusesAll(RANK_2, "count", ARRAYS, RANK);
        Bounds.gives("{[0]} count {[] 0}", "[] 0");
        Bounds.gives("{[1] 5} count {[2] 5 6}", "[2] 0 1");
        Bounds.gives("{[36] 1..36} count {[5] 0 1 36 37 -1}", "[5] 36 0 35 36 36");
        Bounds.gives("{[36] 7x36} count {[2] 7 8}", "[2] 0 36");
        Bounds.gives("{[3] MIN MAX MIN} count {[3] MAX MIN 0}", "[3] 1 0 3");
        Bounds.gives("{[35] 1..35} count {[] 36}", "[] 35");
        // None is found, so each shape is full of X's length.
        for (String array : ARRAYS) {
            String shape = array.substring(0, array.indexOf(']') + 1);
            Bounds.gives("{[2] 0 -1} count {" + array + "}", shape + " 2x" + sizeOf(array));
            Bounds.gives("{[0]} count {" + array + "}", shape + " 0x" + sizeOf(array));
        }
    }

    private static void turn() {
        Check.sentence("turn Y: the matrix whose rows are Y's columns; lower ranks: Y.");
        for (String array : new String[] {"[] 5", "[0]", "[1] 5", "[36] 1..36", "[0 0]", "[1 1] 5"}) {
            Bounds.gives("turn {" + array + "}", array);
        }
        Bounds.gives("turn {[1 6] 1..6}", "[6 1] 1..6");
        Bounds.gives("turn {[6 1] 1..6}", "[1 6] 1..6");
        Bounds.gives("turn {[2 3] 1..6}", "[3 2] 1 4 2 5 3 6");
        Bounds.gives("turn {[6 6] 0x30 1..6}", "[6 6] 0x5 1 0x5 2 0x5 3 0x5 4 0x5 5 0x5 6");
        Bounds.gives("turn {[6 5] 1..5 0x25}", "[5 6] 1 0x5 2 0x5 3 0x5 4 0x5 5 0x5");
    }

    private static void turnWithLeft() {
        Check.sentence("X turn Y: VALENCE.");
        refusesAll(ARRAYS, "turn", ARRAYS, VALENCE);
    }

    private static void backAlone() {
        Check.sentence("back Y: each row (a vector being one) in the opposite order; rank 0: Y.");
        for (String array : new String[] {"[] 5", "[0]", "[1] 5", "[0 0]", "[0 6]", "[6 0]", "[1 1] 5", "[6 1] 1..6"}) {
            Bounds.gives("back {" + array + "}", array);
        }
        Bounds.gives("back {[2] 1 2}", "[2] 2 1");
        Bounds.gives("back {[35] 1..35}", "[35] 35..1");
        Bounds.gives("back {[36] 1..36}", "[36] 36..1");
        Bounds.gives("back {[1 6] 1..6}", "[1 6] 6..1");
        Bounds.gives("back {[6 6] 1..36}", "[6 6] 6..1 12..7 18..13 24..19 30..25 36..31");
    }

    private static void backWithLeft() {
        Check.sentence("X back Y: RANK if X's rank is not 0; each row with its number at place (i + X) modulo its length at "
                + "place i; rank 0: Y.");
        refusesAll(NOT_RANK_0, "back", ARRAYS, RANK);
        for (String x : new String[] {"MIN", "-37", "-1", "0", "1", "36", "MAX"}) {
            for (String array : new String[] {"[] 5", "[0]", "[1] 5", "[0 0]", "[0 6]", "[6 0]", "[1 1] 5", "[6 1] 1..6"}) {
                Bounds.gives("{[] " + x + "} back {" + array + "}", array);
            }
        }
        for (int x : new int[] {-37, -36, -35, -7, -6, -5, -1, 0, 1, 5, 6, 7, 35, 36, 37}) {
            Bounds.gives("{[] " + x + "} back {[36] 1..36}", "[36]" + Bounds.turned(x, 1, 36));
            Bounds.gives("{[] " + x + "} back {[5] 1..5}", "[5]" + Bounds.turned(x, 1, 5));
            Bounds.gives("{[] " + x + "} back {[2 6] 1..12}", "[2 6]" + Bounds.turned(x, 1, 6) + Bounds.turned(x, 7, 6));
        }
    }

    private static void takeAlone() {
        Check.sentence("take Y: the first number of Y's ravel (0 if none), rank 0.");
        Bounds.gives("take {[] -5}", "[] -5");
        Bounds.gives("take {[1] -5}", "[] -5");
        Bounds.gives("take {[36] 7..42}", "[] 7");
        Bounds.gives("take {[1 1] -5}", "[] -5");
        Bounds.gives("take {[6 6] 7..42}", "[] 7");
        for (String none : new String[] {"[0]", "[0 0]", "[0 1]", "[1 0]", "[0 6]", "[6 0]"}) {
            Bounds.gives("take {" + none + "}", "[] 0");
        }
    }

    private static void takeRank() {
        Check.sentence("X take Y: RANK if X's rank is not 0");
        refusesAll(NOT_RANK_0, "take", ARRAYS, RANK);
    }

    private static void takeOfVector() {
        Check.sentence("for a vector (rank 0 counts as a vector of one): DOMAIN if X is not -36 to 36; its first X numbers, or "
                + "for X < 0 its last -X, with 0s behind, or before, where it has fewer.");
        String[] vectors = {"[] 5", "[0]", "[1] 5", "[35] 1..35", "[36] 1..36"};
        refusesAll(new String[] {"[] MIN", "[] -37", "[] 37", "[] MAX"}, "take", vectors, DOMAIN);
        Bounds.gives("{[] 36} take {[36] 1..36}", "[36] 1..36");
        Bounds.gives("{[] -36} take {[36] 1..36}", "[36] 1..36");
        Bounds.gives("{[] 35} take {[36] 1..36}", "[35] 1..35");
        Bounds.gives("{[] -35} take {[36] 1..36}", "[35] 2..36");
        Bounds.gives("{[] 36} take {[35] 1..35}", "[36] 1..35 0");
        Bounds.gives("{[] -36} take {[35] 1..35}", "[36] 0 1..35");
        Bounds.gives("{[] 1} take {[36] 1..36}", "[1] 1");
        Bounds.gives("{[] -1} take {[36] 1..36}", "[1] 36");
        Bounds.gives("{[] 36} take {[0]}", "[36] 0x36");
        Bounds.gives("{[] -36} take {[0]}", "[36] 0x36");
        for (String one : new String[] {"[] 5", "[1] 5"}) {
            Bounds.gives("{[] 36} take {" + one + "}", "[36] 5 0x35");
            Bounds.gives("{[] -36} take {" + one + "}", "[36] 0x35 5");
            Bounds.gives("{[] 2} take {" + one + "}", "[2] 5 0");
            Bounds.gives("{[] -2} take {" + one + "}", "[2] 0 5");
            Bounds.gives("{[] 1} take {" + one + "}", "[1] 5");
            Bounds.gives("{[] -1} take {" + one + "}", "[1] 5");
        }
        for (String array : vectors) {
            Bounds.gives("{[] 0} take {" + array + "}", "[0]");
        }
    }

    private static void takeOfMatrix() {
        Check.sentence("A matrix: DOMAIN if X is not -6 to 6; the same with rows (new ones having 0s).");
        String[] matrices = {"[0 0]", "[0 6]", "[6 0]", "[1 1] 5", "[6 6] 1..36"};
        refusesAll(new String[] {"[] MIN", "[] -36", "[] -7", "[] 7", "[] 36", "[] MAX"}, "take", matrices, DOMAIN);
        Bounds.gives("{[] 6} take {[6 6] 1..36}", "[6 6] 1..36");
        Bounds.gives("{[] -6} take {[6 6] 1..36}", "[6 6] 1..36");
        Bounds.gives("{[] 5} take {[6 6] 1..36}", "[5 6] 1..30");
        Bounds.gives("{[] -5} take {[6 6] 1..36}", "[5 6] 7..36");
        Bounds.gives("{[] 6} take {[5 6] 1..30}", "[6 6] 1..30 0x6");
        Bounds.gives("{[] -6} take {[5 6] 1..30}", "[6 6] 0x6 1..30");
        Bounds.gives("{[] 1} take {[6 6] 1..36}", "[1 6] 1..6");
        Bounds.gives("{[] -1} take {[6 6] 1..36}", "[1 6] 31..36");
        Bounds.gives("{[] 6} take {[1 1] 5}", "[6 1] 5 0x5");
        Bounds.gives("{[] -6} take {[1 1] 5}", "[6 1] 0x5 5");
        Bounds.gives("{[] 6} take {[0 6]}", "[6 6] 0x36");
        Bounds.gives("{[] -6} take {[0 6]}", "[6 6] 0x36");
        Bounds.gives("{[] 6} take {[6 0]}", "[6 0]");
        Bounds.gives("{[] -6} take {[1 0]}", "[6 0]");
        Bounds.gives("{[] 0} take {[6 6] 1..36}", "[0 6]");
        Bounds.gives("{[] 0} take {[0 6]}", "[0 6]");
        Bounds.gives("{[] 0} take {[6 0]}", "[0 0]");
    }

    private static void dropAlone() {
        Check.sentence("drop Y: VALENCE.");
        refusesAlone("drop", ARRAYS, VALENCE);
    }

    private static void dropRank() {
        Check.sentence("X drop Y: RANK if X's rank is not 0");
        refusesAll(NOT_RANK_0, "drop", ARRAYS, RANK);
    }

    private static void dropOfVector() {
        Check.sentence("a vector (as for take) without its first X numbers, or for X < 0 without its last -X");
        Bounds.gives("{[] 0} drop {[36] 1..36}", "[36] 1..36");
        Bounds.gives("{[] 1} drop {[36] 1..36}", "[35] 2..36");
        Bounds.gives("{[] -1} drop {[36] 1..36}", "[35] 1..35");
        Bounds.gives("{[] 35} drop {[36] 1..36}", "[1] 36");
        Bounds.gives("{[] -35} drop {[36] 1..36}", "[1] 1");
        for (String x : new String[] {"MIN", "-2147483647", "-37", "-36", "36", "37", "MAX"}) {
            Bounds.gives("{[] " + x + "} drop {[36] 1..36}", "[0]");
        }
        for (String one : new String[] {"[] 5", "[1] 5"}) {
            Bounds.gives("{[] 0} drop {" + one + "}", "[1] 5");
            for (String x : new String[] {"MIN", "-2", "-1", "1", "2", "MAX"}) {
                Bounds.gives("{[] " + x + "} drop {" + one + "}", "[0]");
            }
        }
        for (String x : new String[] {"MIN", "-1", "0", "1", "MAX"}) {
            Bounds.gives("{[] " + x + "} drop {[0]}", "[0]");
        }
    }

    private static void dropOfMatrix() {
        Check.sentence("a matrix without its rows in the same way (nothing is left if there are not more).");
        Bounds.gives("{[] 0} drop {[6 6] 1..36}", "[6 6] 1..36");
        Bounds.gives("{[] 1} drop {[6 6] 1..36}", "[5 6] 7..36");
        Bounds.gives("{[] -1} drop {[6 6] 1..36}", "[5 6] 1..30");
        Bounds.gives("{[] 5} drop {[6 6] 1..36}", "[1 6] 31..36");
        Bounds.gives("{[] -5} drop {[6 6] 1..36}", "[1 6] 1..6");
        for (String x : new String[] {"MIN", "-2147483647", "-7", "-6", "6", "7", "MAX"}) {
            Bounds.gives("{[] " + x + "} drop {[6 6] 1..36}", "[0 6]");
            Bounds.gives("{[] " + x + "} drop {[6 0]}", "[0 0]");
        }
        Bounds.gives("{[] 5} drop {[6 0]}", "[1 0]");
        Bounds.gives("{[] -5} drop {[6 0]}", "[1 0]");
        for (String x : new String[] {"MIN", "-1", "0", "1", "MAX"}) {
            Bounds.gives("{[] " + x + "} drop {[0 6]}", "[0 6]");
            Bounds.gives("{[] " + x + "} drop {[0 0]}", "[0 0]");
        }
    }

    private static void joinAlone() {
        Check.sentence("join Y: its ravel.");
        Bounds.gives("join {[] 5}", "[1] 5");
        Bounds.gives("join {[36] 1..36}", "[36] 1..36");
        Bounds.gives("join {[1 1] 5}", "[1] 5");
        Bounds.gives("join {[6 6] 1..36}", "[36] 1..36");
        for (String none : new String[] {"[0]", "[0 0]", "[0 6]", "[6 0]"}) {
            Bounds.gives("join {" + none + "}", "[0]");
        }
    }

    private static void joinRank() {
        Check.sentence("X join Y: rank 0 counts as a vector of one; RANK if the ranks differ");
        Bounds.gives("5 join 6", "[2] 5 6");
        Bounds.gives("5 join {[0]}", "[1] 5");
        Bounds.gives("{[0]} join 5", "[1] 5");
        Bounds.gives("5 join {[1] 6}", "[2] 5 6");
        Bounds.gives("{[1] 5} join 6", "[2] 5 6");
        String[] lower = {"[] 5", "[0]", "[1] 5", "[6] 1..6", "[36] 1..36"};
        refusesAll(lower, "join", RANK_2, RANK);
        refusesAll(RANK_2, "join", lower, RANK);
    }

    private static void joinOfVectors() {
        Check.sentence("two vectors: one behind the other, LIMIT if it is longer than 36");
        Bounds.gives("{[0]} join {[0]}", "[0]");
        Bounds.gives("{[36] 1..36} join {[0]}", "[36] 1..36");
        Bounds.gives("{[0]} join {[36] 1..36}", "[36] 1..36");
        Bounds.gives("{[35] 1..35} join {[1] 36}", "[36] 1..36");
        Bounds.gives("{[35] 1..35} join {[] 36}", "[36] 1..36");
        Bounds.gives("{[1] 1} join {[35] 2..36}", "[36] 1..36");
        Bounds.gives("{[] 1} join {[35] 2..36}", "[36] 1..36");
        Bounds.gives("{[18] 1..18} join {[18] 19..36}", "[36] 1..36");
        refusesAll(new String[] {"[36] 1..36"}, "join", new String[] {"[] 1", "[1] 1", "[36] 1..36"}, LIMIT);
        refusesAll(new String[] {"[] 1", "[1] 1"}, "join", new String[] {"[36] 1..36"}, LIMIT);
        refusesAll(new String[] {"[19] 1..19"}, "join", new String[] {"[18] 1..18"}, LIMIT);
        refusesAll(new String[] {"[2] 1 2"}, "join", new String[] {"[35] 1..35"}, LIMIT);
    }

    private static void joinLength() {
        Check.sentence("two matrices: LENGTH if they have not as many rows");
        refusesAll(new String[] {"[0 0]", "[0 6]", "[5 0]", "[5 1] 1..5", "[5 6] 1..30"}, "join",
                new String[] {"[1 0]", "[6 0]", "[6 1] 1..6", "[6 6] 1..36"}, LENGTH);
        refusesAll(new String[] {"[1 0]", "[6 0]", "[6 1] 1..6", "[6 6] 1..36"}, "join",
                new String[] {"[0 0]", "[0 6]", "[5 0]", "[5 1] 1..5", "[5 6] 1..30"}, LENGTH);
    }

    private static void joinOfMatrices() {
        Check.sentence("each row of X followed by Y's, LIMIT if a row is longer than 6.");
        Bounds.gives("{[2 2] 1 2 5 6} join {[2 2] 3 4 7 8}", "[2 4] 1..8");
        Bounds.gives("{[6 3] 1x18} join {[6 3] 2x18}", "[6 6]" + " 1 1 1 2 2 2".repeat(6));
        Bounds.gives("{[6 5] 1x30} join {[6 1] 2x6}", "[6 6]" + " 1 1 1 1 1 2".repeat(6));
        Bounds.gives("{[6 1] 2x6} join {[6 5] 1x30}", "[6 6]" + " 2 1 1 1 1 1".repeat(6));
        Bounds.gives("{[6 6] 1..36} join {[6 0]}", "[6 6] 1..36");
        Bounds.gives("{[6 0]} join {[6 6] 1..36}", "[6 6] 1..36");
        Bounds.gives("{[6 0]} join {[6 0]}", "[6 0]");
        Bounds.gives("{[0 5]} join {[0 1]}", "[0 6]");
        Bounds.gives("{[0 0]} join {[0 6]}", "[0 6]");
        Bounds.gives("{[0 0]} join {[0 0]}", "[0 0]");
        refusesAll(new String[] {"[6 6] 1..36"}, "join", new String[] {"[6 1] 1..6", "[6 6] 1..36"}, LIMIT);
        refusesAll(new String[] {"[6 1] 1..6"}, "join", new String[] {"[6 6] 1..36"}, LIMIT);
        refusesAll(new String[] {"[1 4] 1..4"}, "join", new String[] {"[1 3] 1..3"}, LIMIT);
        // Without a row there still is a number of columns, and no matrix has 7.
        refusesAll(new String[] {"[0 6]"}, "join", new String[] {"[0 1]", "[0 6]"}, LIMIT);
        refusesAll(new String[] {"[0 1]", "[0 3]"}, "join", new String[] {"[0 6]"}, LIMIT);
        refusesAll(new String[] {"[0 3]"}, "join", new String[] {"[0 4]"}, LIMIT);
    }

    private static void pickAlone() {
        Check.sentence("pick Y: VALENCE.");
        refusesAlone("pick", ARRAYS, VALENCE);
    }

    private static void pickRank() {
        Check.sentence("X pick Y: RANK if X has rank 2 or Y rank 0");
        refusesAll(RANK_2, "pick", ARRAYS, RANK);
        refusesAll(ARRAYS, "pick", new String[] {"[] 0", "[] 5"}, RANK);
        refusesAll(new String[] {"[] -1", "[] 1", "[2] 0 -1"}, "pick", new String[] {"[] 0"}, RANK);
    }

    private static void pickDomain() {
        Check.sentence("DOMAIN if a number of X is below 0 or not below Y's first length");
        for (String x : new String[] {"MIN", "-1", "36", "37", "MAX"}) {
            refusesAll(new String[] {"[] " + x, "[1] " + x, "[3] " + x + " 0 0", "[3] 0 0 " + x, "[36] 0x35 " + x}, "pick",
                    new String[] {"[36] 1..36"}, DOMAIN);
        }
        for (String x : new String[] {"MIN", "-1", "6", "36", "MAX"}) {
            refusesAll(new String[] {"[] " + x, "[1] " + x, "[6] " + x + " 0x5", "[6] 0x5 " + x, "[7] 0x6 " + x}, "pick",
                    new String[] {"[6 6] 1..36", "[6 0]", "[6] 1..6"}, DOMAIN);
        }
        refusesAll(new String[] {"[] 0", "[] -1", "[1] 0", "[7] 0x7"}, "pick", new String[] {"[0]", "[0 0]", "[0 6]"}, DOMAIN);
        refusesAll(new String[] {"[] 1", "[2] 0 1", "[7] 0x6 1"}, "pick", new String[] {"[1] 5", "[1 6] 1..6"}, DOMAIN);
        refusesAll(new String[] {"[] 5", "[2] 0 5"}, "pick", new String[] {"[5 6] 1..30"}, DOMAIN);
    }

    private static void pickOfOne() {
        Check.sentence("for X of rank 0 Y's number, or row (a vector), with this number");
        Bounds.gives("{[] 0} pick {[36] 1..36}", "[] 1");
        Bounds.gives("{[] 35} pick {[36] 1..36}", "[] 36");
        Bounds.gives("{[] 0} pick {[1] 5}", "[] 5");
        Bounds.gives("{[] 0} pick {[6 6] 1..36}", "[6] 1..6");
        Bounds.gives("{[] 5} pick {[6 6] 1..36}", "[6] 31..36");
        Bounds.gives("{[] 4} pick {[5 6] 1..30}", "[6] 25..30");
        Bounds.gives("{[] 0} pick {[1 1] 5}", "[1] 5");
        Bounds.gives("{[] 0} pick {[6 0]}", "[0]");
        Bounds.gives("{[] 5} pick {[6 0]}", "[0]");
    }

    private static void pickOfVector() {
        Check.sentence("for a vector X the array of these, LIMIT if it would have more than 6 rows.");
        Bounds.gives("{[0]} pick {[0]}", "[0]");
        Bounds.gives("{[0]} pick {[36] 1..36}", "[0]");
        Bounds.gives("{[1] 35} pick {[36] 1..36}", "[1] 36");
        Bounds.gives("{[36] 35..0} pick {[36] 1..36}", "[36] 36..1");
        Bounds.gives("{[36] 0x36} pick {[1] 5}", "[36] 5x36");
        Bounds.gives("{[7] 0x7} pick {[1] 5}", "[7] 5x7");
        Bounds.gives("{[0]} pick {[0 0]}", "[0 0]");
        Bounds.gives("{[0]} pick {[0 6]}", "[0 6]");
        Bounds.gives("{[0]} pick {[6 0]}", "[0 0]");
        Bounds.gives("{[0]} pick {[6 6] 1..36}", "[0 6]");
        Bounds.gives("{[1] 5} pick {[6 6] 1..36}", "[1 6] 31..36");
        Bounds.gives("{[6] 5..0} pick {[6 6] 1..36}", "[6 6] 31..36 25..30 19..24 13..18 7..12 1..6");
        Bounds.gives("{[6] 0x6} pick {[1 1] 5}", "[6 1] 5x6");
        Bounds.gives("{[6] 0x6} pick {[1 0]}", "[6 0]");
        refusesAll(new String[] {"[7] 0x7", "[36] 0x36"}, "pick", new String[] {"[1 0]", "[1 1] 5", "[6 0]", "[6 6] 1..36"}, LIMIT);
    }

    private static void rise() {
        Check.sentence("rise Y: RANK if Y's rank is not 1; the vector of the places of its numbers, from the least one on, of the "
                + "same ones the lesser place first.");
        refusesAlone("rise", new String[] {"[] 0", "[] 5"}, RANK);
        refusesAlone("rise", RANK_2, RANK);
        Bounds.gives("rise {[0]}", "[0]");
        Bounds.gives("rise {[1] 5}", "[1] 0");
        Bounds.gives("rise {[2] 5 5}", "[2] 0 1");
        Bounds.gives("rise {[2] 5 4}", "[2] 1 0");
        Bounds.gives("rise {[36] 7x36}", "[36] 0..35");
        Bounds.gives("rise {[36] 1..36}", "[36] 0..35");
        Bounds.gives("rise {[36] 36..1}", "[36] 35..0");
        Bounds.gives("rise {[5] MAX 0 MIN -1 1}", "[5] 2 3 1 4 0");
        Bounds.gives("rise {[6] MAX MIN MAX MIN 0 0}", "[6] 1 3 4 5 0 2");
    }

    private static void riseWithLeft() {
        Check.sentence("X rise Y: VALENCE.");
        refusesAll(ARRAYS, "rise", ARRAYS, VALENCE);
    }
}
