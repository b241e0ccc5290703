/** The bounds that the document names for the scalar functions and what is made of them, sentence by sentence. */
public final class ScalarBoundsTest {
    private static final int VALENCE = ArrayWords.VALENCE;
    private static final int RANK = ArrayWords.RANK;
    private static final int LENGTH = ArrayWords.LENGTH;
    private static final int LIMIT = ArrayWords.LIMIT;

    private static final String[] SCALARS = {"+", "-", "*", "max", "min", "=", "<", "rest"};

    public static void main(String[] args) {
        rest();
        onNumbers();
        scalarShapes();
        scalarAlone();
        foldOfRank0();
        foldOfVector();
        foldOfMatrix();
        foldWithLeft();
        scanOfRank0();
        scanOfVector();
        scanOfMatrix();
        scanWithLeft();
        outerRank();
        outerLimit();
        outerShape();
        outerAlone();
        innerRank();
        innerLength();
        innerShape();
        innerNumbers();
        innerAlone();
        Check.end();
    }

    private static void rest() {
        Check.sentence("x rest y (y if x is 0, else the number from 0 to size of x - 1 that differs from y by a "
                + "multiple of x, x being taken without its sign; for the least int 2 to the power 31)");
        Bounds.gives("0 rest {[5] MIN -1 0 1 MAX}", "[5] MIN -1 0 1 MAX");
        Bounds.gives("1 rest {[5] MIN -1 0 1 MAX}", "[5] 0x5");
        Bounds.gives("{[] -1} rest {[5] MIN -1 0 1 MAX}", "[5] 0x5");
        Bounds.gives("2 rest {[5] MIN -1 0 1 MAX}", "[5] 0 1 0 1 1");
        Bounds.gives("5 rest {[9] -6 -5 -4 -1 0 1 4 5 6}", "[9] 4 0 1 4 0 1 4 0 1");
        Bounds.gives("{[] -5} rest {[9] -6 -5 -4 -1 0 1 4 5 6}", "[9] 4 0 1 4 0 1 4 0 1");
        String ends = "{[6] MIN -2147483647 -1 0 2147483646 MAX}";
        Bounds.gives("{[] MAX} rest " + ends, "[6] 2147483646 0 2147483646 0 2147483646 0");
        Bounds.gives("{[] -2147483647} rest " + ends, "[6] 2147483646 0 2147483646 0 2147483646 0");
        Bounds.gives("{[] MIN} rest " + ends, "[6] 0 1 MAX 0 2147483646 MAX");
    }

    private static void onNumbers() {
        Check.sentence("scalar f: on numbers +, -, *, the greater, the lesser, = and < (1 if it holds, else 0)");
        String ends = "{[5] MIN -1 0 1 MAX}";
        Bounds.gives("7 + {[4] 3 0 -3 -9}", "[4] 10 7 4 -2");
        Bounds.gives("7 - {[4] 3 0 -3 -9}", "[4] 4 7 10 16");
        Bounds.gives("7 * {[4] 3 0 -3 -9}", "[4] 21 0 -21 -63");
        Bounds.gives("{[4] 3 0 -3 -9} - 7", "[4] -4 -7 -10 -16");
        Bounds.gives("0 max " + ends, "[5] 0 0 0 1 MAX");
        Bounds.gives("0 min " + ends, "[5] MIN -1 0 0 0");
        Bounds.gives("0 = " + ends, "[5] 0 0 1 0 0");
        Bounds.gives("0 < " + ends, "[5] 0 0 0 1 1");
        Bounds.gives(ends + " < 0", "[5] 1 1 0 0 0");
        Bounds.gives("{[] MIN} max " + ends, "[5] MIN -1 0 1 MAX");
        Bounds.gives("{[] MIN} min " + ends, "[5] MIN MIN MIN MIN MIN");
        Bounds.gives("{[] MIN} = " + ends, "[5] 1 0 0 0 0");
        Bounds.gives("{[] MIN} < " + ends, "[5] 0 1 1 1 1");
        Bounds.gives("{[] MAX} max " + ends, "[5] MAX MAX MAX MAX MAX");
        Bounds.gives("{[] MAX} min " + ends, "[5] MIN -1 0 1 MAX");
        Bounds.gives("{[] MAX} = " + ends, "[5] 0 0 0 0 1");
        Bounds.gives("{[] MAX} < " + ends, "[5] 0x5");
    }

    private static void scalarShapes() {
        Check.sentence("X f Y: if both have the same shape, number by number; if one has rank 0, it with every number "
                + "of the other; else RANK if the ranks differ, LENGTH.");
        for (String array : Bounds.each(Bounds.ARRAYS)) {
            String zeros = array.substring(0, array.indexOf(']') + 1) + " 0x" + Bounds.sizeOf(array);
            Bounds.gives("{" + array + "} + {" + zeros + "}", array);
            Bounds.gives("{" + zeros + "} + {" + array + "}", array);
            Bounds.gives("{" + array + "} + 0", array);
            Bounds.gives("0 + {" + array + "}", array);
        }
        Bounds.gives("{[36] 1..36} - {[36] 0..35}", "[36] 1x36");
        Bounds.gives("{[6 6] 1..36} - {[6 6] 0..35}", "[6 6] 1x36");
        Bounds.gives("{[1] 5} - 3", "[1] 2");
        Bounds.gives("5 - {[1 1] 3}", "[1 1] 2");
        Bounds.gives("5 - {[36] 0..35}", "[36] 5..-30");
        Bounds.gives("{[6 6] 0..35} - 5", "[6 6] -5..30");
        for (String f : SCALARS) {
            Bounds.refuses("{[0] | [1] 2 | [36] 1x36} " + f + " {[2] 1 2 | [35] 1x35}", LENGTH);
            Bounds.refuses("{[2] 1 2 | [35] 1x35} " + f + " {[0] | [1] 2 | [36] 1x36}", LENGTH);
            Bounds.refuses("{[6 5] 1x30 | [0 6] | [6 0]} " + f + " {[6 6] 1x36 | [0 5] | [5 0] | [0 0]}", LENGTH);
            Bounds.refuses("{[6 6] 1x36 | [0 5] | [5 0] | [0 0]} " + f + " {[5 6] 1x30 | [0 6] | [6 0]}", LENGTH);
            Bounds.refuses("{[0] | [1] 1 | [6] 1x6 | [36] 1x36} " + f + " {" + Bounds.RANK_2 + "}", RANK);
            Bounds.refuses("{" + Bounds.RANK_2 + "} " + f + " {[0] | [1] 1 | [6] 1x6 | [36] 1x36}", RANK);
        }
    }

    private static void scalarAlone() {
        Check.sentence("f Y: 0 f Y, but 1 * Y for *.");
        String ends = " {[5] MIN -1 0 1 MAX}";
        Bounds.gives("+" + ends, "[5] MIN -1 0 1 MAX");
        Bounds.gives("-" + ends, "[5] MIN 1 0 -1 -2147483647");
        Bounds.gives("*" + ends, "[5] MIN -1 0 1 MAX");
        Bounds.gives("max" + ends, "[5] 0 0 0 1 MAX");
        Bounds.gives("min" + ends, "[5] MIN -1 0 0 0");
        Bounds.gives("=" + ends, "[5] 0 0 1 0 0");
        Bounds.gives("<" + ends, "[5] 0 0 0 1 1");
        Bounds.gives("rest" + ends, "[5] MIN -1 0 1 MAX");
        for (String array : Bounds.each(Bounds.ARRAYS)) {
            Bounds.gives("+ {" + array + "}", array);
            Bounds.gives("* {" + array + "}", array);
            Bounds.gives("rest {" + array + "}", array);
        }
    }

    private static void foldOfRank0() {
        Check.sentence("scalar f / Y: rank 0: Y.");
        for (String f : SCALARS) {
            for (String number : Bounds.each("MIN | -1 | 0 | 1 | MAX")) {
                Bounds.gives(f + " / {[] " + number + "}", "[] " + number);
            }
        }
    }

    private static void foldOfVector() {
        Check.sentence("A vector: y0 f (y1 f (y2 ..)), the last number alone being itself, for none 0 (1 for *).");
        for (String f : SCALARS) {
            Bounds.gives(f + " / {[0]}", f.equals("*") ? "[] 1" : "[] 0");
            Bounds.gives(f + " / {[1] -7}", "[] -7");
            Bounds.gives(f + " / {[1] MIN}", "[] MIN");
        }
        Bounds.gives("- / {[2] 9 4}", "[] 5");
        Bounds.gives("< / {[2] 4 9}", "[] 1");
        Bounds.gives("rest / {[2] 4 9}", "[] 1");
        Bounds.gives("rest / {[3] 7 5 8}", "[] 3");
        Bounds.gives("+ / {[36] 1..36}", "[] 666");
        Bounds.gives("- / {[36] 1..36}", "[] -18");
        Bounds.gives("- / {[35] 1..35}", "[] 18");
        Bounds.gives("max / {[36] 0x35 5}", "[] 5");
        Bounds.gives("max / {[36] 5 0x35}", "[] 5");
        Bounds.gives("max / {[2] MIN -1}", "[] -1");
        Bounds.gives("min / {[2] 1 MAX}", "[] 1");
        Bounds.gives("* / {[36] 2x30 1x6}", "[] 1073741824");
        Bounds.gives("* / {[36] 2x31 1x5}", "[] MIN");
        Bounds.gives("* / {[36] 2x32 1x4}", "[] 0");
        Bounds.gives("+ / {[2] MAX 1}", "[] MIN");
    }

    private static void foldOfMatrix() {
        Check.sentence("A matrix: the vector of this for its rows.");
        for (String f : SCALARS) {
            Bounds.gives(f + " / {[0 0]}", "[0]");
            Bounds.gives(f + " / {[0 1]}", "[0]");
            Bounds.gives(f + " / {[0 6]}", "[0]");
            Bounds.gives(f + " / {[1 0]}", f.equals("*") ? "[1] 1" : "[1] 0");
            Bounds.gives(f + " / {[6 0]}", f.equals("*") ? "[6] 1x6" : "[6] 0x6");
            Bounds.gives(f + " / {[1 1] -7}", "[1] -7");
            Bounds.gives(f + " / {[6 1] -7..-2}", "[6] -7..-2");
        }
        Bounds.gives("- / {[1 6] 1..6}", "[1] -3");
        Bounds.gives("- / {[6 6] 1..36}", "[6] -3x6");
        Bounds.gives("+ / {[6 6] 0..35}", "[6] 15 51 87 123 159 195");
        Bounds.gives("- / {[2 5] 1..10}", "[2] 3 8");
    }

    private static void foldWithLeft() {
        Check.sentence("X f / Y: VALENCE.");
        for (String f : SCALARS) {
            Bounds.refuses("{" + Bounds.ARRAYS + "} " + f + " / {" + Bounds.ARRAYS + "}", VALENCE);
        }
    }

    private static void scanOfRank0() {
        Check.sentence("f \\ Y: rank 0: Y.");
        for (String f : SCALARS) {
            for (String number : Bounds.each("MIN | -1 | 0 | 1 | MAX")) {
                Bounds.gives(f + " \\ {[] " + number + "}", "[] " + number);
            }
        }
    }

    private static void scanOfVector() {
        Check.sentence("A vector: the vector of f / of its first 1, 2, .. numbers.");
        for (String f : SCALARS) {
            Bounds.gives(f + " \\ {[0]}", "[0]");
            Bounds.gives(f + " \\ {[1] -7}", "[1] -7");
        }
        Bounds.gives("- \\ {[2] 9 4}", "[2] 9 5");
        Bounds.gives("+ \\ {[36] 1x36}", "[36] 1..36");
        Bounds.gives("- \\ {[36] 1x36}", "[36]" + " 1 0".repeat(18));
        Bounds.gives("+ \\ {[36] MAX 1 0x34}", "[36] MAX MIN" + " MIN".repeat(34));
    }

    private static void scanOfMatrix() {
        Check.sentence("A matrix: with this for its rows.");
        for (String f : SCALARS) {
            for (String array : Bounds.each("[0 0] | [0 1] | [0 6] | [1 0] | [6 0] | [1 1] -7 | [6 1] -7..-2")) {
                Bounds.gives(f + " \\ {" + array + "}", array);
            }
        }
        Bounds.gives("+ \\ {[6 6] 1x36}", "[6 6]" + " 1 2 3 4 5 6".repeat(6));
        Bounds.gives("- \\ {[1 6] 1x6}", "[1 6] 1 0 1 0 1 0");
        Bounds.gives("- \\ {[2 3] 9 4 2 1 2 5}", "[2 3] 9 5 7 1 -1 4");
    }

    private static void scanWithLeft() {
        Check.sentence("X f \\ Y: VALENCE.");
        for (String f : SCALARS) {
            Bounds.refuses("{" + Bounds.ARRAYS + "} " + f + " \\ {" + Bounds.ARRAYS + "}", VALENCE);
        }
    }

    private static void outerRank() {
        Check.sentence("X outer f Y: RANK if the ranks are together above 2");
        Bounds.gives("5 outer - 3", "[] 2");
        Bounds.gives("5 outer - {[1] 3}", "[1] 2");
        Bounds.gives("{[1] 5} outer - 3", "[1] 2");
        Bounds.gives("{[1] 5} outer - {[1] 3}", "[1 1] 2");
        Bounds.gives("5 outer - {[1 1] 3}", "[1 1] 2");
        Bounds.gives("{[1 1] 5} outer - 3", "[1 1] 2");
        String vectors = "[0] | [1] 1 | [6] 1..6 | [7] 1..7 | [36] 1..36";
        for (String f : SCALARS) {
            Bounds.refuses("{" + vectors + "} outer " + f + " {" + Bounds.RANK_2 + "}", RANK);
            Bounds.refuses("{" + Bounds.RANK_2 + "} outer " + f + " {" + vectors + "}", RANK);
            Bounds.refuses("{" + Bounds.RANK_2 + "} outer " + f + " {" + Bounds.RANK_2 + "}", RANK);
        }
    }

    private static void outerLimit() {
        Check.sentence("LIMIT if the result would not be an array as above");
        Bounds.gives("{[6] 0 6 12 18 24 30} outer + {[6] 0..5}", "[6 6] 0..35");
        Bounds.gives("{[6] 0..5} outer + {[1] 1}", "[6 1] 1..6");
        Bounds.gives("{[1] 1} outer + {[6] 0..5}", "[1 6] 1..6");
        Bounds.gives("{[0]} outer + {[6] 0..5}", "[0 6]");
        Bounds.gives("{[6] 0..5} outer + {[0]}", "[6 0]");
        Bounds.gives("{[0]} outer + {[0]}", "[0 0]");
        Bounds.gives("1 outer + {[36] 0..35}", "[36] 1..36");
        Bounds.gives("{[36] 0..35} outer + 1", "[36] 1..36");
        Bounds.gives("1 outer + {[6 6] 0..35}", "[6 6] 1..36");
        Bounds.gives("{[6 6] 0..35} outer + 1", "[6 6] 1..36");
        String shortEnough = "[0] | [1] 1 | [6] 1..6";
        String tooLong = "[7] 1..7 | [12] 1..12 | [36] 1..36";
        for (String f : SCALARS) {
            Bounds.refuses("{" + shortEnough + "} outer " + f + " {" + tooLong + "}", LIMIT);
            Bounds.refuses("{" + tooLong + "} outer " + f + " {" + shortEnough + "}", LIMIT);
            Bounds.refuses("{" + tooLong + "} outer " + f + " {" + tooLong + "}", LIMIT);
        }
    }

    private static void outerShape() {
        Check.sentence("the shape is that of X followed by that of Y, the numbers x f y, those of X's first number "
                + "first");
        Bounds.gives("{[2] 10 20} outer - {[3] 1 2 3}", "[2 3] 9 8 7 19 18 17");
        Bounds.gives("{[3] 10 20 30} outer - {[2] 1 2}", "[3 2] 9 8 19 18 29 28");
        Bounds.gives("{[2 3] 1..6} outer - {[] 10}", "[2 3] -9..-4");
        Bounds.gives("{[] 10} outer - {[2 3] 1..6}", "[2 3] 9..4");
        for (String array : Bounds.each("[0] | [0 0] | [0 6] | [6 0]")) {
            Bounds.gives("{" + array + "} outer - 1", array);
            Bounds.gives("1 outer - {" + array + "}", array);
        }
        Bounds.gives("{[] MAX} outer + {[2] 0 1}", "[2] MAX MIN");
    }

    private static void outerAlone() {
        Check.sentence("outer f Y: VALENCE.");
        for (String f : SCALARS) {
            Bounds.refuses("outer " + f + " {" + Bounds.ARRAYS + "}", VALENCE);
        }
    }

    private static void innerRank() {
        Check.sentence("X f . g Y: RANK if X or Y has rank 0");
        String rank0 = "[] 0 | [] 1";
        for (String f : SCALARS) {
            Bounds.refuses("{" + rank0 + "} " + f + " . * {" + Bounds.ARRAYS + "}", RANK);
            Bounds.refuses("{" + Bounds.ARRAYS + "} + . " + f + " {" + rank0 + "}", RANK);
        }
        Bounds.gives("{[1] 3} + . * {[1] 4}", "[] 12");
        Bounds.gives("{[1] 3} + . * {[1 1] 4}", "[1] 12");
        Bounds.gives("{[1 1] 3} + . * {[1] 4}", "[1] 12");
    }

    private static void innerLength() {
        Check.sentence("LENGTH if X's last length is not Y's first");
        Bounds.gives("{[36] 1..36} + . * {[36] 1x36}", "[] 666");
        Bounds.gives("{[6] 1..6} + . * {[6 1] 1x6}", "[1] 21");
        Bounds.gives("{[1 6] 1..6} + . * {[6] 1x6}", "[1] 21");
        Bounds.gives("{[6 6] 1..36} + . * {[6 6] 1 0x6 1 0x6 1 0x6 1 0x6 1 0x6 1}", "[6 6] 1..36");
        String lefts = "[0] | [5] 1..5 | [7] 1..7 | [36] 1..36 | [6 0] | [6 5] 1..30 | [0 5]";
        Bounds.refuses("{" + lefts + "} + . * {[6] 1..6 | [6 0] | [6 5] 1..30 | [6 6] 1..36 | [1] 1 | [1 0]}", LENGTH);
        String rights = "[0] | [5] 1..5 | [7] 1..7 | [36] 1..36 | [0 6] | [5 6] 1..30 | [5 0]";
        Bounds.refuses("{[6] 1..6 | [0 6] | [5 6] 1..30 | [6 6] 1..36 | [1] 1 | [0 1]} + . * {" + rights + "}", LENGTH);
        Bounds.refuses("{[36] 1..36} + . * {[35] 1..35}", LENGTH);
        Bounds.refuses("{[35] 1..35} + . * {[36] 1..36}", LENGTH);
    }

    private static void innerShape() {
        Check.sentence("the shape is that of X without its last followed by that of Y without its first");
        Bounds.gives("{[0]} + . * {[0]}", "[] 0");
        Bounds.gives("{[0]} + . * {[0 0]}", "[0]");
        Bounds.gives("{[0]} + . * {[0 6]}", "[6] 0x6");
        Bounds.gives("{[6] 1..6} + . * {[6 0]}", "[0]");
        Bounds.gives("{[0 0]} + . * {[0]}", "[0]");
        Bounds.gives("{[6 0]} + . * {[0]}", "[6] 0x6");
        Bounds.gives("{[0 6]} + . * {[6] 1..6}", "[0]");
        Bounds.gives("{[0 0]} + . * {[0 0]}", "[0 0]");
        Bounds.gives("{[6 0]} + . * {[0 6]}", "[6 6] 0x36");
        Bounds.gives("{[0 6]} + . * {[6 0]}", "[0 0]");
        Bounds.gives("{[0 6]} + . * {[6 6] 1..36}", "[0 6]");
        Bounds.gives("{[6 6] 1..36} + . * {[6 0]}", "[6 0]");
        Bounds.gives("{[6 1] 1..6} + . * {[1 6] 1x6}", "[6 6] 1x6 2x6 3x6 4x6 5x6 6x6");
        Bounds.gives("{[1 6] 1..6} + . * {[6 1] 1x6}", "[1 1] 21");
    }

    private static void innerNumbers() {
        Check.sentence("the numbers are f / of (the row of X) g (the column of Y) (a vector is its own row or column)");
        for (String f : SCALARS) {
            Bounds.gives("{[0]} " + f + " . + {[0]}", f.equals("*") ? "[] 1" : "[] 0");
            Bounds.gives("{[2 0]} " + f + " . + {[0 3]}", f.equals("*") ? "[2 3] 1x6" : "[2 3] 0x6");
            Bounds.gives("{[1] 5} " + f + " . - {[1] 9}", "[] -4");
        }
        Bounds.gives("{[36] 1..36} - . - {[36] 0x36}", "[] -18");
        Bounds.gives("{[2] 9 8} - . - {[2] 3 1}", "[] -1");
        Bounds.gives("{[2] MAX 1} + . * {[2] 1 1}", "[] MIN");
        Bounds.gives("{[2] 10 20} + . - {[2 3] 1..6}", "[3] 25 23 21");
        Bounds.gives("{[3 2] 1..6} + . * {[2] 10 1}", "[3] 12 34 56");
        Bounds.gives("{[2 3] 1..6} - . * {[3 2] 1..6}", "[2 2] 10 12 19 24");
    }

    private static void innerAlone() {
        Check.sentence("f . g Y: VALENCE.");
        for (String f : SCALARS) {
            Bounds.refuses(f + " . * {" + Bounds.ARRAYS + "}", VALENCE);
            Bounds.refuses("+ . " + f + " {" + Bounds.ARRAYS + "}", VALENCE);
        }
    }
}
