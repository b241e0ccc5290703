/** The bounds that the document names for the mixed functions, sentence by sentence. */
public final class MixedBoundsTest {
    private static final int VALENCE = ArrayWords.VALENCE;
    private static final int RANK = ArrayWords.RANK;
    private static final int LENGTH = ArrayWords.LENGTH;
    private static final int DOMAIN = ArrayWords.DOMAIN;
    private static final int LIMIT = ArrayWords.LIMIT;

    private static final String NOT_RANK_0 = "[0] | [1] 0 | [1] 99 | [2] 0 0 | [36] 0x36 | " + Bounds.RANK_2;

    public static void main(String[] args) {
        shapeAlone();
        shapeRank();
        shapeLength();
        shapeDomain();
        shapeOfNone();
        shapeRepeats();
        countAlone();
        countPlaces();
        turn();
        turnWithLeft();
        backAlone();
        backWithLeft();
        takeAlone();
        takeRank();
        takeOfVector();
        takeOfMatrix();
        dropAlone();
        dropRank();
        dropOfVector();
        dropOfMatrix();
        joinAlone();
        joinRank();
        joinOfVectors();
        joinLength();
        joinOfMatrices();
        pickAlone();
        pickRank();
        pickDomain();
        pickOfOne();
        pickOfVector();
        rise();
        riseWithLeft();
        Check.end();
    }

    private static void shapeAlone() {
        Check.sentence("shape Y: its shape.");
        Bounds.gives("shape {[] 5}", "[0]");
        Bounds.gives("shape {[0]}", "[1] 0");
        Bounds.gives("shape {[1] 5}", "[1] 1");
        Bounds.gives("shape {[36] 1..36}", "[1] 36");
        for (int r = 0; r <= 6; r++) {
            for (int c = 0; c <= 6; c++) {
                Bounds.gives("shape {[" + r + " " + c + "] 7x" + r * c + "}", "[2] " + r + " " + c);
            }
        }
    }

    private static void shapeRank() {
        Check.sentence("X shape Y: RANK if X has rank 2");
        Bounds.refuses("{" + Bounds.RANK_2 + "} shape {" + Bounds.ARRAYS + "}", RANK);
        Bounds.refuses("{[1 3] 1 1 1 | [1 1] -1} shape {" + Bounds.ARRAYS + "}", RANK);
    }

    private static void shapeLength() {
        Check.sentence("LENGTH if X has more than two numbers");
        Bounds.gives("{[0]} shape 7", "[] 7");
        Bounds.gives("{[1] 1} shape 7", "[1] 7");
        Bounds.gives("{[2] 1 1} shape 7", "[1 1] 7");
        Bounds.refuses("{[3] 1 1 1 | [3] 0 0 0 | [3] -1 7 37 | [36] 1x36} shape {" + Bounds.ARRAYS + "}", LENGTH);
    }

    private static void shapeDomain() {
        Check.sentence("DOMAIN if a number of X is below 0 or above 6 (36 if X has one number)");
        for (int n : new int[] {0, 1, 6, 7, 35, 36}) {
            Bounds.gives("{[] " + n + "} shape {[36] 1..36}", "[" + n + "]" + (n == 0 ? "" : " 1.." + n));
            Bounds.gives("{[1] " + n + "} shape {[36] 1..36}", "[" + n + "]" + (n == 0 ? "" : " 1.." + n));
        }
        for (String n : Bounds.each("MIN | -1 | 37 | 38 | MAX")) {
            Bounds.refuses("{[] " + n + " | [1] " + n + "} shape {" + Bounds.ARRAYS + "}", DOMAIN);
        }
        for (int r = 0; r <= 6; r++) {
            for (int c = 0; c <= 6; c++) {
                String want = "[" + r + " " + c + "]" + (r * c == 0 ? "" : " 1.." + r * c);
                Bounds.gives("{[2] " + r + " " + c + "} shape {[36] 1..36}", want);
            }
        }
        for (String n : Bounds.each("MIN | -1 | 7 | 8 | 36 | MAX")) {
            for (String other : Bounds.each("0 | 1 | 6 | -1 | 7")) {
                String both = String.format("{[2] %1$s %2$s | [2] %2$s %1$s}", n, other);
                Bounds.refuses(both + " shape {" + Bounds.ARRAYS + "}", DOMAIN);
            }
        }
    }

    private static void shapeOfNone() {
        Check.sentence("the array with this shape (rank 0 for a vector X of none)");
        Bounds.gives("{[0]} shape {[] -5}", "[] -5");
        Bounds.gives("{[0]} shape {[36] 1..36}", "[] 1");
        Bounds.gives("{[0]} shape {[6 6] 1..36}", "[] 1");
        Bounds.gives("{[0]} shape {[0]}", "[] 0");
        Bounds.gives("{[0]} shape {[0 6]}", "[] 0");
        Bounds.gives("{[0]} shape {[6 0]}", "[] 0");
    }

    private static void shapeRepeats() {
        Check.sentence("whose ravel is that of Y, repeated again and again, or cut off (0s if Y has no number)");
        Bounds.gives("{[] 36} shape {[36] 1..36}", "[36] 1..36");
        Bounds.gives("{[] 36} shape {[35] 1..35}", "[36] 1..35 1");
        Bounds.gives("{[] 35} shape {[36] 1..36}", "[35] 1..35");
        Bounds.gives("{[] 36} shape {[] -5}", "[36] -5x36");
        Bounds.gives("{[] 36} shape {[6 6] 1..36}", "[36] 1..36");
        Bounds.gives("6 6 shape {[36] 1..36}", "[6 6] 1..36");
        Bounds.gives("6 6 shape {[5 6] 1..30}", "[6 6] 1..30 1..6");
        Bounds.gives("2 3 shape {[5] 1..5}", "[2 3] 1..5 1");
        Bounds.gives("2 3 shape {[7] 1..7}", "[2 3] 1..6");
        for (String none : Bounds.each("[0] | [0 0] | [0 6] | [6 0]")) {
            Bounds.gives("{[] 36} shape {" + none + "}", "[36] 0x36");
            Bounds.gives("6 6 shape {" + none + "}", "[6 6] 0x36");
            Bounds.gives("0 shape {" + none + "}", "[0]");
            Bounds.gives("0 6 shape {" + none + "}", "[0 6]");
            Bounds.gives("6 0 shape {" + none + "}", "[6 0]");
        }
    }

    private static void countAlone() {
        Check.sentence("count Y: RANK if Y's rank is not 0; DOMAIN if it is not 0 to 36; the vector 0, 1, .., Y - 1.");
        Bounds.refuses("count {" + NOT_RANK_0 + "}", RANK);
        Bounds.refuses("count {[1] -1 | [1] 37 | [1 1] 37}", RANK);
        Bounds.refuses("count {[] MIN | [] -1 | [] 37 | [] MAX}", DOMAIN);
        Bounds.gives("count {[] 0}", "[0]");
        Bounds.gives("count {[] 1}", "[1] 0");
        Bounds.gives("count {[] 35}", "[35] 0..34");
        Bounds.gives("count {[] 36}", "[36] 0..35");
    }

    private static void countPlaces() {
        Check.sentence("X count Y: RANK if X's rank is not 1; of Y's shape, for each number the first place at which "
                + "X has it, X's length if none.");
        Bounds.refuses("{[] 0 | [] 4} count {" + Bounds.ARRAYS + "}", RANK);
        Bounds.refuses("{" + Bounds.RANK_2 + "} count {" + Bounds.ARRAYS + "}", RANK);
        Bounds.gives("{[0]} count {[] 0}", "[] 0");
        Bounds.gives("{[1] 5} count {[2] 5 6}", "[2] 0 1");
        Bounds.gives("{[36] 1..36} count {[5] 0 1 36 37 -1}", "[5] 36 0 35 36 36");
        Bounds.gives("{[36] 7x36} count {[2] 7 8}", "[2] 0 36");
        Bounds.gives("{[3] MIN MAX MIN} count {[3] MAX MIN 0}", "[3] 1 0 3");
        Bounds.gives("{[35] 1..35} count {[] 36}", "[] 35");
        // None is found, so each shape is full of X's length.
        for (String array : Bounds.each(Bounds.ARRAYS)) {
            String shape = array.substring(0, array.indexOf(']') + 1);
            Bounds.gives("{[2] 0 -1} count {" + array + "}", shape + " 2x" + Bounds.sizeOf(array));
            Bounds.gives("{[0]} count {" + array + "}", shape + " 0x" + Bounds.sizeOf(array));
        }
    }

    private static void turn() {
        Check.sentence("turn Y: the matrix whose rows are Y's columns; lower ranks: Y.");
        for (String array : Bounds.each("[] 5 | [0] | [1] 5 | [36] 1..36 | [0 0] | [1 1] 5")) {
            Bounds.gives("turn {" + array + "}", array);
        }
        Bounds.gives("turn {[1 6] 1..6}", "[6 1] 1..6");
        Bounds.gives("turn {[6 1] 1..6}", "[1 6] 1..6");
        Bounds.gives("turn {[2 3] 1..6}", "[3 2] 1 4 2 5 3 6");
        Bounds.gives("turn {[6 6] 0x30 1..6}", "[6 6] 0x5 1 0x5 2 0x5 3 0x5 4 0x5 5 0x5 6");
        Bounds.gives("turn {[6 5] 1..5 0x25}", "[5 6] 1 0x5 2 0x5 3 0x5 4 0x5 5 0x5");
    }

    private static void turnWithLeft() {
        Check.sentence("X turn Y: VALENCE.");
        Bounds.refuses("{" + Bounds.ARRAYS + "} turn {" + Bounds.ARRAYS + "}", VALENCE);
    }

    private static void backAlone() {
        Check.sentence("back Y: each row (a vector being one) in the opposite order; rank 0: Y.");
        for (String array : Bounds.each("[] 5 | [0] | [1] 5 | [0 0] | [0 6] | [6 0] | [1 1] 5 | [6 1] 1..6")) {
            Bounds.gives("back {" + array + "}", array);
        }
        Bounds.gives("back {[2] 1 2}", "[2] 2 1");
        Bounds.gives("back {[35] 1..35}", "[35] 35..1");
        Bounds.gives("back {[36] 1..36}", "[36] 36..1");
        Bounds.gives("back {[1 6] 1..6}", "[1 6] 6..1");
        Bounds.gives("back {[6 6] 1..36}", "[6 6] 6..1 12..7 18..13 24..19 30..25 36..31");
    }

    private static void backWithLeft() {
        Check.sentence("X back Y: RANK if X's rank is not 0; each row with its number at place (i + X) modulo its "
                + "length at place i; rank 0: Y.");
        Bounds.refuses("{" + NOT_RANK_0 + "} back {" + Bounds.ARRAYS + "}", RANK);
        for (String x : Bounds.each("MIN | -37 | -1 | 0 | 1 | 36 | MAX")) {
            for (String array : Bounds.each("[] 5 | [0] | [1] 5 | [0 0] | [0 6] | [6 0] | [1 1] 5 | [6 1] 1..6")) {
                Bounds.gives("{[] " + x + "} back {" + array + "}", array);
            }
        }
        for (int x : new int[] {-37, -36, -35, -7, -6, -5, -1, 0, 1, 5, 6, 7, 35, 36, 37}) {
            Bounds.gives("{[] " + x + "} back {[36] 1..36}", "[36]" + Bounds.turned(x, 1, 36));
            Bounds.gives("{[] " + x + "} back {[5] 1..5}", "[5]" + Bounds.turned(x, 1, 5));
            String rows = Bounds.turned(x, 1, 6) + Bounds.turned(x, 7, 6);
            Bounds.gives("{[] " + x + "} back {[2 6] 1..12}", "[2 6]" + rows);
        }
    }

    private static void takeAlone() {
        Check.sentence("take Y: the first number of Y's ravel (0 if none), rank 0.");
        Bounds.gives("take {[] -5}", "[] -5");
        Bounds.gives("take {[1] -5}", "[] -5");
        Bounds.gives("take {[36] 7..42}", "[] 7");
        Bounds.gives("take {[1 1] -5}", "[] -5");
        Bounds.gives("take {[6 6] 7..42}", "[] 7");
        Bounds.gives("take {[0] | [0 0] | [0 1] | [1 0] | [0 6] | [6 0]}", "[] 0");
    }

    private static void takeRank() {
        Check.sentence("X take Y: RANK if X's rank is not 0");
        Bounds.refuses("{" + NOT_RANK_0 + "} take {" + Bounds.ARRAYS + "}", RANK);
    }

    private static void takeOfVector() {
        Check.sentence("for a vector (rank 0 counts as a vector of one): DOMAIN if X is not -36 to 36; its first X "
                + "numbers, or for X < 0 its last -X, with 0s behind, or before, where it has fewer.");
        String vectors = "[] 5 | [0] | [1] 5 | [35] 1..35 | [36] 1..36";
        Bounds.refuses("{[] MIN | [] -37 | [] 37 | [] MAX} take {" + vectors + "}", DOMAIN);
        Bounds.gives("{[] 36} take {[36] 1..36}", "[36] 1..36");
        Bounds.gives("{[] -36} take {[36] 1..36}", "[36] 1..36");
        Bounds.gives("{[] 35} take {[36] 1..36}", "[35] 1..35");
        Bounds.gives("{[] -35} take {[36] 1..36}", "[35] 2..36");
        Bounds.gives("{[] 36} take {[35] 1..35}", "[36] 1..35 0");
        Bounds.gives("{[] -36} take {[35] 1..35}", "[36] 0 1..35");
        Bounds.gives("{[] 1} take {[36] 1..36}", "[1] 1");
        Bounds.gives("{[] -1} take {[36] 1..36}", "[1] 36");
        Bounds.gives("{[] 36} take {[0]}", "[36] 0x36");
        Bounds.gives("{[] -36} take {[0]}", "[36] 0x36");
        for (String one : Bounds.each("[] 5 | [1] 5")) {
            Bounds.gives("{[] 36} take {" + one + "}", "[36] 5 0x35");
            Bounds.gives("{[] -36} take {" + one + "}", "[36] 0x35 5");
            Bounds.gives("{[] 2} take {" + one + "}", "[2] 5 0");
            Bounds.gives("{[] -2} take {" + one + "}", "[2] 0 5");
            Bounds.gives("{[] 1} take {" + one + "}", "[1] 5");
            Bounds.gives("{[] -1} take {" + one + "}", "[1] 5");
        }
        for (String array : Bounds.each(vectors)) {
            Bounds.gives("{[] 0} take {" + array + "}", "[0]");
        }
    }

    private static void takeOfMatrix() {
        Check.sentence("A matrix: DOMAIN if X is not -6 to 6; the same with rows (new ones having 0s).");
        String matrices = "[0 0] | [0 6] | [6 0] | [1 1] 5 | [6 6] 1..36";
        Bounds.refuses("{[] MIN | [] -36 | [] -7 | [] 7 | [] 36 | [] MAX} take {" + matrices + "}", DOMAIN);
        Bounds.gives("{[] 6} take {[6 6] 1..36}", "[6 6] 1..36");
        Bounds.gives("{[] -6} take {[6 6] 1..36}", "[6 6] 1..36");
        Bounds.gives("{[] 5} take {[6 6] 1..36}", "[5 6] 1..30");
        Bounds.gives("{[] -5} take {[6 6] 1..36}", "[5 6] 7..36");
        Bounds.gives("{[] 6} take {[5 6] 1..30}", "[6 6] 1..30 0x6");
        Bounds.gives("{[] -6} take {[5 6] 1..30}", "[6 6] 0x6 1..30");
        Bounds.gives("{[] 1} take {[6 6] 1..36}", "[1 6] 1..6");
        Bounds.gives("{[] -1} take {[6 6] 1..36}", "[1 6] 31..36");
        Bounds.gives("{[] 6} take {[1 1] 5}", "[6 1] 5 0x5");
        Bounds.gives("{[] -6} take {[1 1] 5}", "[6 1] 0x5 5");
        Bounds.gives("{[] 6} take {[0 6]}", "[6 6] 0x36");
        Bounds.gives("{[] -6} take {[0 6]}", "[6 6] 0x36");
        Bounds.gives("{[] 6} take {[6 0]}", "[6 0]");
        Bounds.gives("{[] -6} take {[1 0]}", "[6 0]");
        Bounds.gives("{[] 0} take {[6 6] 1..36}", "[0 6]");
        Bounds.gives("{[] 0} take {[0 6]}", "[0 6]");
        Bounds.gives("{[] 0} take {[6 0]}", "[0 0]");
    }

    private static void dropAlone() {
        Check.sentence("drop Y: VALENCE.");
        Bounds.refuses("drop {" + Bounds.ARRAYS + "}", VALENCE);
    }

    private static void dropRank() {
        Check.sentence("X drop Y: RANK if X's rank is not 0");
        Bounds.refuses("{" + NOT_RANK_0 + "} drop {" + Bounds.ARRAYS + "}", RANK);
    }

    private static void dropOfVector() {
        Check.sentence("a vector (as for take) without its first X numbers, or for X < 0 without its last -X");
        Bounds.gives("{[] 0} drop {[36] 1..36}", "[36] 1..36");
        Bounds.gives("{[] 1} drop {[36] 1..36}", "[35] 2..36");
        Bounds.gives("{[] -1} drop {[36] 1..36}", "[35] 1..35");
        Bounds.gives("{[] 35} drop {[36] 1..36}", "[1] 36");
        Bounds.gives("{[] -35} drop {[36] 1..36}", "[1] 1");
        for (String x : Bounds.each("MIN | -2147483647 | -37 | -36 | 36 | 37 | MAX")) {
            Bounds.gives("{[] " + x + "} drop {[36] 1..36}", "[0]");
        }
        for (String one : Bounds.each("[] 5 | [1] 5")) {
            Bounds.gives("{[] 0} drop {" + one + "}", "[1] 5");
            for (String x : Bounds.each("MIN | -2 | -1 | 1 | 2 | MAX")) {
                Bounds.gives("{[] " + x + "} drop {" + one + "}", "[0]");
            }
        }
        for (String x : Bounds.each("MIN | -1 | 0 | 1 | MAX")) {
            Bounds.gives("{[] " + x + "} drop {[0]}", "[0]");
        }
    }

    private static void dropOfMatrix() {
        Check.sentence("a matrix without its rows in the same way (nothing is left if there are not more).");
        Bounds.gives("{[] 0} drop {[6 6] 1..36}", "[6 6] 1..36");
        Bounds.gives("{[] 1} drop {[6 6] 1..36}", "[5 6] 7..36");
        Bounds.gives("{[] -1} drop {[6 6] 1..36}", "[5 6] 1..30");
        Bounds.gives("{[] 5} drop {[6 6] 1..36}", "[1 6] 31..36");
        Bounds.gives("{[] -5} drop {[6 6] 1..36}", "[1 6] 1..6");
        for (String x : Bounds.each("MIN | -2147483647 | -7 | -6 | 6 | 7 | MAX")) {
            Bounds.gives("{[] " + x + "} drop {[6 6] 1..36}", "[0 6]");
            Bounds.gives("{[] " + x + "} drop {[6 0]}", "[0 0]");
        }
        Bounds.gives("{[] 5} drop {[6 0]}", "[1 0]");
        Bounds.gives("{[] -5} drop {[6 0]}", "[1 0]");
        for (String x : Bounds.each("MIN | -1 | 0 | 1 | MAX")) {
            Bounds.gives("{[] " + x + "} drop {[0 6]}", "[0 6]");
            Bounds.gives("{[] " + x + "} drop {[0 0]}", "[0 0]");
        }
    }

    private static void joinAlone() {
        Check.sentence("join Y: its ravel.");
        Bounds.gives("join {[] 5}", "[1] 5");
        Bounds.gives("join {[36] 1..36}", "[36] 1..36");
        Bounds.gives("join {[1 1] 5}", "[1] 5");
        Bounds.gives("join {[6 6] 1..36}", "[36] 1..36");
        Bounds.gives("join {[0] | [0 0] | [0 6] | [6 0]}", "[0]");
    }

    private static void joinRank() {
        Check.sentence("X join Y: rank 0 counts as a vector of one; RANK if the ranks differ");
        Bounds.gives("5 join 6", "[2] 5 6");
        Bounds.gives("5 join {[0]}", "[1] 5");
        Bounds.gives("{[0]} join 5", "[1] 5");
        Bounds.gives("5 join {[1] 6}", "[2] 5 6");
        Bounds.gives("{[1] 5} join 6", "[2] 5 6");
        String lower = "[] 5 | [0] | [1] 5 | [6] 1..6 | [36] 1..36";
        Bounds.refuses("{" + lower + "} join {" + Bounds.RANK_2 + "}", RANK);
        Bounds.refuses("{" + Bounds.RANK_2 + "} join {" + lower + "}", RANK);
    }

    private static void joinOfVectors() {
        Check.sentence("two vectors: one behind the other, LIMIT if it is longer than 36");
        Bounds.gives("{[0]} join {[0]}", "[0]");
        Bounds.gives("{[36] 1..36} join {[0]}", "[36] 1..36");
        Bounds.gives("{[0]} join {[36] 1..36}", "[36] 1..36");
        Bounds.gives("{[35] 1..35} join {[1] 36}", "[36] 1..36");
        Bounds.gives("{[35] 1..35} join {[] 36}", "[36] 1..36");
        Bounds.gives("{[1] 1} join {[35] 2..36}", "[36] 1..36");
        Bounds.gives("{[] 1} join {[35] 2..36}", "[36] 1..36");
        Bounds.gives("{[18] 1..18} join {[18] 19..36}", "[36] 1..36");
        Bounds.refuses("{[36] 1..36} join {[] 1 | [1] 1 | [36] 1..36}", LIMIT);
        Bounds.refuses("{[] 1 | [1] 1} join {[36] 1..36}", LIMIT);
        Bounds.refuses("{[19] 1..19} join {[18] 1..18}", LIMIT);
        Bounds.refuses("{[2] 1 2} join {[35] 1..35}", LIMIT);
    }

    private static void joinLength() {
        Check.sentence("two matrices: LENGTH if they have not as many rows");
        String fewer = "{[0 0] | [0 6] | [5 0] | [5 1] 1..5 | [5 6] 1..30}";
        String more = "{[6 0] | [6 1] 1..6 | [6 6] 1..36}";
        Bounds.refuses(fewer + " join " + more, LENGTH);
        Bounds.refuses(more + " join " + fewer, LENGTH);
        Bounds.refuses("{[0 0] | [0 6]} join {[1 0] | [1 6] 1..6}", LENGTH);
        Bounds.refuses("{[1 0] | [1 6] 1..6} join {[0 0] | [0 6]}", LENGTH);
    }

    private static void joinOfMatrices() {
        Check.sentence("each row of X followed by Y's, LIMIT if a row is longer than 6.");
        Bounds.gives("{[2 2] 1 2 5 6} join {[2 2] 3 4 7 8}", "[2 4] 1..8");
        Bounds.gives("{[6 3] 1x18} join {[6 3] 2x18}", "[6 6]" + " 1 1 1 2 2 2".repeat(6));
        Bounds.gives("{[6 5] 1x30} join {[6 1] 2x6}", "[6 6]" + " 1 1 1 1 1 2".repeat(6));
        Bounds.gives("{[6 1] 2x6} join {[6 5] 1x30}", "[6 6]" + " 2 1 1 1 1 1".repeat(6));
        Bounds.gives("{[6 6] 1..36} join {[6 0]}", "[6 6] 1..36");
        Bounds.gives("{[6 0]} join {[6 6] 1..36}", "[6 6] 1..36");
        Bounds.gives("{[6 0]} join {[6 0]}", "[6 0]");
        Bounds.gives("{[0 5]} join {[0 1]}", "[0 6]");
        Bounds.gives("{[0 0]} join {[0 6]}", "[0 6]");
        Bounds.gives("{[0 0]} join {[0 0]}", "[0 0]");
        Bounds.refuses("{[6 6] 1..36} join {[6 1] 1..6 | [6 6] 1..36}", LIMIT);
        Bounds.refuses("{[6 1] 1..6} join {[6 6] 1..36}", LIMIT);
        Bounds.refuses("{[1 4] 1..4} join {[1 3] 1..3}", LIMIT);
        // Without a row there still is a number of columns, and no matrix has 7.
        Bounds.refuses("{[0 6]} join {[0 1] | [0 6]}", LIMIT);
        Bounds.refuses("{[0 1] | [0 3]} join {[0 6]}", LIMIT);
        Bounds.refuses("{[0 3]} join {[0 4]}", LIMIT);
    }

    private static void pickAlone() {
        Check.sentence("pick Y: VALENCE.");
        Bounds.refuses("pick {" + Bounds.ARRAYS + "}", VALENCE);
    }

    private static void pickRank() {
        Check.sentence("X pick Y: RANK if X has rank 2 or Y rank 0");
        Bounds.refuses("{" + Bounds.RANK_2 + "} pick {" + Bounds.ARRAYS + "}", RANK);
        Bounds.refuses("{" + Bounds.ARRAYS + "} pick {[] 0 | [] 5}", RANK);
        Bounds.refuses("{[] -1 | [] 1 | [2] 0 -1} pick {[] 0}", RANK);
    }

    private static void pickDomain() {
        Check.sentence("DOMAIN if a number of X is below 0 or not below Y's first length");
        for (String x : Bounds.each("MIN | -1 | 36 | 37 | MAX")) {
            String among = "{[] N | [1] N | [3] N 0 0 | [3] 0 0 N | [36] 0x35 N}".replace("N", x);
            Bounds.refuses(among + " pick {[36] 1..36}", DOMAIN);
        }
        for (String x : Bounds.each("MIN | -1 | 6 | 36 | MAX")) {
            String among = "{[] N | [1] N | [6] N 0x5 | [6] 0x5 N | [7] 0x6 N}".replace("N", x);
            Bounds.refuses(among + " pick {[6 6] 1..36 | [6 0] | [6] 1..6}", DOMAIN);
        }
        Bounds.refuses("{[] 0 | [] -1 | [1] 0 | [7] 0x7} pick {[0] | [0 0] | [0 6]}", DOMAIN);
        Bounds.refuses("{[] 1 | [2] 0 1 | [7] 0x6 1} pick {[1] 5 | [1 6] 1..6}", DOMAIN);
        Bounds.refuses("{[] 5 | [2] 0 5} pick {[5 6] 1..30}", DOMAIN);
    }

    private static void pickOfOne() {
        Check.sentence("for X of rank 0 Y's number, or row (a vector), with this number");
        Bounds.gives("{[] 0} pick {[36] 1..36}", "[] 1");
        Bounds.gives("{[] 35} pick {[36] 1..36}", "[] 36");
        Bounds.gives("{[] 0} pick {[1] 5}", "[] 5");
        Bounds.gives("{[] 0} pick {[6 6] 1..36}", "[6] 1..6");
        Bounds.gives("{[] 5} pick {[6 6] 1..36}", "[6] 31..36");
        Bounds.gives("{[] 4} pick {[5 6] 1..30}", "[6] 25..30");
        Bounds.gives("{[] 0} pick {[1 1] 5}", "[1] 5");
        Bounds.gives("{[] 0} pick {[6 0]}", "[0]");
        Bounds.gives("{[] 5} pick {[6 0]}", "[0]");
    }

    private static void pickOfVector() {
        Check.sentence("for a vector X the array of these, LIMIT if it would have more than 6 rows.");
        Bounds.gives("{[0]} pick {[0]}", "[0]");
        Bounds.gives("{[0]} pick {[36] 1..36}", "[0]");
        Bounds.gives("{[1] 35} pick {[36] 1..36}", "[1] 36");
        Bounds.gives("{[36] 35..0} pick {[36] 1..36}", "[36] 36..1");
        Bounds.gives("{[36] 0x36} pick {[1] 5}", "[36] 5x36");
        Bounds.gives("{[7] 0x7} pick {[1] 5}", "[7] 5x7");
        Bounds.gives("{[0]} pick {[0 0]}", "[0 0]");
        Bounds.gives("{[0]} pick {[0 6]}", "[0 6]");
        Bounds.gives("{[0]} pick {[6 0]}", "[0 0]");
        Bounds.gives("{[0]} pick {[6 6] 1..36}", "[0 6]");
        Bounds.gives("{[1] 5} pick {[6 6] 1..36}", "[1 6] 31..36");
        Bounds.gives("{[6] 5..0} pick {[6 6] 1..36}", "[6 6] 31..36 25..30 19..24 13..18 7..12 1..6");
        Bounds.gives("{[6] 0x6} pick {[1 1] 5}", "[6 1] 5x6");
        Bounds.gives("{[6] 0x6} pick {[1 0]}", "[6 0]");
        Bounds.refuses("{[7] 0x7 | [36] 0x36} pick {[1 0] | [1 1] 5 | [6 0] | [6 6] 1..36}", LIMIT);
    }

    private static void rise() {
        Check.sentence("rise Y: RANK if Y's rank is not 1; the vector of the places of its numbers, from the least "
                + "one on, of the same ones the lesser place first.");
        Bounds.refuses("rise {[] 0 | [] 5}", RANK);
        Bounds.refuses("rise {" + Bounds.RANK_2 + "}", RANK);
        Bounds.gives("rise {[0]}", "[0]");
        Bounds.gives("rise {[1] 5}", "[1] 0");
        Bounds.gives("rise {[2] 5 5}", "[2] 0 1");
        Bounds.gives("rise {[2] 5 4}", "[2] 1 0");
        Bounds.gives("rise {[36] 7x36}", "[36] 0..35");
        Bounds.gives("rise {[36] 1..36}", "[36] 0..35");
        Bounds.gives("rise {[36] 36..1}", "[36] 35..0");
        Bounds.gives("rise {[36] -75..-40}", "[36] 0..35");
        Bounds.gives("rise {[5] MAX 0 MIN -1 1}", "[5] 2 3 1 4 0");
        Bounds.gives("rise {[6] MAX MIN MAX MIN 0 0}", "[6] 1 3 4 5 0 2");
    }

    private static void riseWithLeft() {
        Check.sentence("X rise Y: VALENCE.");
        Bounds.refuses("{" + Bounds.ARRAYS + "} rise {" + Bounds.ARRAYS + "}", VALENCE);
    }
}
