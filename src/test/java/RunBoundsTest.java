/** The bounds that the document names for arrays, statements and runs: its terms, promises 5, 6 and 16. */
public final class RunBoundsTest {
    private static final int SYNTAX = ArrayWords.SYNTAX;
    private static final int VALUE = ArrayWords.VALUE;
    private static final int VALENCE = ArrayWords.VALENCE;
    private static final int RANK = ArrayWords.RANK;
    private static final int LENGTH = ArrayWords.LENGTH;
    private static final int DOMAIN = ArrayWords.DOMAIN;
    private static final int LIMIT = ArrayWords.LIMIT;

    public static void main(String[] args) {
        greatestArrays();
        tooGreatArrays();
        wrapping();
        shapes();
        ravels();
        names();
        tokenTable();
        whetherStatement();
        wholeText();
        emptyText();
        operands();
        brackets();
        expressions();
        functions();
        becomes();
        longestTexts();
        numbersTogether();
        oneNumberOrSeveral();
        noFunctionFirst();
        rightToLeft();
        becomesGives();
        firstErrors();
        valenceFirst();
        nameWithoutValue();
        syntax();
        runsTheText();
        errorsChangeNothing();
        runChanges();
        turnKeepsLengths();
        emptyKeepsLengths();
        innerErrorsFirst();
        backDoesNotWrap();
        backBelowZero();
        Check.end();
    }

    private static boolean reads(String text) {
        ArrayWords x = new ArrayWords();
        Check.write(x, text);
        return x.reads();
    }

    private static void statement(String text) {
        Check.due("reads of " + text, reads(text), true);
    }

    private static void noStatement(String text) {
        Check.due("reads of " + text, reads(text), false);
        Bounds.refuses(text, SYNTAX);
    }

    private static void expect(String text, boolean want) {
        if (want) {
            statement(text);
        } else {
            noStatement(text);
        }
    }

    private static String upTo(int n) {
        return n == 0 ? "" : Check.series(1, n);
    }

    private static void greatestArrays() {
        Check.sentence("An ARRAY has RANK 0 (one number), 1 (a VECTOR of 0 to 36 numbers) or 2 (a MATRIX of 0 to 6 "
                + "rows with 0 to 6 numbers each)");
        everywhere("[] -5");
        for (int n = 0; n <= 36; n++) {
            everywhere("[" + n + "]" + upTo(n));
        }
        for (int r = 0; r <= 6; r++) {
            for (int c = 0; c <= 6; c++) {
                everywhere("[" + r + " " + c + "]" + upTo(r * c));
            }
        }
    }

    /** The array as a name's value, in brackets, as a result, kept, shown and given by a run. */
    private static void everywhere(String array) {
        Bounds.gives("{" + array + "}", array);
        Bounds.gives("( ( {" + array + "} ) )", array);
        Bounds.gives("f becomes e becomes {" + array + "}", array);
        ArrayWords x = Bounds.ready(new ArrayWords(), "f becomes e becomes {" + array + "}");
        x.run();
        x.keep(3);
        for (int n = 3; n <= 5; n++) {
            Bounds.hold(x, "[6 6] -3x36");
            Check.due("show of " + array, x.show(n), Check.rankOf(array));
            Check.due("the result after show", Check.result(x), array);
        }
    }

    private static void tooGreatArrays() {
        Check.sentence("An ARRAY has RANK 0 (one number), 1 (a VECTOR of 0 to 36 numbers) or 2 (a MATRIX of 0 to 6 "
                + "rows with 0 to 6 numbers each)");
        Bounds.refuses("{[] 37} shape 1", DOMAIN);
        Bounds.refuses("7 0 shape 1", DOMAIN);
        Bounds.refuses("0 7 shape 1", DOMAIN);
        Bounds.refuses("count {[] 37}", DOMAIN);
        Bounds.refuses("{[] 37} take 1", DOMAIN);
        Bounds.refuses("7 take {[6 0]}", DOMAIN);
        Bounds.refuses("{[7] 1..7} outer + {[0]}", LIMIT);
        Bounds.refuses("{[0]} outer + {[7] 1..7}", LIMIT);
        Bounds.refuses("1 join {[36] 1..36}", LIMIT);
        Bounds.refuses("{[0 1]} join {[0 6]}", LIMIT);
        Bounds.refuses("0 0 0 0 0 0 0 pick {[1 0]}", LIMIT);
    }

    private static void wrapping() {
        Check.sentence("numbers are Java ints, arithmetic wraps");
        Bounds.gives("{[] MAX} + {[3] -1 0 1}", "[3] 2147483646 MAX MIN");
        Bounds.gives("{[] MIN} + {[3] -1 0 1}", "[3] MAX MIN -2147483647");
        Bounds.gives("{[] MIN} + {[2] MIN MAX}", "[2] 0 -1");
        Bounds.gives("{[] MIN} - {[3] -1 0 1}", "[3] -2147483647 MIN MAX");
        Bounds.gives("{[] MAX} - {[3] -1 0 1}", "[3] MIN MAX 2147483646");
        Bounds.gives("0 - {[2] MAX MIN}", "[2] -2147483647 MIN");
        Bounds.gives("{[] 65536} * {[4] 32767 32768 65536 -32768}", "[4] 2147418112 MIN 0 MIN");
        Bounds.gives("{[2] 46340 46341} * {[2] 46340 46341}", "[2] 2147395600 -2147479015");
        Bounds.gives("{[] MIN} * {[3] -1 1 2}", "[3] MIN MIN 0");
        Bounds.gives("{[] MAX} * {[2] 2 MAX}", "[2] -2 1");
        Bounds.gives("+ / {[3] MAX MAX 2}", "[] 0");
        Bounds.gives("* / {[2] 65536 32768}", "[] MIN");
        Bounds.gives("+ \\ {[3] MAX 1 1}", "[3] MAX MIN -2147483647");
        Bounds.gives("{[1] MAX} outer + {[2] 0 1}", "[1 2] MAX MIN");
        Bounds.gives("{[2] 65536 1} + . * {[2] 32768 1}", "[] -2147483647");
    }

    private static void shapes() {
        Check.sentence("Its SHAPE is the vector of its lengths: none for rank 0, its length, or its numbers of rows "
                + "and columns.");
        Bounds.gives("shape {[] 36}", "[0]");
        Bounds.gives("shape {[0]}", "[1] 0");
        Bounds.gives("shape {[36] 1..36}", "[1] 36");
        Bounds.gives("shape {[0 6]}", "[2] 0 6");
        Bounds.gives("shape {[6 0]}", "[2] 6 0");
        Bounds.gives("shape {[6 6] 1..36}", "[2] 6 6");
    }

    private static void ravels() {
        Check.sentence("Its RAVEL is the vector of its numbers, row by row.");
        Bounds.gives("join {[] 5}", "[1] 5");
        Bounds.gives("join {[0]}", "[0]");
        Bounds.gives("join {[0 6]}", "[0]");
        Bounds.gives("join {[6 0]}", "[0]");
        Bounds.gives("join {[2 3] 1..6}", "[6] 1..6");
        Bounds.gives("join {[6 6] 1..36}", "[36] 1..36");
    }

    private static void names() {
        Check.sentence("NAMES 0 to 5 have a value, an array, or none.");
        for (int n = 0; n <= 5; n++) {
            String name = Check.word(10 + n);
            Bounds.refuses(name, VALUE);
            Bounds.gives(name + " becomes {[6 6] 1..36}", "[6 6] 1..36");
            ArrayWords x = Bounds.ready(new ArrayWords(), name + " becomes 8");
            String before = Bounds.names(Bounds.ready(new ArrayWords(), name + " becomes 8"));
            x.run();
            Check.due("the names after " + name + " becomes 8", Bounds.names(x),
                    before.replace("name " + n + " none", "name " + n + " [] 8"));
        }
    }

    private static void tokensGive(String want, int... tokens) {
        ArrayWords x = Bounds.ready(new ArrayWords(), "");
        StringBuilder what = new StringBuilder("run of tokens");
        for (int t : tokens) {
            x.tokens(-1, t, -1, -1);
            what.append(" ").append(t);
        }
        Check.due(what.toString(), x.run(), Check.rankOf(want));
        Check.due("the result after " + what, Check.result(x), want);
    }

    private static void tokenTable() {
        Check.sentence("0 to 9, numbers; 10 to 15, names; 20 to 27, the SCALAR FUNCTIONS +, -, *, max, min, =, <, "
                + "rest; 30 to 38, the MIXED FUNCTIONS shape, count, turn, back, take, drop, join, pick, rise; "
                + "40 \"/\"; 41 \"\\\"; 42 \"outer\"; 43 \".\"; 50 \"(\"; 51 \")\"; 52 \"becomes\".");
        for (int n = 0; n <= 9; n++) {
            tokensGive("[] " + n, n);
        }
        for (int n = 0; n <= 5; n++) {
            ArrayWords x = new ArrayWords();
            x.put(0, 40 + n);
            x.keep(n);
            x.put(0, 0);
            x.tokens(10 + n, -1, -1, -1);
            Check.due("run of name " + n, x.run(), 0);
            Check.due("the value of name " + n, x.at(0), 40 + n);
        }
        // 7 f 3 and 3 f 7.
        int[] made = {10, 4, 21, 7, 3, 0, 0, 3, 10, -4, 21, 7, 3, 0, 1, 1};
        for (int f = 0; f < 8; f++) {
            tokensGive("[] " + made[f], 7, 20 + f, 3);
            tokensGive("[] " + made[8 + f], 3, 20 + f, 7);
        }
        tokensGive("[1] 2", 30, 6, 5);
        tokensGive("[2] 0 1", 31, 2);
        tokensGive("[2] 6 5", 32, 6, 5);
        tokensGive("[2] 5 6", 33, 6, 5);
        tokensGive("[] 6", 34, 6, 5);
        tokensGive("[1] 5", 1, 35, 6, 5);
        tokensGive("[3] 1 6 5", 1, 36, 6, 5);
        tokensGive("[] 5", 1, 37, 6, 5);
        tokensGive("[2] 1 0", 38, 6, 5);
        tokensGive("[] 11", 20, 40, 6, 5);
        tokensGive("[2] 6 11", 20, 41, 6, 5);
        tokensGive("[2 2] 7 6 8 7", 1, 2, 42, 20, 6, 5);
        tokensGive("[] 16", 1, 2, 20, 43, 22, 6, 5);
        tokensGive("[] -3", 50, 1, 21, 2, 51, 21, 2);
        tokensGive("[] 6", 10, 20, 10, 52, 3);
    }

    private static void whetherStatement() {
        Check.sentence("Whether the text is a statement.");
        // Also after an error, and again; asking changes nothing.
        for (String text : new String[] {"f", "1 turn 1", "rise 1", "1 2 + 1 2 3", "9 9 shape 1", "f becomes f"}) {
            ArrayWords x = Bounds.ready(new ArrayWords(), text);
            Check.due("reads of " + text, x.reads(), true);
            x.run();
            Check.due("reads of " + text + " again", x.reads(), true);
            Check.due("what is there after reads of " + text, Bounds.state(x),
                    Bounds.state(Bounds.ready(new ArrayWords(), text)));
        }
        for (String text : new String[] {"", "+", "f becomes", "( 1", "1 )", "1 f"}) {
            ArrayWords x = Bounds.ready(new ArrayWords(), text);
            Check.due("reads of " + text, x.reads(), false);
            x.run();
            Check.due("reads of " + text + " again", x.reads(), false);
            Check.due("what is there after reads of " + text, Bounds.state(x),
                    Bounds.state(Bounds.ready(new ArrayWords(), text)));
        }
    }

    private static void wholeText() {
        Check.sentence("A STATEMENT is a text that is an EXPRESSION");
        String[] expressions = {"a", "( 1 2 )", "a - b", "b becomes a", "a outer + ( 2 )", "( 1 ) + . * a", "turn a",
            "+ / ( 1 2 )"};
        for (String first : expressions) {
            statement(first);
            for (String second : expressions) {
                // Side by side they are one only where the second goes on with a function.
                expect(first + " " + second, second.startsWith("turn") || second.startsWith("+"));
            }
            for (String part : new String[] {"+", "turn", "outer +", "a becomes", "(", "outer", "."}) {
                noStatement(first + " " + part);
            }
            for (String part : new String[] {"/", "\\", ".", "outer", "becomes", ")"}) {
                noStatement(part + " " + first);
            }
        }
    }

    private static void emptyText() {
        Check.sentence("The empty text is no statement.");
        noStatement("");
        Check.due("reads of a new object", new ArrayWords().reads(), false);
        Check.due("run of a new object", new ArrayWords().run(), SYNTAX);
    }

    private static void operands() {
        Check.sentence("OPERAND = numbers, one or more | a name | ( EXPRESSION )");
        for (int t = 0; t <= 52; t++) {
            if (Check.isToken(t)) {
                expect(Check.word(t), t <= 15);
                expect("( " + Check.word(t) + " )", t <= 15);
                expect("+ " + Check.word(t), t <= 15);
                expect("1 + " + Check.word(t), t <= 15);
                expect("1 " + Check.word(t), t <= 9);
                expect(Check.word(t) + " 1", t <= 9 || t >= 20 && t <= 38);
                expect("a " + Check.word(t), false);
                expect(Check.word(t) + " a", t >= 20 && t <= 38);
                expect("( 1 ) " + Check.word(t), false);
                expect(Check.word(t) + " ( 1 )", t >= 20 && t <= 38);
            }
        }
        noStatement("( )");
        noStatement("1 + ( )");
        noStatement("( ) + 1");
    }

    private static void brackets() {
        Check.sentence("OPERAND = numbers, one or more | a name | ( EXPRESSION )");
        for (int open = 0; open <= 14; open++) {
            for (int close = Math.max(0, open - 1); close <= open + 1; close++) {
                String text = "( ".repeat(open) + "7" + " )".repeat(close);
                expect(text, open == close);
                if (open == close) {
                    Bounds.gives(text, "[] 7");
                }
            }
        }
        noStatement(") 1 (");
        noStatement("( 1 ) ) ( ( 1 )");
        noStatement("( 1 + 2 ) ) + ( 3");
        noStatement("( ".repeat(30));
        noStatement(") ".repeat(30));
    }

    private static void expressions() {
        Check.sentence("EXPRESSION = OPERAND | FUNCTION EXPRESSION | OPERAND FUNCTION EXPRESSION | name becomes "
                + "EXPRESSION");
        String[] operands = {"1", "1 2", "a", "( 1 )"};
        String[] functions = {"+", "rise", "+ /", "+ \\", "outer +", "+ . *"};
        for (String operand : operands) {
            statement(operand);
            for (String function : functions) {
                noStatement(function);
                noStatement(operand + " " + function);
                statement(function + " " + operand);
                for (String other : operands) {
                    statement(other + " " + function + " " + operand);
                    noStatement(other + " " + operand + " " + function);
                    noStatement(function + " " + other + " " + function);
                }
                for (String other : functions) {
                    statement(function + " " + other + " " + operand);
                    statement(operand + " " + function + " " + other + " " + operand);
                }
            }
        }
    }

    private static boolean isScalar(int token) {
        return token >= 20 && token <= 27;
    }

    private static void functions() {
        Check.sentence("FUNCTION = scalar | mixed | scalar / | scalar \\ | outer scalar | scalar . scalar");
        for (int t = 0; t <= 52; t++) {
            if (Check.isToken(t)) {
                String word = Check.word(t);
                expect("( 1 ) " + word + " 1", t >= 20 && t <= 38);
                expect(word + " / 1", isScalar(t));
                expect(word + " \\ 1", isScalar(t));
                expect(word + " . + 1", isScalar(t));
                expect("+ . " + word + " 1", isScalar(t));
                expect("outer " + word + " 1", isScalar(t));
                // One part more than a function has.
                expect("+ / " + word + " a", t >= 20 && t <= 38);
                expect("+ \\ " + word + " a", t >= 20 && t <= 38);
                expect("outer + " + word + " a", t >= 20 && t <= 38);
                expect("+ . * " + word + " a", t >= 20 && t <= 38);
                expect(word + " + / a", t <= 15 || t >= 20 && t <= 38);
            }
        }
        for (String text : new String[] {"outer + / 1", "outer + \\ 1", "outer + . * 1", "+ . * / 1", "+ . * \\ 1",
            "+ . * . - 1", "+ / / 1", "+ / \\ 1", "+ . 1", ". + 1", "+ . . * 1", "outer outer + 1", "+ . outer * 1"}) {
            noStatement(text);
        }
    }

    private static void becomes() {
        Check.sentence("name becomes EXPRESSION");
        for (int t = 0; t <= 52; t++) {
            if (Check.isToken(t)) {
                expect(Check.word(t) + " becomes 1", t >= 10 && t <= 15);
                expect("1 + " + Check.word(t) + " becomes 1", t >= 10 && t <= 15);
                expect("( 1 ) " + Check.word(t) + " becomes 1", false);
                expect("a " + Check.word(t) + " becomes 1", false);
            }
        }
        for (String text : new String[] {"becomes", "becomes 1", "a becomes", "a becomes becomes 1", "( a ) becomes 1",
            "( a becomes ) 1", "a becomes +", "a becomes ( )", "1 2 becomes 3", "a + becomes 1",
            "a becomes 1 becomes 2"}) {
            noStatement(text);
        }
    }

    private static void longestTexts() {
        Check.sentence("A TEXT is a list of at most 30 TOKENS");
        Bounds.gives("1 ".repeat(30), "[30] 1x30");
        Bounds.gives("- ".repeat(29) + "1", "[] -1");
        Bounds.gives("1 + ".repeat(14) + "- 1", "[] 13");
        Bounds.gives("1 + ".repeat(14) + "1 2", "[2] 15 16");
        Bounds.gives("( ".repeat(14) + "1 2" + " )".repeat(14), "[2] 1 2");
        Bounds.gives("f becomes ".repeat(14) + "- 1", "[] -1");
        Bounds.gives("1 - ( ".repeat(6) + "5 4 3 2" + " )".repeat(6) + " - 0", "[4] 5 4 3 2");
        Bounds.gives("( ".repeat(8) + "9 8" + " - 1 )".repeat(6) + " )".repeat(2), "[2] 3 2");
        Bounds.gives("+ / ".repeat(14) + "3 4", "[] 7");
        for (String token : new String[] {"a", "+", "rise", "/", "\\", "outer", ".", "(", ")", "becomes"}) {
            noStatement((token + " ").repeat(30));
        }
    }

    private static void numbersTogether() {
        Check.sentence("where all the numbers next to each other are one operand");
        Bounds.gives("1 2 + 3 4", "[2] 4 6");
        Bounds.gives("1 2 3 - 1 2 3", "[3] 0x3");
        Bounds.gives("( 1 2 ) + ( 3 4 )", "[2] 4 6");
        Bounds.gives("9 8 7 6 5 4 3 2 1 0", "[10] 9..0");
        Bounds.refuses("1 2 + 3 4 5", LENGTH);
    }

    private static void oneNumberOrSeveral() {
        Check.sentence("One number stands for an array of rank 0, several for a vector.");
        for (int n = 0; n <= 9; n++) {
            Bounds.gives("" + n, "[] " + n);
            Bounds.gives("( " + n + " )", "[] " + n);
            Bounds.gives(n + " " + n, "[2] " + n + " " + n);
        }
        for (int count = 2; count <= 30; count++) {
            Bounds.gives("7 ".repeat(count), "[" + count + "] 7x" + count);
        }
        Bounds.gives("shape 7", "[0]");
        Bounds.gives("shape 7 7", "[1] 2");
    }

    private static String resultOf(String text) {
        ArrayWords x = new ArrayWords();
        Check.due("run of " + text, Check.run(x, text), 0);
        return Check.result(x);
    }

    private static void noFunctionFirst() {
        Check.sentence("An expression is worked out from right to left");
        Bounds.gives("2 * 3 + 4", "[] 14");
        Bounds.gives("2 + 3 * 4", "[] 14");
        Bounds.gives("9 - 5 - 3 - 1", "[] 6");
        Bounds.gives("- 3 - 5", "[] 2");
        Bounds.gives("1 2 + - 3 4", "[2] -2 -2");
        Bounds.gives("+ / 2 * 3 4", "[] 14");
        Bounds.gives("2 * + / 3 4", "[] 14");
        Bounds.gives("shape 2 + 3 4 shape 5", "[2] 3 4");
        for (int f = 20; f <= 27; f++) {
            for (int g = 20; g <= 27; g++) {
                String left = "7 " + Check.word(f) + " ";
                String right = "3 " + Check.word(g) + " 2";
                Check.due(left + right, resultOf(left + right), resultOf(left + "( " + right + " )"));
                Check.due(left + Check.word(g) + " 2", resultOf(left + Check.word(g) + " 2"),
                        resultOf(left + "( " + Check.word(g) + " 2 )"));
            }
        }
    }

    private static void rightToLeft() {
        Check.sentence("of OPERAND FUNCTION EXPRESSION first the expression, then the operand, then the function");
        Bounds.gives("a + a becomes 3", "[] 6");
        Bounds.gives("a - ( a becomes 3 ) + 1", "[] -1");
        Bounds.gives("( a becomes 5 ) - a becomes 3", "[] 2");
        Bounds.gives("a - ( a becomes 5 ) - a becomes 3", "[] 3");
        Bounds.refuses("( a becomes 3 ) + a", VALUE);
        Bounds.refuses("a + a", VALUE);
    }

    private static void becomesGives() {
        Check.sentence("name becomes E gives the name, and has itself, the value of E");
        for (String array : new String[] {"[] MIN", "[0]", "[36] 1..36", "[0 6]", "[6 0]", "[6 6] 1..36"}) {
            Bounds.gives("f becomes {" + array + "}", array);
            Bounds.gives("f becomes - - {" + array + "}", array);
            Bounds.gives("f becomes e becomes - d becomes c becomes - {" + array + "}", array);
            ArrayWords x = Bounds.ready(new ArrayWords(), "f becomes {" + array + "}");
            x.run();
            Bounds.hold(x, "[] 3");
            x.show(5);
            Check.due("the value of the name", Check.result(x), Bounds.array(array));
        }
    }

    private static void firstErrors() {
        Check.sentence("the first of the errors written in the order in which they stand here ends the run");
        // RANK before LENGTH, and both before DOMAIN.
        Bounds.refuses("{[2 2] 1 2 3 4} + {[3] 1 2 3}", RANK);
        Bounds.refuses("{[] 1} + . * {[3 2] 1..6}", RANK);
        Bounds.refuses("{[1 3] -1 7 9} shape 1", RANK);
        Bounds.refuses("{[3] -1 7 9} shape 1", LENGTH);
        Bounds.refuses("count {[1] -1}", RANK);
        Bounds.refuses("{[1] 37} take 1", RANK);
        Bounds.refuses("{[1] 7} take {[6 6] 1..36}", RANK);
        Bounds.refuses("{[1 1] 9} pick {[2] 1 2}", RANK);
        Bounds.refuses("{[2] 9 -1} pick 5", RANK);
        // RANK and LENGTH before LIMIT.
        Bounds.refuses("{[7] 1..7} outer + {[6 6] 1..36}", RANK);
        Bounds.refuses("{[36] 1..36} join {[6 6] 1..36}", RANK);
        Bounds.refuses("{[5 6] 1..30} join {[6 6] 1..36}", LENGTH);
        // DOMAIN before LIMIT.
        Bounds.refuses("{[7] 0 0 0 0 0 0 6} pick {[6 6] 1..36}", DOMAIN);
        Bounds.refuses("{[7] -1 0 0 0 0 0 0} pick {[6 6] 1..36}", DOMAIN);
    }

    private static void valenceFirst() {
        Check.sentence("(VALENCE always comes first.)");
        Bounds.refuses("{[2] 1 2} + / {[3] 1 2 3}", VALENCE);
        Bounds.refuses("{[2] 1 2} + / {[3 3] 1..9}", VALENCE);
        Bounds.refuses("{[2] 1 2} + \\ {[3] 1 2 3}", VALENCE);
        Bounds.refuses("outer + {[36] 1..36}", VALENCE);
        Bounds.refuses("outer + {[6 6] 1..36}", VALENCE);
        Bounds.refuses("+ . * 1", VALENCE);
        Bounds.refuses("{[6 6] 1..36} turn 1", VALENCE);
        Bounds.refuses("drop 1", VALENCE);
        Bounds.refuses("pick 1", VALENCE);
        Bounds.refuses("1 rise 1", VALENCE);
        Bounds.refuses("{[6 6] 1..36} rise {[6 6] 1..36}", VALENCE);
    }

    private static void nameWithoutValue() {
        Check.sentence("a name without value: VALUE");
        for (String name : new String[] {"a", "b", "c", "d", "e", "f"}) {
            Bounds.refuses(name, VALUE);
            Bounds.refuses("( " + name + " )", VALUE);
            Bounds.refuses("+ " + name, VALUE);
            Bounds.refuses(name + " + 1", VALUE);
            Bounds.refuses("1 + " + name, VALUE);
            Bounds.refuses(name + " becomes " + name, VALUE);
            Bounds.gives(name + " + " + name + " becomes 1", "[] 2");
        }
    }

    private static void syntax() {
        Check.sentence("SYNTAX if it is no statement");
        // A run of what stands on the right of the wrong place would give a name or end with another code.
        for (String text : new String[] {"+", "( f becomes 1", "/ f becomes 1", "1 2 ) + 3", "f becomes 1 +",
            "a 1 turn 1", "1 f becomes 2", "( ) drop 1", "1 / {[2] 1 2}", "{[2] 1 2} {[2] 1 2}"}) {
            Bounds.refuses(text, SYNTAX);
        }
    }

    private static void runsTheText() {
        Check.sentence("Runs the text");
        ArrayWords x = new ArrayWords();
        Check.run(x, "a becomes 1");
        Check.write(x, "a becomes a + a");
        for (int k = 1; k <= 31; k++) {
            Check.due("run " + k + " of the same text", x.run(), 0);
            Check.due("the result of run " + k, x.at(0), 1 << k);
        }
        // The text that is there now, whatever was written before.
        Check.write(x, "2 3 + 4 5");
        x.untoken();
        Check.due("run after untoken", x.run(), 1);
        Check.due("the result after untoken", Check.result(x), "[2] 6 7");
        x.tokens(22, 5, -1, -1);
        Check.due("run after more tokens", x.run(), 1);
        Check.due("the result after more tokens", Check.result(x), "[2] 22 23");
        Check.due("tokens that are refused", x.tokens(20, 1, 99, -1), ArrayWords.BAD_ARG);
        Check.due("run after refused tokens", x.run(), 1);
        Check.due("the result after refused tokens", Check.result(x), "[2] 22 23");
        x.clear();
        Check.due("run after clear", x.run(), SYNTAX);
        Check.due("the result after clear", Check.result(x), "[2] 22 23");
    }

    private static ArrayWords withNames(String text) {
        ArrayWords x = new ArrayWords();
        String[] values = {"[6 6] 1..36", "[2] 4 5", "[0 6]", "[] -3"};
        for (int n = 0; n < values.length; n++) {
            Bounds.hold(x, values[n]);
            x.keep(n);
        }
        Bounds.hold(x, "[3] 71 -72 73");
        Check.write(x, text);
        return x;
    }

    private static void refusesWithNames(String text, int code) {
        Bounds.refused("run of " + text, () -> withNames(text), ArrayWords::run, code);
    }

    private static void errorsChangeNothing() {
        Check.sentence("an error: names and result stay as they were");
        // Each gives names before it ends: e and f, that have no value, and others that have one.
        refusesWithNames("e + f becomes d becomes a becomes 7", VALUE);
        refusesWithNames("e + ( f becomes 7 ) + a becomes 8", VALUE);
        refusesWithNames("e becomes f + a becomes 3", VALUE);
        refusesWithNames("1 turn f becomes a becomes 7", VALENCE);
        refusesWithNames("( f becomes 7 ) turn a becomes 8", VALENCE);
        refusesWithNames("drop f becomes a becomes 7", VALENCE);
        refusesWithNames("c + f becomes a becomes b becomes 1 2", RANK);
        refusesWithNames("rise b becomes f becomes 7", RANK);
        refusesWithNames("1 2 3 + f becomes b becomes c becomes 1 2", LENGTH);
        refusesWithNames("9 9 shape f becomes d becomes 1", DOMAIN);
        refusesWithNames("count d becomes f becomes - 1", DOMAIN);
        refusesWithNames("( join a ) join f becomes b becomes d becomes 9", LIMIT);
        refusesWithNames("e becomes f becomes a becomes b becomes 1 +", SYNTAX);
    }

    private static void runChanges() {
        Check.sentence("Otherwise the result becomes the value of the statement, names those that they became; "
                + "answers the rank of the result.");
        ArrayWords x = new ArrayWords();
        Bounds.hold(x, "[6 6] 1..36");
        for (int n = 0; n < 6; n++) {
            x.keep(n);
        }
        Check.write(x, "( a becomes 5 ) + b becomes 2 + c becomes d becomes 1 2");
        Check.due("rank", x.run(), 1);
        Check.due("the result", Check.result(x), "[2] 8 9");
        String matrix = Bounds.array("[6 6] 1..36");
        Check.due("the names", Bounds.names(x), "; name 0 [] 5; name 1 [2] 3 4; name 2 [2] 1 2; name 3 [2] 1 2; name 4 "
                + matrix + "; name 5 " + matrix);
        ArrayWords y = Bounds.ready(new ArrayWords(), "a becomes b becomes {[0 6]}");
        Check.due("rank of a matrix without rows", y.run(), 2);
        Check.due("its result", Check.result(y), "[0 6]");
        Check.due("run again", y.run(), 2);
        Check.due("its result", Check.result(y), "[0 6]");
    }

    private static void turnKeepsLengths() {
        Check.sentence("turn: of a matrix with r rows and c columns the result has c rows and r columns, also if r or "
                + "c is 0.");
        for (int r = 0; r <= 6; r++) {
            for (int c = 0; c <= 6; c++) {
                StringBuilder turned = new StringBuilder("[" + c + " " + r + "]");
                for (int k = 0; k < r * c; k++) {
                    turned.append(" ").append(k % r * c + k / r + 1);
                }
                String matrix = "[" + r + " " + c + "]" + upTo(r * c);
                Bounds.gives("turn {" + matrix + "}", turned.toString());
                Bounds.gives("turn turn {" + matrix + "}", matrix);
            }
        }
    }

    private static void emptyKeepsLengths() {
        Check.sentence("A matrix keeps its number of rows and its number of columns when one of them is 0, so do "
                + "take, drop, join and pick of it.");
        for (int n = 0; n <= 6; n++) {
            String noRow = "[0 " + n + "]";
            String noColumn = "[" + n + " 0]";
            for (String f : new String[] {"+", "-", "+ \\", "back", "1 back", "1 +", "1 outer +", "5 6 count"}) {
                Bounds.gives(f + " {" + noRow + "}", noRow);
                Bounds.gives(f + " {" + noColumn + "}", noColumn);
            }
            Bounds.gives("{" + noRow + "} + {" + noRow + "}", noRow);
            Bounds.gives("{" + noColumn + "} + {" + noColumn + "}", noColumn);
            Bounds.gives("0 take {" + noRow + "}", noRow);
            Bounds.gives("2 take {" + noRow + "}", "[2 " + n + "] 0x" + 2 * n);
            Bounds.gives("2 take {" + noColumn + "}", "[2 0]");
            Bounds.gives("{[] -6} take {" + noColumn + "}", "[6 0]");
            Bounds.gives("2 drop {" + noRow + "}", noRow);
            Bounds.gives("2 drop {" + noColumn + "}", "[" + Math.max(0, n - 2) + " 0]");
            Bounds.gives("{[] -2} drop {" + noColumn + "}", "[" + Math.max(0, n - 2) + " 0]");
            Bounds.gives("{[0 " + (6 - n) + "]} join {" + noRow + "}", "[0 6]");
            Bounds.gives("{" + noColumn + "} join {" + noColumn + "}", noColumn);
            Bounds.gives("{" + noColumn + "} join {[" + n + " 6] 5x" + 6 * n + "}", "[" + n + " 6] 5x" + 6 * n);
            Bounds.gives("{[0]} pick {" + noRow + "}", noRow);
            Bounds.gives("{[0]} pick {" + noColumn + "}", "[0 0]");
            if (n > 0) {
                Bounds.gives("{[6] 0x6} pick {" + noColumn + "}", "[6 0]");
                Bounds.gives("0 pick {" + noColumn + "}", "[0]");
            }
        }
    }

    private static void innerErrorsFirst() {
        Check.sentence("run: an error in the expression, or in the operand, comes before those of the function, "
                + "VALENCE among them.");
        String[] functions = {"+ /", "+ \\", "turn", "rise"};
        String[] alone = {"outer +", "+ . *", "drop", "pick"};
        String[] wrong = {"f", "( 1 turn 1 )", "( rise 1 )", "( 1 2 + 1 2 3 )", "( 9 9 shape 1 )",
            "( 1 join {[36] 1..36} )"};
        int[] codes = {VALUE, VALENCE, RANK, LENGTH, DOMAIN, LIMIT};
        for (int k = 0; k < wrong.length; k++) {
            for (String function : functions) {
                Bounds.refuses("1 " + function + " " + wrong[k], codes[k]);
                Bounds.refuses(wrong[k] + " " + function + " 1", codes[k]);
                Bounds.refuses("f " + function + " " + wrong[k], codes[k]);
            }
            for (String function : alone) {
                Bounds.refuses(function + " " + wrong[k], codes[k]);
            }
            // The expression's error comes before the operand's.
            for (int m = 0; m < wrong.length; m++) {
                Bounds.refuses(wrong[m] + " + " + wrong[k], codes[k]);
            }
            Bounds.refuses(wrong[k] + " + {[6 6] 1..36}", codes[k]);
            Bounds.refuses("1 2 pick 5 + " + wrong[k], codes[k]);
        }
        Bounds.refuses("1 2 pick 5", RANK);
    }

    private static void backDoesNotWrap() {
        Check.sentence("X back Y: i + X does not wrap there");
        // The greatest int is 1 above a multiple of 2, 3 and 6, 2 above one of 5 and 7 above one of 10.
        Bounds.gives("{[] MAX} back {[2] 1 2}", "[2] 2 1");
        Bounds.gives("{[] MAX} back {[3] 1 2 3}", "[3] 2 3 1");
        Bounds.gives("{[] MAX} back {[5] 1..5}", "[5] 3 4 5 1 2");
        Bounds.gives("{[] MAX} back {[2 6] 1..12}", "[2 6] 2..6 1 8..12 7");
        Bounds.gives("{[] MAX} back {[10] 0..9}", "[10] 7 8 9 0..6");
        Bounds.gives("{[] 2147483646} back {[5] 1..5}", "[5] 2 3 4 5 1");
        Bounds.gives("{[] MAX} back {[36] 0..35}", "[36]" + Bounds.turned(Check.MAX, 0, 36));
        Bounds.gives("{[] 2147483612} back {[36] 0..35}", "[36]" + Bounds.turned(2147483612, 0, 36));
        Bounds.gives("{[] 2147483613} back {[36] 0..35}", "[36]" + Bounds.turned(2147483613, 0, 36));
    }

    private static void backBelowZero() {
        Check.sentence("modulo gives 0 to the length less 1, also for X below 0");
        Bounds.gives("{[] -1} back {[3] 1 2 3}", "[3] 3 1 2");
        Bounds.gives("{[] -3} back {[3] 1 2 3}", "[3] 1 2 3");
        Bounds.gives("{[] -4} back {[3] 1 2 3}", "[3] 3 1 2");
        // The least int is 1 above a multiple of 3, 2 above one of 5 and 4 above one of 6.
        Bounds.gives("{[] MIN} back {[2] 1 2}", "[2] 1 2");
        Bounds.gives("{[] MIN} back {[3] 1 2 3}", "[3] 2 3 1");
        Bounds.gives("{[] MIN} back {[5] 1..5}", "[5] 3 4 5 1 2");
        Bounds.gives("{[] MIN} back {[2 6] 1..12}", "[2 6] 5 6 1..4 11 12 7..10");
        Bounds.gives("{[] MIN} back {[36] 0..35}", "[36]" + Bounds.turned(Check.MIN, 0, 36));
        Bounds.gives("{[] -1} back {[36] 0..35}", "[36] 35 0..34");
        Bounds.gives("{[] -37} back {[36] 0..35}", "[36] 35 0..34");
    }
}
