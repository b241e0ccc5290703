/**
 * Statements of a small language of arrays, read from right to left: which texts are statements,
 * and what they make of arrays and names.
 */
public final class ArrayWords {
    public static final int BAD_ARG = -1;
    public static final int FULL = -2;
    public static final int NONE = -3;
    public static final int SYNTAX = -10;
    public static final int VALUE = -11;
    public static final int VALENCE = -12;
    public static final int RANK = -13;
    public static final int LENGTH = -14;
    public static final int DOMAIN = -15;
    public static final int LIMIT = -16;

    private static final int MOST_TOKENS = 30;
    private static final int MOST_NUMBERS = 36;
    private static final int MOST_LINES = 6;
    private static final int NAME_COUNT = 6;

    private static final int NO_TOKEN = -1;
    private static final int LAST_NUMBER = 9;
    private static final int NAME = 10;
    private static final int LAST_NAME = 15;
    private static final int PLUS = 20;
    private static final int MINUS = 21;
    private static final int TIMES = 22;
    private static final int GREATER = 23;
    private static final int LESSER = 24;
    private static final int EQUAL = 25;
    private static final int LESS = 26;
    private static final int REST = 27;
    private static final int SHAPE = 30;
    private static final int COUNT = 31;
    private static final int TURN = 32;
    private static final int BACK = 33;
    private static final int TAKE = 34;
    private static final int DROP = 35;
    private static final int JOIN = 36;
    private static final int PICK = 37;
    private static final int RISE = 38;
    private static final int SLASH = 40;
    private static final int BACKSLASH = 41;
    private static final int OUTER = 42;
    private static final int DOT = 43;
    private static final int OPEN = 50;
    private static final int CLOSE = 51;
    private static final int BECOMES = 52;

    // What a text, read from left to right, ends with so far.
    private static final int WRONG = 0;
    private static final int AT_START = 1;
    private static final int AFTER_SCALAR = 2;
    private static final int BEFORE_SCALAR = 3;
    private static final int AFTER_NUMBER = 4;
    private static final int AFTER_NAME = 5;
    private static final int AFTER_CLOSE = 6;

    // Each array lives in a holder; a run writes names to drafts, so that an error leaves the names alone.
    private static final int RESULT = 0;
    private static final int NAMES = 1;
    private static final int DRAFTS = NAMES + NAME_COUNT;
    private static final int MADE = DRAFTS + NAME_COUNT;
    private static final int LEVELS = MADE + 1;
    private static final int MOST_LEVELS = MOST_TOKENS + 2;
    private static final int HOLDERS = LEVELS + MOST_LEVELS;
    private static final int NUMBER_PLACES = HOLDERS * MOST_NUMBERS;

    private static final int NOT_WAITING = -1;

    private final int[] text = new int[MOST_TOKENS];
    private int tokenCount = 0;

    // Ranks 0 and 1 count as one row, so that what works row by row needs to know nothing of ranks.
    private final int[] ranks = new int[HOLDERS];
    private final int[] rows = new int[HOLDERS];
    private final int[] columns = new int[HOLDERS];
    private final int[] numbers = new int[NUMBER_PLACES];
    private final boolean[] given = new boolean[HOLDERS];

    // Level n is inside n brackets: holder LEVELS + n has its right array, the next holder its left one.
    private final int[] waiting = new int[MOST_LEVELS];
    private int level = 0;

    public ArrayWords() {
        setShape(RESULT, 0, 1, 1);
    }

    public int tokens(int a, int b, int c, int d) {
        if (!mayAppend(a) || !mayAppend(b) || !mayAppend(c) || !mayAppend(d)) {
            return BAD_ARG;
        }
        int more = (a == NO_TOKEN ? 0 : 1) + (b == NO_TOKEN ? 0 : 1) + (c == NO_TOKEN ? 0 : 1) + (d == NO_TOKEN ? 0 : 1);
        if (tokenCount + more > MOST_TOKENS) {
            return FULL;
        }
        append(a);
        append(b);
        append(c);
        append(d);
        return tokenCount;
    }

    public int untoken() {
        if (tokenCount == 0) {
            return NONE;
        }
        tokenCount--;
        return text[tokenCount];
    }

    public void clear() {
        tokenCount = 0;
    }

    public boolean reads() {
        int state = AT_START;
        int open = 0;
        for (int p = 0; p < tokenCount; p++) {
            int token = text[p];
            state = stateAfter(state, token);
            open += token == OPEN ? 1 : token == CLOSE ? -1 : 0;
            if (state == WRONG || open < 0) {
                return false;
            }
        }
        return open == 0 && endsOperand(state);
    }

    public int run() {
        if (!reads()) {
            return SYNTAX;
        }
        copyNames(NAMES, DRAFTS);
        level = 0;
        waiting[0] = NOT_WAITING;
        int code = 0;
        for (int p = tokenCount - 1; p >= 0 && code == 0; p--) {
            code = visit(p);
        }
        if (code == 0) {
            code = workAlone();
        }
        if (code != 0) {
            return code;
        }
        copyNames(DRAFTS, NAMES);
        copyArray(LEVELS, RESULT);
        return ranks[RESULT];
    }

    public int rank() {
        return ranks[RESULT];
    }

    public int length(int i) {
        if (i < 0 || i >= ranks[RESULT]) {
            return NONE;
        }
        return i == 0 ? firstLength(RESULT) : columns[RESULT];
    }

    public int size() {
        return sizeOf(RESULT);
    }

    public int at(int i) {
        return i >= 0 && i < sizeOf(RESULT) ? numbers[RESULT * MOST_NUMBERS + i] : 0;
    }

    public int digest() {
        int sum = 0;
        int end = sizeOf(RESULT);
        for (int i = 0; i < end; i++) {
            sum += (i + 1) * numbers[RESULT * MOST_NUMBERS + i];
        }
        return sum;
    }

    public int keep(int n) {
        if (!isName(n)) {
            return BAD_ARG;
        }
        copyArray(RESULT, NAMES + n);
        given[NAMES + n] = true;
        return 0;
    }

    public int show(int n) {
        if (!isName(n)) {
            return BAD_ARG;
        }
        if (!given[NAMES + n]) {
            return VALUE;
        }
        copyArray(NAMES + n, RESULT);
        return ranks[RESULT];
    }

    public int forget(int n) {
        if (!isName(n)) {
            return BAD_ARG;
        }
        boolean had = given[NAMES + n];
        given[NAMES + n] = false;
        return had ? 1 : 0;
    }

    public int put(int i, int x) {
        if (i < 0 || i >= sizeOf(RESULT)) {
            return NONE;
        }
        int before = numbers[RESULT * MOST_NUMBERS + i];
        numbers[RESULT * MOST_NUMBERS + i] = x;
        return before;
    }

    private static boolean isName(int n) {
        return n >= 0 && n < NAME_COUNT;
    }

    private static boolean isNumberToken(int token) {
        return token >= 0 && token <= LAST_NUMBER;
    }

    private static boolean isNameToken(int token) {
        return token >= NAME && token <= LAST_NAME;
    }

    private static boolean isScalar(int token) {
        return token >= PLUS && token <= REST;
    }

    private static boolean isMixed(int token) {
        return token >= SHAPE && token <= RISE;
    }

    private static boolean mayAppend(int token) {
        return token == NO_TOKEN || isNumberToken(token) || isNameToken(token) || isScalar(token) || isMixed(token)
                || token >= SLASH && token <= DOT || token >= OPEN && token <= BECOMES;
    }

    private void append(int token) {
        if (token != NO_TOKEN && tokenCount < MOST_TOKENS) {
            text[tokenCount] = token;
            tokenCount++;
        }
    }

    private static boolean endsOperand(int state) {
        return state == AFTER_NUMBER || state == AFTER_NAME || state == AFTER_CLOSE;
    }

    private static int stateAfter(int state, int token) {
        if (state == BEFORE_SCALAR) {
            return isScalar(token) ? AT_START : WRONG;
        }
        if (state == AFTER_SCALAR && (token == SLASH || token == BACKSLASH)) {
            return AT_START;
        }
        if (state == AFTER_SCALAR && token == DOT) {
            return BEFORE_SCALAR;
        }
        if (isScalar(token)) {
            return AFTER_SCALAR;
        }
        if (isMixed(token)) {
            return AT_START;
        }
        if (token == OUTER) {
            return BEFORE_SCALAR;
        }
        return endsOperand(state) ? stateBehindOperand(state, token) : stateInOperand(token);
    }

    private static int stateInOperand(int token) {
        if (isNumberToken(token)) {
            return AFTER_NUMBER;
        }
        if (isNameToken(token)) {
            return AFTER_NAME;
        }
        return token == OPEN ? AT_START : WRONG;
    }

    private static int stateBehindOperand(int state, int token) {
        if (state == AFTER_NUMBER && isNumberToken(token)) {
            return AFTER_NUMBER;
        }
        if (state == AFTER_NAME && token == BECOMES) {
            return AT_START;
        }
        return token == CLOSE ? AFTER_CLOSE : WRONG;
    }

    private void setShape(int a, int rank, int rowCount, int columnCount) {
        ranks[a] = rank;
        rows[a] = rowCount;
        columns[a] = columnCount;
    }

    private int sizeOf(int a) {
        return rows[a] * columns[a];
    }

    private int firstLength(int a) {
        return ranks[a] == 2 ? rows[a] : columns[a];
    }

    private void copyArray(int from, int to) {
        setShape(to, ranks[from], rows[from], columns[from]);
        for (int i = 0; i < MOST_NUMBERS; i++) {
            numbers[to * MOST_NUMBERS + i] = numbers[from * MOST_NUMBERS + i];
        }
    }

    private void copyNames(int from, int to) {
        for (int n = 0; n < NAME_COUNT; n++) {
            copyArray(from + n, to + n);
            given[to + n] = given[from + n];
        }
    }

    private int tokenAt(int p) {
        return p >= 0 && p < tokenCount ? text[p] : NO_TOKEN;
    }

    private boolean startsOperand(int p) {
        int token = tokenAt(p);
        if (isNumberToken(token)) {
            int before = tokenAt(p - 1);
            return !isNumberToken(before);
        }
        return isNameToken(token) && tokenAt(p + 1) != BECOMES;
    }

    private boolean startsFunction(int p) {
        int token = tokenAt(p);
        if (isScalar(token)) {
            int before = tokenAt(p - 1);
            return before != OUTER && before != DOT;
        }
        return isMixed(token) || token == OUTER;
    }

    /** Does what is due when the reading from right to left comes to token p; answers 0 or an error. */
    private int visit(int p) {
        int token = tokenAt(p);
        if (token == CLOSE) {
            level++;
            waiting[level] = NOT_WAITING;
            return 0;
        }
        if (startsOperand(p)) {
            int code = loadOperand(p);
            return code != 0 ? code : workWithLeft();
        }
        boolean function = startsFunction(p);
        boolean named = isNameToken(token) && tokenAt(p + 1) == BECOMES;
        if (!function && !named && token != OPEN) {
            return 0;
        }
        // Only now is it sure that the function waiting here has no left array.
        int code = workAlone();
        if (code != 0) {
            return code;
        }
        if (token == OPEN) {
            level--;
            return workWithLeft();
        }
        if (function) {
            waiting[level] = p;
        } else {
            copyArray(LEVELS + level, DRAFTS + token - NAME);
            given[DRAFTS + token - NAME] = true;
        }
        return 0;
    }

    private int loadOperand(int p) {
        int to = LEVELS + level + 1;
        int token = tokenAt(p);
        if (isNameToken(token)) {
            if (!given[DRAFTS + token - NAME]) {
                return VALUE;
            }
            copyArray(DRAFTS + token - NAME, to);
            return 0;
        }
        int count = 0;
        for (int i = p; i < tokenCount && isNumberToken(text[i]); i++) {
            numbers[to * MOST_NUMBERS + count] = text[i];
            count++;
        }
        setShape(to, count == 1 ? 0 : 1, 1, count);
        return 0;
    }

    /** Which of the cases below the function at p is: its mixed token, its operator, or PLUS for any scalar one. */
    private int caseOf(int p) {
        int token = tokenAt(p);
        if (!isScalar(token)) {
            return token;
        }
        int behind = tokenAt(p + 1);
        return behind == SLASH || behind == BACKSLASH || behind == DOT ? behind : PLUS;
    }

    /** Puts the function that waits at this level, if one does, to its right array alone; answers 0 or an error. */
    private int workAlone() {
        int p = waiting[level];
        if (p < 0) {
            return 0;
        }
        waiting[level] = NOT_WAITING;
        int y = LEVELS + level;
        int code = 0;
        switch (caseOf(p)) {
            case PLUS: scalarAlone(text[p], y); break;
            case SLASH: foldRows(text[p], y); break;
            case BACKSLASH: foldStarts(text[p], y); break;
            case SHAPE: shapeOf(y); break;
            case COUNT: code = countTo(y); break;
            case TURN: turnOver(y); break;
            case BACK: reverseRows(y); break;
            case TAKE: takeFirst(y); break;
            case JOIN: ravel(y); break;
            case RISE: code = risingPlaces(y); break;
            default: code = VALENCE;
        }
        if (code == 0) {
            copyArray(MADE, y);
        }
        return code;
    }

    /** Puts the waiting function between the operand just read and the right array; answers 0 or an error. */
    private int workWithLeft() {
        int p = waiting[level];
        int y = LEVELS + level;
        int x = y + 1;
        if (p < 0) {
            copyArray(x, y);
            return 0;
        }
        waiting[level] = NOT_WAITING;
        int second = tokenAt(p + 1);
        int third = tokenAt(p + 2);
        int code;
        switch (caseOf(p)) {
            case PLUS: code = scalarBetween(text[p], x, y); break;
            case OUTER: code = outerTable(second, x, y); break;
            case DOT: code = innerTable(text[p], third, x, y); break;
            case SHAPE: code = reshape(x, y); break;
            case COUNT: code = firstPlaces(x, y); break;
            case BACK: code = rotate(x, y); break;
            case TAKE: code = takeLines(x, y); break;
            case DROP: code = dropLines(x, y); break;
            case JOIN: code = joinBoth(x, y); break;
            case PICK: code = pickLines(x, y); break;
            default: code = VALENCE;
        }
        if (code == 0) {
            copyArray(MADE, y);
        }
        return code;
    }

    private static int scalar(int f, int x, int y) {
        switch (f) {
            case PLUS: return x + y;
            case MINUS: return x - y;
            case TIMES: return x * y;
            case GREATER: return x > y ? x : y;
            case LESSER: return x < y ? x : y;
            case EQUAL: return x == y ? 1 : 0;
            case LESS: return x < y ? 1 : 0;
            default: break;
        }
        if (x == 0) {
            return y;
        }
        // As a long the least int too can lose its sign.
        long divisor = x < 0 ? -(long) x : x;
        long rest = y % divisor;
        return (int) (rest < 0 ? rest + divisor : rest);
    }

    private static int neutral(int f) {
        return f == TIMES ? 1 : 0;
    }

    private void scalarAlone(int f, int y) {
        int x = neutral(f);
        int end = sizeOf(y);
        setShape(MADE, ranks[y], rows[y], columns[y]);
        for (int i = 0; i < end; i++) {
            numbers[MADE * MOST_NUMBERS + i] = scalar(f, x, numbers[y * MOST_NUMBERS + i]);
        }
    }

    private int scalarBetween(int f, int x, int y) {
        boolean same = ranks[x] == ranks[y] && rows[x] == rows[y] && columns[x] == columns[y];
        if (!same && ranks[x] != 0 && ranks[y] != 0) {
            return ranks[x] != ranks[y] ? RANK : LENGTH;
        }
        int shaped = ranks[x] == 0 ? y : x;
        int stepX = ranks[x] == 0 ? 0 : 1;
        int stepY = ranks[y] == 0 ? 0 : 1;
        int end = sizeOf(shaped);
        setShape(MADE, ranks[shaped], rows[shaped], columns[shaped]);
        for (int i = 0; i < end; i++) {
            int left = numbers[x * MOST_NUMBERS + i * stepX];
            int right = numbers[y * MOST_NUMBERS + i * stepY];
            numbers[MADE * MOST_NUMBERS + i] = scalar(f, left, right);
        }
        return 0;
    }

    /** What f makes of the count numbers from start on, worked from the last one back. */
    private int fold(int f, int start, int count) {
        if (count == 0) {
            return neutral(f);
        }
        int folded = numbers[start + count - 1];
        for (int i = count - 2; i >= 0; i--) {
            folded = scalar(f, numbers[start + i], folded);
        }
        return folded;
    }

    private void foldRows(int f, int y) {
        int width = columns[y];
        // The one row of rank 0 or 1 gives rank 0.
        setShape(MADE, ranks[y] == 2 ? 1 : 0, 1, rows[y]);
        for (int r = 0; r < rows[y]; r++) {
            numbers[MADE * MOST_NUMBERS + r] = fold(f, y * MOST_NUMBERS + r * width, width);
        }
    }

    private void foldStarts(int f, int y) {
        int width = columns[y];
        setShape(MADE, ranks[y], rows[y], width);
        for (int r = 0; r < rows[y]; r++) {
            for (int c = 0; c < width; c++) {
                int folded = fold(f, y * MOST_NUMBERS + r * width, c + 1);
                numbers[MADE * MOST_NUMBERS + r * width + c] = folded;
            }
        }
    }

    private int outerTable(int f, int x, int y) {
        if (ranks[x] + ranks[y] > 2) {
            return RANK;
        }
        int sizeX = sizeOf(x);
        int sizeY = sizeOf(y);
        if (ranks[x] == 1 && ranks[y] == 1) {
            if (sizeX > MOST_LINES || sizeY > MOST_LINES) {
                return LIMIT;
            }
            setShape(MADE, 2, sizeX, sizeY);
        } else {
            int shaped = ranks[x] == 0 ? y : x;
            setShape(MADE, ranks[shaped], rows[shaped], columns[shaped]);
        }
        for (int i = 0; i < sizeX; i++) {
            for (int j = 0; j < sizeY; j++) {
                int made = scalar(f, numbers[x * MOST_NUMBERS + i], numbers[y * MOST_NUMBERS + j]);
                numbers[MADE * MOST_NUMBERS + i * sizeY + j] = made;
            }
        }
        return 0;
    }

    private int innerTable(int f, int g, int x, int y) {
        if (ranks[x] == 0 || ranks[y] == 0) {
            return RANK;
        }
        if (columns[x] != firstLength(y)) {
            return LENGTH;
        }
        // A vector on the right is one column, though it is held as one row.
        int width = ranks[y] == 2 ? columns[y] : 1;
        if (ranks[x] == 2 && ranks[y] == 2) {
            setShape(MADE, 2, rows[x], width);
        } else {
            setShape(MADE, ranks[x] + ranks[y] - 2, 1, rows[x] * width);
        }
        for (int r = 0; r < rows[x]; r++) {
            for (int c = 0; c < width; c++) {
                int rowStart = x * MOST_NUMBERS + r * columns[x];
                int columnStart = y * MOST_NUMBERS + c;
                int made = innerNumber(f, g, rowStart, columnStart, width, columns[x]);
                numbers[MADE * MOST_NUMBERS + r * width + c] = made;
            }
        }
        return 0;
    }

    private int innerNumber(int f, int g, int rowStart, int columnStart, int step, int count) {
        int folded = neutral(f);
        for (int k = count - 1; k >= 0; k--) {
            int made = scalar(g, numbers[rowStart + k], numbers[columnStart + k * step]);
            folded = k == count - 1 ? made : scalar(f, made, folded);
        }
        return folded;
    }

    private void shapeOf(int y) {
        setShape(MADE, 1, 1, ranks[y]);
        numbers[MADE * MOST_NUMBERS] = firstLength(y);
        numbers[MADE * MOST_NUMBERS + 1] = columns[y];
    }

    private int reshape(int x, int y) {
        int count = sizeOf(x);
        if (ranks[x] == 2) {
            return RANK;
        }
        if (count > 2) {
            return LENGTH;
        }
        int most = count == 1 ? MOST_NUMBERS : MOST_LINES;
        for (int i = 0; i < count; i++) {
            int wanted = numbers[x * MOST_NUMBERS + i];
            if (wanted < 0 || wanted > most) {
                return DOMAIN;
            }
        }
        int rowCount = count == 2 ? numbers[x * MOST_NUMBERS] : 1;
        int columnCount = count == 0 ? 1 : numbers[x * MOST_NUMBERS + count - 1];
        setShape(MADE, count, rowCount, columnCount);
        int had = sizeOf(y);
        for (int i = 0; i < rowCount * columnCount; i++) {
            numbers[MADE * MOST_NUMBERS + i] = had == 0 ? 0 : numbers[y * MOST_NUMBERS + i % had];
        }
        return 0;
    }

    private int countTo(int y) {
        if (ranks[y] != 0) {
            return RANK;
        }
        int end = numbers[y * MOST_NUMBERS];
        if (end < 0 || end > MOST_NUMBERS) {
            return DOMAIN;
        }
        setShape(MADE, 1, 1, end);
        for (int i = 0; i < end; i++) {
            numbers[MADE * MOST_NUMBERS + i] = i;
        }
        return 0;
    }

    private int firstPlaces(int x, int y) {
        if (ranks[x] != 1) {
            return RANK;
        }
        int end = sizeOf(y);
        setShape(MADE, ranks[y], rows[y], columns[y]);
        for (int i = 0; i < end; i++) {
            numbers[MADE * MOST_NUMBERS + i] = firstPlace(x, numbers[y * MOST_NUMBERS + i]);
        }
        return 0;
    }

    private int firstPlace(int x, int wanted) {
        for (int i = 0; i < columns[x]; i++) {
            if (numbers[x * MOST_NUMBERS + i] == wanted) {
                return i;
            }
        }
        return columns[x];
    }

    private void turnOver(int y) {
        if (ranks[y] != 2) {
            copyArray(y, MADE);
            return;
        }
        setShape(MADE, 2, columns[y], rows[y]);
        for (int r = 0; r < rows[y]; r++) {
            for (int c = 0; c < columns[y]; c++) {
                int number = numbers[y * MOST_NUMBERS + r * columns[y] + c];
                numbers[MADE * MOST_NUMBERS + c * rows[y] + r] = number;
            }
        }
    }

    private void reverseRows(int y) {
        int width = columns[y];
        setShape(MADE, ranks[y], rows[y], width);
        for (int r = 0; r < rows[y]; r++) {
            for (int c = 0; c < width; c++) {
                int number = numbers[y * MOST_NUMBERS + r * width + width - 1 - c];
                numbers[MADE * MOST_NUMBERS + r * width + c] = number;
            }
        }
    }

    private int rotate(int x, int y) {
        if (ranks[x] != 0) {
            return RANK;
        }
        int width = columns[y];
        setShape(MADE, ranks[y], rows[y], width);
        // The rest by the length comes before i is added, so that the sum can't wrap.
        int shift = width == 0 ? 0 : scalar(REST, width, numbers[x * MOST_NUMBERS]);
        for (int r = 0; r < rows[y]; r++) {
            for (int c = 0; c < width; c++) {
                int from = (c + shift) % width;
                numbers[MADE * MOST_NUMBERS + r * width + c] = numbers[y * MOST_NUMBERS + r * width + from];
            }
        }
        return 0;
    }

    private void takeFirst(int y) {
        int first = sizeOf(y) == 0 ? 0 : numbers[y * MOST_NUMBERS];
        setShape(MADE, 0, 1, 1);
        numbers[MADE * MOST_NUMBERS] = first;
    }

    private int takeLines(int x, int y) {
        if (ranks[x] != 0) {
            return RANK;
        }
        int most = ranks[y] == 2 ? MOST_LINES : MOST_NUMBERS;
        int wanted = numbers[x * MOST_NUMBERS];
        if (wanted < -most || wanted > most) {
            return DOMAIN;
        }
        int count = wanted < 0 ? -wanted : wanted;
        int start = wanted < 0 ? firstLength(y) - count : 0;
        makeLines(y, start, count);
        return 0;
    }

    private int dropLines(int x, int y) {
        if (ranks[x] != 0) {
            return RANK;
        }
        int had = firstLength(y);
        int unwanted = numbers[x * MOST_NUMBERS];
        // Cut down to what there is before the sign goes, which the least int could not lose.
        int bounded = unwanted > had ? had : unwanted < -had ? -had : unwanted;
        int count = bounded < 0 ? had + bounded : had - bounded;
        int start = bounded < 0 ? 0 : bounded;
        makeLines(y, start, count);
        return 0;
    }

    /** Makes the array of count rows of y from start on, or numbers if y is no matrix, with 0s outside of y. */
    private void makeLines(int y, int start, int count) {
        boolean matrix = ranks[y] == 2;
        int width = matrix ? columns[y] : 1;
        int had = sizeOf(y);
        setShape(MADE, matrix ? 2 : 1, matrix ? count : 1, matrix ? width : count);
        for (int i = 0; i < count * width; i++) {
            int from = start * width + i;
            boolean inside = from >= 0 && from < had;
            numbers[MADE * MOST_NUMBERS + i] = inside ? numbers[y * MOST_NUMBERS + from] : 0;
        }
    }

    private void ravel(int y) {
        int end = sizeOf(y);
        copyArray(y, MADE);
        setShape(MADE, 1, 1, end);
    }

    private int joinBoth(int x, int y) {
        boolean matrix = ranks[x] == 2;
        if (matrix != (ranks[y] == 2)) {
            return RANK;
        }
        if (rows[x] != rows[y]) {
            return LENGTH;
        }
        int width = columns[x] + columns[y];
        if (width > (matrix ? MOST_LINES : MOST_NUMBERS)) {
            return LIMIT;
        }
        setShape(MADE, matrix ? 2 : 1, rows[x], width);
        for (int r = 0; r < rows[x]; r++) {
            int start = MADE * MOST_NUMBERS + r * width;
            for (int c = 0; c < columns[x]; c++) {
                numbers[start + c] = numbers[x * MOST_NUMBERS + r * columns[x] + c];
            }
            for (int c = 0; c < columns[y]; c++) {
                numbers[start + columns[x] + c] = numbers[y * MOST_NUMBERS + r * columns[y] + c];
            }
        }
        return 0;
    }

    private int pickLines(int x, int y) {
        if (ranks[x] == 2 || ranks[y] == 0) {
            return RANK;
        }
        int count = columns[x];
        int had = firstLength(y);
        for (int i = 0; i < count; i++) {
            int wanted = numbers[x * MOST_NUMBERS + i];
            if (wanted < 0 || wanted >= had) {
                return DOMAIN;
            }
        }
        boolean matrix = ranks[y] == 2;
        if (matrix && count > MOST_LINES) {
            return LIMIT;
        }
        int width = matrix ? columns[y] : 1;
        int rank = ranks[x] + ranks[y] - 1;
        setShape(MADE, rank, rank == 2 ? count : 1, rank == 2 ? width : count * width);
        for (int i = 0; i < count; i++) {
            for (int c = 0; c < width; c++) {
                int from = numbers[x * MOST_NUMBERS + i] * width + c;
                numbers[MADE * MOST_NUMBERS + i * width + c] = numbers[y * MOST_NUMBERS + from];
            }
        }
        return 0;
    }

    private int risingPlaces(int y) {
        if (ranks[y] != 1) {
            return RANK;
        }
        setShape(MADE, 1, 1, columns[y]);
        for (int i = 0; i < columns[y]; i++) {
            numbers[MADE * MOST_NUMBERS + risenPlace(y, i)] = i;
        }
        return 0;
    }

    private int risenPlace(int y, int i) {
        int number = numbers[y * MOST_NUMBERS + i];
        int place = 0;
        for (int j = 0; j < columns[y]; j++) {
            int other = numbers[y * MOST_NUMBERS + j];
            if (other < number || other == number && j < i) {
                place++;
            }
        }
        return place;
    }
}
