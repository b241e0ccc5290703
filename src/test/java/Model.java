import java.util.ArrayList;
import java.util.List;

/**
 * The document's calls, grammar and tables once more, as near to their words as the Java library allows: spans of the
 * text tried against each rule, recursion, arrays with a shape of any rank. It shares no code with the program.
 */
final class Model {
    /** An error of the language; its code is what run answers. */
    static final class Fault extends RuntimeException {
        private static final long serialVersionUID = 1L;
        final int code;

        Fault(int code) {
            super(null, null, false, false);
            this.code = code;
        }
    }

    /** An array: its shape, and its ravel. */
    record Value(List<Integer> shape, List<Integer> ravel) {
        int rank() {
            return shape.size();
        }

        int last() {
            return shape.get(shape.size() - 1);
        }

        boolean isSingle() {
            return shape.isEmpty();
        }
    }

    final List<Integer> text = new ArrayList<>();

    private final Value[] names = new Value[6];
    private Value result = single(0);

    private Value[] drafts = new Value[6];
    private final int[][] known = new int[32][32];

    static Value single(int n) {
        return new Value(List.of(), List.of(n));
    }

    static Value vector(List<Integer> ravel) {
        return new Value(List.of(ravel.size()), ravel);
    }

    static int volume(List<Integer> shape) {
        int n = 1;
        for (int length : shape) {
            n *= length;
        }
        return n;
    }

    private static boolean isToken(int t) {
        return t >= 0 && t <= 15 || t >= 20 && t <= 27 || t >= 30 && t <= 38 || t >= 40 && t <= 43
                || t >= 50 && t <= 52;
    }

    int tokens(int a, int b, int c, int d) {
        List<Integer> more = new ArrayList<>(List.of(a, b, c, d));
        more.removeIf(t -> t == -1);
        if (!more.stream().allMatch(Model::isToken)) {
            return -1;
        }
        if (text.size() + more.size() > 30) {
            return -2;
        }
        text.addAll(more);
        return text.size();
    }

    int untoken() {
        return text.isEmpty() ? -3 : text.remove(text.size() - 1);
    }

    void clear() {
        text.clear();
    }

    int rank() {
        return result.rank();
    }

    private static int numberOr(int otherwise, List<Integer> list, int i) {
        return i >= 0 && i < list.size() ? list.get(i) : otherwise;
    }

    int length(int i) {
        return numberOr(-3, result.shape, i);
    }

    int size() {
        return result.ravel.size();
    }

    int at(int i) {
        return numberOr(0, result.ravel, i);
    }

    int digest() {
        // No sum of 36 such products leaves a long, so it wraps once, at the end.
        long sum = 0;
        for (int i = 0; i < result.ravel.size(); i++) {
            sum += (i + 1L) * result.ravel.get(i);
        }
        return (int) sum;
    }

    private static boolean isName(int n) {
        return n >= 0 && n <= 5;
    }

    int keep(int n) {
        if (!isName(n)) {
            return -1;
        }
        names[n] = result;
        return 0;
    }

    int show(int n) {
        if (!isName(n) || names[n] == null) {
            return isName(n) ? -11 : -1;
        }
        result = names[n];
        return result.rank();
    }

    int forget(int n) {
        if (!isName(n)) {
            return -1;
        }
        int had = names[n] == null ? 0 : 1;
        names[n] = null;
        return had;
    }

    int put(int i, int x) {
        if (i < 0 || i >= size()) {
            return -3;
        }
        List<Integer> changed = new ArrayList<>(result.ravel);
        int before = changed.set(i, x);
        // A new array: names may have the old one.
        result = new Value(result.shape, changed);
        return before;
    }

    private boolean in(int p, int least, int greatest) {
        return text.get(p) >= least && text.get(p) <= greatest;
    }

    private boolean allNumbers(int from, int to) {
        for (int p = from; p < to; p++) {
            if (!in(p, 0, 9)) {
                return false;
            }
        }
        return from < to;
    }

    private boolean isOperand(int from, int to) {
        return allNumbers(from, to)
                || to == from + 1 && in(from, 10, 15)
                || to >= from + 3 && in(from, 50, 50) && in(to - 1, 51, 51) && isExpression(from + 1, to - 1);
    }

    private boolean isFunction(int from, int to) {
        return switch (to - from) {
            case 1 -> in(from, 20, 27) || in(from, 30, 38);
            case 2 -> in(from, 20, 27) && in(from + 1, 40, 41) || in(from, 42, 42) && in(from + 1, 20, 27);
            case 3 -> in(from, 20, 27) && in(from + 1, 43, 43) && in(from + 2, 20, 27);
            default -> false;
        };
    }

    private boolean isExpression(int from, int to) {
        if (from >= to) {
            return false;
        }
        if (known[from][to] == 0) {
            known[from][to] = isOperand(from, to) || functionEnd(from, to) > 0 || operandEnd(from, to) > 0
                    || isGiving(from, to) ? 1 : 2;
        }
        return known[from][to] == 1;
    }

    private boolean isGiving(int from, int to) {
        return to >= from + 3 && in(from, 10, 15) && in(from + 1, 52, 52) && isExpression(from + 2, to);
    }

    /** Where the function ends if the span is FUNCTION EXPRESSION, else 0. */
    private int functionEnd(int from, int to) {
        for (int k = from + 1; k < to && k <= from + 3; k++) {
            if (isFunction(from, k) && isExpression(k, to)) {
                return k;
            }
        }
        return 0;
    }

    /** Where the operand ends if the span is OPERAND FUNCTION EXPRESSION, else 0. */
    private int operandEnd(int from, int to) {
        for (int k = from + 1; k < to; k++) {
            if (isOperand(from, k) && functionEnd(k, to) > 0) {
                return k;
            }
        }
        return 0;
    }

    boolean reads() {
        for (int[] row : known) {
            java.util.Arrays.fill(row, 0);
        }
        return isExpression(0, text.size());
    }

    int run() {
        if (!reads()) {
            return -10;
        }
        drafts = names.clone();
        try {
            result = expression(0, text.size());
        } catch (Fault fault) {
            return fault.code;
        }
        System.arraycopy(drafts, 0, names, 0, names.length);
        return result.rank();
    }

    private Value expression(int from, int to) {
        if (isOperand(from, to)) {
            return operand(from, to);
        }
        if (isGiving(from, to)) {
            drafts[text.get(from) - 10] = expression(from + 2, to);
            return drafts[text.get(from) - 10];
        }
        int k = functionEnd(from, to);
        if (k > 0) {
            return alone(text.subList(from, k), expression(k, to));
        }
        int end = operandEnd(from, to);
        k = functionEnd(end, to);
        Value y = expression(k, to);
        Value x = operand(from, end);
        return between(text.subList(end, k), x, y);
    }

    private Value operand(int from, int to) {
        if (in(from, 50, 50)) {
            return expression(from + 1, to - 1);
        }
        if (in(from, 10, 15)) {
            need(drafts[text.get(from) - 10] != null, -11);
            return drafts[text.get(from) - 10];
        }
        return to == from + 1 ? single(text.get(from)) : vector(List.copyOf(text.subList(from, to)));
    }

    private static void need(boolean holds, int code) {
        if (!holds) {
            throw new Fault(code);
        }
    }

    private static int scalar(int f, int x, int y) {
        return switch (f) {
            case 20 -> x + y;
            case 21 -> x - y;
            case 22 -> x * y;
            case 23 -> Math.max(x, y);
            case 24 -> Math.min(x, y);
            case 25 -> x == y ? 1 : 0;
            case 26 -> x < y ? 1 : 0;
            default -> x == 0 ? y : (int) Math.floorMod((long) y, Math.abs((long) x));
        };
    }

    private static Value alone(List<Integer> function, Value y) {
        int f = function.get(0);
        if (function.size() == 2 && f != 42) {
            return function.get(1) == 40 ? fold(f, y) : scan(f, y);
        }
        need(function.size() == 1, -12);
        if (f < 30) {
            return scalars(f, single(f == 22 ? 1 : 0), y);
        }
        List<Integer> made = new ArrayList<>();
        switch (f) {
            case 30:
                return vector(y.shape);
            case 31:
                need(y.isSingle(), -13);
                need(y.ravel.get(0) >= 0 && y.ravel.get(0) <= 36, -15);
                for (int i = 0; i < y.ravel.get(0); i++) {
                    made.add(i);
                }
                return vector(made);
            case 32:
                return y.rank() < 2 ? y : turned(y);
            case 33:
                if (y.isSingle()) {
                    return y;
                }
                for (List<Integer> row : rowsOf(y)) {
                    for (int number : row) {
                        made.add(made.size() / row.size() * row.size(), number);
                    }
                }
                return new Value(y.shape, made);
            case 34:
                return single(y.ravel.isEmpty() ? 0 : y.ravel.get(0));
            case 36:
                return vector(y.ravel);
            case 38:
                need(y.rank() == 1, -13);
                for (int i = 0; i < y.ravel.size(); i++) {
                    made.add(i);
                }
                made.sort(java.util.Comparator.comparing(y.ravel::get));
                return vector(made);
            default:
                throw new Fault(-12);
        }
    }

    private static List<List<Integer>> rowsOf(Value y) {
        List<List<Integer>> rows = new ArrayList<>();
        int count = y.rank() == 2 ? y.shape.get(0) : 1;
        for (int r = 0; r < count; r++) {
            rows.add(y.ravel.subList(r * y.last(), (r + 1) * y.last()));
        }
        return rows;
    }

    private static int foldList(int f, List<Integer> list) {
        if (list.isEmpty()) {
            return f == 22 ? 1 : 0;
        }
        return list.size() == 1 ? list.get(0) : scalar(f, list.get(0), foldList(f, list.subList(1, list.size())));
    }

    private static Value fold(int f, Value y) {
        if (y.isSingle()) {
            return y;
        }
        List<Integer> made = new ArrayList<>();
        for (List<Integer> row : rowsOf(y)) {
            made.add(foldList(f, row));
        }
        return y.rank() == 1 ? single(made.get(0)) : vector(made);
    }

    private static Value scan(int f, Value y) {
        if (y.isSingle()) {
            return y;
        }
        List<Integer> made = new ArrayList<>();
        for (List<Integer> row : rowsOf(y)) {
            for (int n = 1; n <= row.size(); n++) {
                made.add(foldList(f, row.subList(0, n)));
            }
        }
        return new Value(y.shape, made);
    }

    private static Value turned(Value y) {
        List<Integer> made = new ArrayList<>();
        for (int c = 0; c < y.last(); c++) {
            for (List<Integer> row : rowsOf(y)) {
                made.add(row.get(c));
            }
        }
        return new Value(List.of(y.last(), y.shape.get(0)), made);
    }

    private static Value between(List<Integer> function, Value x, Value y) {
        int f = function.get(0);
        if (f == 42) {
            return outer(function.get(1), x, y);
        }
        if (function.size() == 3) {
            return inner(f, function.get(2), x, y);
        }
        need(function.size() == 1 && f != 32 && f != 38, -12);
        return switch (f) {
            case 30 -> reshape(x, y);
            case 31 -> places(x, y);
            case 33 -> rotate(x, y);
            case 34 -> take(x, y);
            case 35 -> drop(x, y);
            case 36 -> join(x, y);
            case 37 -> pick(x, y);
            default -> scalars(f, x, y);
        };
    }

    private static Value scalars(int f, Value x, Value y) {
        List<Integer> made = new ArrayList<>();
        if (x.shape.equals(y.shape)) {
            for (int i = 0; i < x.ravel.size(); i++) {
                made.add(scalar(f, x.ravel.get(i), y.ravel.get(i)));
            }
            return new Value(x.shape, made);
        }
        if (x.isSingle()) {
            y.ravel.forEach(n -> made.add(scalar(f, x.ravel.get(0), n)));
            return new Value(y.shape, made);
        }
        if (y.isSingle()) {
            x.ravel.forEach(n -> made.add(scalar(f, n, y.ravel.get(0))));
            return new Value(x.shape, made);
        }
        throw new Fault(x.rank() != y.rank() ? -13 : -14);
    }

    private static List<Integer> chain(List<Integer> first, List<Integer> second) {
        List<Integer> both = new ArrayList<>(first);
        both.addAll(second);
        return both;
    }

    private static boolean isArray(List<Integer> shape) {
        int most = shape.size() == 2 ? 6 : 36;
        return shape.size() <= 2 && shape.stream().allMatch(n -> n <= most);
    }

    private static Value outer(int f, Value x, Value y) {
        need(x.rank() + y.rank() <= 2, -13);
        List<Integer> shape = chain(x.shape, y.shape);
        need(isArray(shape), -16);
        List<Integer> made = new ArrayList<>();
        for (int m : x.ravel) {
            for (int n : y.ravel) {
                made.add(scalar(f, m, n));
            }
        }
        return new Value(shape, made);
    }

    private static Value inner(int f, int g, Value x, Value y) {
        need(!x.isSingle() && !y.isSingle(), -13);
        need(x.last() == y.shape.get(0), -14);
        List<Integer> shape = chain(x.shape.subList(0, x.rank() - 1), y.shape.subList(1, y.rank()));
        List<List<Integer>> columns = y.rank() == 1 ? List.of(y.ravel) : rowsOf(turned(y));
        List<Integer> made = new ArrayList<>();
        for (List<Integer> row : rowsOf(x)) {
            for (List<Integer> column : columns) {
                made.add(foldList(f, scalars(g, vector(row), vector(column)).ravel));
            }
        }
        return new Value(shape, made);
    }

    private static Value reshape(Value x, Value y) {
        need(x.rank() != 2, -13);
        need(x.ravel.size() <= 2, -14);
        for (int n : x.ravel) {
            need(n >= 0 && n <= (x.ravel.size() == 1 ? 36 : 6), -15);
        }
        List<Integer> made = new ArrayList<>();
        for (int i = 0; i < volume(x.ravel); i++) {
            made.add(y.ravel.isEmpty() ? 0 : y.ravel.get(i % y.ravel.size()));
        }
        return new Value(x.ravel, made);
    }

    private static Value places(Value x, Value y) {
        need(x.rank() == 1, -13);
        List<Integer> made = new ArrayList<>();
        for (int n : y.ravel) {
            made.add(x.ravel.contains(n) ? x.ravel.indexOf(n) : x.ravel.size());
        }
        return new Value(y.shape, made);
    }

    private static Value rotate(Value x, Value y) {
        need(x.isSingle(), -13);
        if (y.isSingle()) {
            return y;
        }
        List<Integer> made = new ArrayList<>();
        for (List<Integer> row : rowsOf(y)) {
            for (int i = 0; i < row.size(); i++) {
                made.add(row.get((int) Math.floorMod((long) i + x.ravel.get(0), (long) row.size())));
            }
        }
        return new Value(y.shape, made);
    }

    /** The rows of a matrix; for a lower rank each number as a row of its own. */
    private static List<List<Integer>> lines(Value y) {
        if (y.rank() == 2) {
            return new ArrayList<>(rowsOf(y));
        }
        List<List<Integer>> lines = new ArrayList<>();
        y.ravel.forEach(n -> lines.add(List.of(n)));
        return lines;
    }

    private static Value fromLines(Value like, List<List<Integer>> lines) {
        List<Integer> made = new ArrayList<>();
        lines.forEach(made::addAll);
        return like.rank() == 2 ? new Value(List.of(lines.size(), like.last()), made) : vector(made);
    }

    private static Value take(Value x, Value y) {
        need(x.isSingle(), -13);
        int n = x.ravel.get(0);
        int most = y.rank() == 2 ? 6 : 36;
        need(n >= -most && n <= most, -15);
        List<List<Integer>> lines = lines(y);
        List<Integer> zeros = java.util.Collections.nCopies(y.rank() == 2 ? y.last() : 1, 0);
        while (lines.size() < Math.abs(n)) {
            lines.add(n < 0 ? 0 : lines.size(), zeros);
        }
        int start = n < 0 ? lines.size() + n : 0;
        return fromLines(y, lines.subList(start, start + Math.abs(n)));
    }

    private static Value drop(Value x, Value y) {
        need(x.isSingle(), -13);
        List<List<Integer>> lines = lines(y);
        for (long n = x.ravel.get(0); n != 0 && !lines.isEmpty(); n -= Long.signum(n)) {
            lines.remove(n > 0 ? 0 : lines.size() - 1);
        }
        return fromLines(y, lines);
    }

    private static Value join(Value x, Value y) {
        Value left = x.isSingle() ? vector(x.ravel) : x;
        Value right = y.isSingle() ? vector(y.ravel) : y;
        need(left.rank() == right.rank(), -13);
        if (left.rank() == 1) {
            need(left.last() + right.last() <= 36, -16);
            return vector(chain(left.ravel, right.ravel));
        }
        need(left.shape.get(0).equals(right.shape.get(0)), -14);
        need(left.last() + right.last() <= 6, -16);
        List<Integer> made = new ArrayList<>();
        for (int r = 0; r < left.shape.get(0); r++) {
            made.addAll(rowsOf(left).get(r));
            made.addAll(rowsOf(right).get(r));
        }
        return new Value(List.of(left.shape.get(0), left.last() + right.last()), made);
    }

    private static Value pick(Value x, Value y) {
        need(x.rank() < 2 && y.rank() > 0, -13);
        for (int n : x.ravel) {
            need(n >= 0 && n < y.shape.get(0), -15);
        }
        List<Integer> shape = chain(x.shape, y.shape.subList(1, y.rank()));
        need(isArray(shape), -16);
        List<Integer> made = new ArrayList<>();
        x.ravel.forEach(n -> made.addAll(lines(y).get(n)));
        return new Value(shape, made);
    }
}
