import java.util.ArrayList;
import java.util.List;

/** Numbers and texts drawn from a fixed seed, so that each run of a test draws the same ones. */
final class Draw {
    private static final int[] ODD = {Check.MIN, Check.MIN + 1, -37, -36, -7, -6, -2, -1, 0, 1, 2, 5, 6, 7, 35, 36, 37,
        Check.MAX - 1, Check.MAX};

    private static long state = 20261115L;

    private Draw() {
    }

    static int below(int n) {
        state += 0x9E3779B97F4A7C15L;
        long mixed = (state ^ state >>> 30) * 0xBF58476D1CE4E5B9L;
        mixed = (mixed ^ mixed >>> 27) * 0x94D049BB133111EBL;
        return (int) ((mixed >>> 33) % n);
    }

    static boolean oneIn(int n) {
        return below(n) == 0;
    }

    static int oddNumber() {
        return ODD[below(ODD.length)];
    }

    /** A text for a matrix, a vector or a number. */
    static List<Integer> someShape() {
        return switch (below(6)) {
            case 0, 1 -> List.of(below(7), below(7), 30, 31, 1 + below(9));
            case 2 -> List.of(20 + below(8), 31, below(7), 22, below(7));
            case 3 -> List.of(below(8), 30, below(3), below(3));
            case 4 -> List.of(31, below(10));
            default -> List.of(below(10));
        };
    }

    static List<Integer> someText() {
        List<Integer> text = new ArrayList<>();
        addExpression(text, below(4));
        while (text.size() > 30) {
            text.clear();
            addExpression(text, below(3));
        }
        if (oneIn(8)) {
            spoil(text);
        }
        return text;
    }

    /** The text as arguments of calls, three tokens in each and a gap before, between or behind them. */
    static List<int[]> inFours(List<Integer> text) {
        List<int[]> calls = new ArrayList<>();
        for (int p = 0; p < text.size(); p += 3) {
            int[] four = {-1, -1, -1, -1};
            int gap = below(4);
            for (int k = 0; k < 3 && p + k < text.size(); k++) {
                four[k < gap ? k : k + 1] = text.get(p + k);
            }
            calls.add(four);
        }
        return calls;
    }

    static int anyToken() {
        int t = below(53);
        while (!Check.isToken(t)) {
            t = below(53);
        }
        return t;
    }

    private static void spoil(List<Integer> text) {
        for (int k = 1 + below(2); k > 0; k--) {
            int p = below(text.size() + 1);
            if (oneIn(3) && text.size() < 30) {
                text.add(p, anyToken());
            } else if (p < text.size() && oneIn(2)) {
                text.set(p, anyToken());
            } else if (p < text.size()) {
                text.remove(p);
            }
        }
    }

    private static void addExpression(List<Integer> text, int depth) {
        int kind = depth == 0 ? 0 : below(8);
        if (kind == 0) {
            addOperand(text, depth);
        } else if (kind == 1) {
            text.add(10 + below(6));
            text.add(52);
            addExpression(text, depth - 1);
        } else {
            if (kind > 3) {
                addOperand(text, depth - 1);
            }
            addFunction(text);
            addExpression(text, depth - 1);
        }
    }

    private static void addOperand(List<Integer> text, int depth) {
        int kind = below(depth > 0 ? 6 : 4);
        if (kind < 2) {
            text.add(10 + below(6));
        } else if (kind == 2) {
            for (int k = oneIn(2) ? 0 : below(8); k >= 0; k--) {
                text.add(oneIn(2) ? below(2) : below(10));
            }
        } else if (kind == 3) {
            // Small shapes, among them those with no number.
            text.add(50);
            for (int k = below(3); k > 0; k--) {
                text.add(below(4));
            }
            text.add(below(7));
            text.add(30);
            text.add(oneIn(2) ? 10 + below(6) : below(10));
            text.add(51);
        } else {
            text.add(50);
            addExpression(text, depth - 1);
            text.add(51);
        }
    }

    private static void addFunction(List<Integer> text) {
        int f = 20 + below(8);
        switch (below(12)) {
            case 0, 1 -> text.add(f);
            case 2 -> text.addAll(List.of(f, 40 + below(2)));
            case 3 -> text.addAll(List.of(42, f));
            case 4 -> text.addAll(List.of(f, 43, 20 + below(8)));
            default -> text.add(30 + below(9));
        }
    }
}
