import java.util.ArrayList;
import java.util.List;

/** Many runs of calls, made from a fixed seed, each answer held against the model's. */
public final class ModelTest {
    private static final int OBJECTS = 30000;
    private static final int[] ODD = {Check.MIN, Check.MIN + 1, -37, -36, -7, -6, -2, -1, 0, 1, 2, 5, 6, 7, 35, 36, 37,
        Check.MAX - 1, Check.MAX};

    private static long state = 20261115L;
    private static final int[] seen = new int[20];

    private final ArrayWords x = new ArrayWords();
    private final Model model = new Model();

    public static void main(String[] args) {
        for (int length = 0; length <= 5; length++) {
            everyText(length);
        }
        for (int i = 0; i < OBJECTS; i++) {
            new ModelTest().calls();
        }
        for (int code : new int[] {-10, -11, -12, -13, -14, -15, -16, 0, 1, 2}) {
            System.out.println("run answered " + code + ": " + seen[code < 0 ? -code : code] + " times");
            Check.due("often enough seen: " + code, seen[code < 0 ? -code : code] > 500, true);
        }
        Check.end();
    }

    /** Reads and runs every text of this length over one token of each kind. */
    private static void everyText(int length) {
        int[] kinds = {3, 10, 21, 33, 40, 41, 42, 43, 50, 51, 52};
        int count = 1;
        for (int k = 0; k < length; k++) {
            count *= kinds.length;
        }
        for (int i = 0; i < count; i++) {
            ModelTest t = new ModelTest();
            int left = i;
            for (int k = 0; k < length; k++) {
                t.model.text.add(kinds[left % kinds.length]);
                left /= kinds.length;
            }
            t.write(List.copyOf(t.model.text));
            Check.due("reads of " + t.words(), t.x.reads(), t.model.reads());
            Check.due("run of " + t.words(), t.x.run(), t.model.run());
        }
    }

    private static int below(int n) {
        state += 0x9E3779B97F4A7C15L;
        long mixed = (state ^ state >>> 30) * 0xBF58476D1CE4E5B9L;
        mixed = (mixed ^ mixed >>> 27) * 0x94D049BB133111EBL;
        return (int) ((mixed >>> 33) % n);
    }

    private static boolean oneIn(int n) {
        return below(n) == 0;
    }

    private void calls() {
        for (int n = 0; n < 5; n++) {
            write(someShape());
            x.run();
            model.run();
            change();
            Check.due("keep " + n, x.keep(n), 0);
            model.names[n] = model.result;
        }
        for (int k = 0; k < 7; k++) {
            change();
            keepOrForget();
            write(someText());
            boolean reads = model.reads();
            Check.due("reads of " + words(), x.reads(), reads);
            int code = model.run();
            seen[code < 0 ? -code : code]++;
            Check.due("run of " + words(), x.run(), code);
            compareResult();
        }
        for (int n = 0; n < 6; n++) {
            Check.due("show " + n, x.show(n), model.names[n] == null ? ArrayWords.VALUE : model.names[n].rank());
            if (model.names[n] != null) {
                model.result = model.names[n];
            }
            compareResult();
        }
    }

    private String words() {
        StringBuilder s = new StringBuilder();
        model.text.forEach(t -> s.append(Check.word(t)).append(" "));
        return s.toString();
    }

    private void compareResult() {
        List<Integer> shape = model.result.shape();
        List<Integer> ravel = model.result.ravel();
        Check.due("rank after " + words(), x.rank(), shape.size());
        for (int i = 0; i < 3; i++) {
            Check.due("length " + i + " after " + words(), x.length(i), i < shape.size() ? shape.get(i) : ArrayWords.NONE);
        }
        Check.due("size after " + words(), x.size(), ravel.size());
        int digest = 0;
        for (int i = 0; i < ravel.size(); i++) {
            digest += (i + 1) * ravel.get(i);
        }
        Check.due("digest after " + words(), x.digest(), digest);
        int i = below(ravel.size() + 1);
        Check.due("at " + i + " after " + words(), x.at(i), i < ravel.size() ? ravel.get(i) : 0);
    }

    /** Changes numbers of the result to some that no text could write. */
    private void change() {
        for (int k = below(3); k > 0; k--) {
            int size = model.result.ravel().size();
            int i = below(size + 1);
            int number = oneIn(3) ? ODD[below(ODD.length)] : below(12) - 3;
            Check.due("put at " + i, x.put(i, number), i < size ? model.result.ravel().get(i) : ArrayWords.NONE);
            if (i < size) {
                List<Integer> ravel = new ArrayList<>(model.result.ravel());
                ravel.set(i, number);
                model.result = new Model.Value(model.result.shape(), ravel);
            }
        }
    }

    private void keepOrForget() {
        int n = below(6);
        if (oneIn(2)) {
            Check.due("keep " + n, x.keep(n), 0);
            model.names[n] = model.result;
        } else if (oneIn(6)) {
            Check.due("forget " + n, x.forget(n), model.names[n] == null ? 0 : 1);
            model.names[n] = null;
        }
    }

    private void write(List<Integer> text) {
        x.clear();
        model.text.clear();
        for (int p = 0; p < text.size(); p += 3) {
            int[] four = {-1, -1, -1, -1};
            int gap = below(4);
            for (int k = 0; k < 3 && p + k < text.size(); k++) {
                four[k < gap ? k : k + 1] = text.get(p + k);
                model.text.add(text.get(p + k));
            }
            Check.due("tokens", x.tokens(four[0], four[1], four[2], four[3]), model.text.size());
        }
    }

    /** A text for a matrix, a vector or a number. */
    private static List<Integer> someShape() {
        return switch (below(6)) {
            case 0, 1 -> List.of(below(7), below(7), 30, 31, 1 + below(9));
            case 2 -> List.of(20 + below(8), 31, below(7), 22, below(7));
            case 3 -> List.of(below(8), 30, below(3), below(3));
            case 4 -> List.of(31, below(10));
            default -> List.of(below(10));
        };
    }

    private static List<Integer> someText() {
        List<Integer> text = new ArrayList<>();
        addExpression(text, below(4));
        while (text.size() > 30) {
            text.clear();
            addExpression(text, below(3));
        }
        if (oneIn(8)) {
            spoil(text);
        }
        return text;
    }

    private static int anyToken() {
        int t = below(53);
        while (!Check.isToken(t)) {
            t = below(53);
        }
        return t;
    }

    private static void spoil(List<Integer> text) {
        for (int k = 1 + below(2); k > 0; k--) {
            int p = below(text.size() + 1);
            if (oneIn(3) && text.size() < 30) {
                text.add(p, anyToken());
            } else if (p < text.size() && oneIn(2)) {
                text.set(p, anyToken());
            } else if (p < text.size()) {
                text.remove(p);
            }
        }
    }

    private static void addExpression(List<Integer> text, int depth) {
        int kind = depth == 0 ? 0 : below(8);
        if (kind == 0) {
            addOperand(text, depth);
        } else if (kind == 1) {
            text.add(10 + below(6));
            text.add(52);
            addExpression(text, depth - 1);
        } else {
            if (kind > 3) {
                addOperand(text, depth - 1);
            }
            addFunction(text);
            addExpression(text, depth - 1);
        }
    }

    private static void addOperand(List<Integer> text, int depth) {
        int kind = below(depth > 0 ? 6 : 4);
        if (kind < 2) {
            text.add(10 + below(6));
        } else if (kind == 2) {
            for (int k = oneIn(2) ? 0 : below(8); k >= 0; k--) {
                text.add(oneIn(2) ? below(2) : below(10));
            }
        } else if (kind == 3) {
            // Small shapes, among them those with no number.
            text.add(50);
            for (int k = below(3); k > 0; k--) {
                text.add(below(4));
            }
            text.add(below(7));
            text.add(30);
            text.add(oneIn(2) ? 10 + below(6) : below(10));
            text.add(51);
        } else {
            text.add(50);
            addExpression(text, depth - 1);
            text.add(51);
        }
    }

    private static void addFunction(List<Integer> text) {
        int f = 20 + below(8);
        switch (below(12)) {
            case 0, 1 -> text.add(f);
            case 2 -> text.addAll(List.of(f, 40 + below(2)));
            case 3 -> text.addAll(List.of(42, f));
            case 4 -> text.addAll(List.of(f, 43, 20 + below(8)));
            default -> text.add(30 + below(9));
        }
    }
}
