import java.util.List;

/** Many runs of calls, made from a fixed seed, each answer held against the model's. */
public final class ModelTest {
    private static final int OBJECTS = 30000;
    private static final int[] seen = new int[20];

    private final ArrayWords x = new ArrayWords();
    private final Model model = new Model();

    public static void main(String[] args) {
        for (int length = 0; length <= 5; length++) {
            everyText(length);
        }
        for (int i = 0; i < OBJECTS; i++) {
            new ModelTest().calls();
        }
        for (int code : new int[] {-10, -11, -12, -13, -14, -15, -16, 0, 1, 2}) {
            System.out.println("run answered " + code + ": " + seen[code < 0 ? -code : code] + " times");
            Check.due("often enough seen: " + code, seen[code < 0 ? -code : code] > 500, true);
        }
        Check.end();
    }

    /** Reads and runs every text of this length over one token of each kind. */
    private static void everyText(int length) {
        int[] kinds = {3, 10, 21, 33, 40, 41, 42, 43, 50, 51, 52};
        int count = 1;
        for (int k = 0; k < length; k++) {
            count *= kinds.length;
        }
        for (int i = 0; i < count; i++) {
            ModelTest t = new ModelTest();
            int left = i;
            for (int k = 0; k < length; k++) {
                t.model.text.add(kinds[left % kinds.length]);
                left /= kinds.length;
            }
            t.write(List.copyOf(t.model.text));
            Check.due("reads of " + t.words(), t.x.reads(), t.model.reads());
            Check.due("run of " + t.words(), t.x.run(), t.model.run());
        }
    }

    private void calls() {
        for (int n = 0; n < 5; n++) {
            write(Draw.someShape());
            x.run();
            model.run();
            change();
            keep(n);
        }
        for (int k = 0; k < 7; k++) {
            change();
            keepOrForget();
            write(Draw.someText());
            Check.due("reads of " + words(), x.reads(), model.reads());
            int code = model.run();
            seen[code < 0 ? -code : code]++;
            Check.due("run of " + words(), x.run(), code);
            compareResult();
        }
        for (int n = 0; n < 6; n++) {
            Check.due("show " + n, x.show(n), model.show(n));
            compareResult();
        }
    }

    private String words() {
        StringBuilder s = new StringBuilder();
        model.text.forEach(t -> s.append(Check.word(t)).append(" "));
        return s.toString();
    }

    private void compareResult() {
        Check.due("rank after " + words(), x.rank(), model.rank());
        for (int i = 0; i < 3; i++) {
            Check.due("length " + i + " after " + words(), x.length(i), model.length(i));
        }
        Check.due("size after " + words(), x.size(), model.size());
        Check.due("digest after " + words(), x.digest(), model.digest());
        int i = Draw.below(model.size() + 1);
        Check.due("at " + i + " after " + words(), x.at(i), model.at(i));
    }

    /** Changes numbers of the result to some that no text could write. */
    private void change() {
        for (int k = Draw.below(3); k > 0; k--) {
            int i = Draw.below(model.size() + 1);
            int number = Draw.oneIn(3) ? Draw.oddNumber() : Draw.below(12) - 3;
            Check.due("put at " + i, x.put(i, number), model.put(i, number));
        }
    }

    private void keep(int n) {
        Check.due("keep " + n, x.keep(n), model.keep(n));
    }

    private void keepOrForget() {
        int n = Draw.below(6);
        if (Draw.oneIn(2)) {
            keep(n);
        } else if (Draw.oneIn(6)) {
            Check.due("forget " + n, x.forget(n), model.forget(n));
        }
    }

    private void write(List<Integer> text) {
        x.clear();
        model.clear();
        for (int[] four : Draw.inFours(text)) {
            int count = model.tokens(four[0], four[1], four[2], four[3]);
            Check.due("tokens", x.tokens(four[0], four[1], four[2], four[3]), count);
        }
    }
}
