import java.util.ArrayDeque;
import java.util.ArrayList;
import java.util.List;
import java.util.Map;
import java.util.Queue;
import java.util.TreeMap;
import java.util.function.Function;

/**
 * Objects used for all of their 512 calls, several in turn, with every call of the class in any order and with any
 * arguments; each answer is held against the model's.
 */
public final class LifeTest {
    private static final int CALLS = 512;
    private static final int ROUNDS = 1000;
    private static final int IN_TURN = 3;
    private static final int SEEN_ENOUGH = 100;

    // Every refusal of the document, with the call that answers it.
    private static final List<String> REFUSALS = List.of(
            "tokens -1", "tokens -2", "untoken -3", "run -10", "run -11", "run -12", "run -13", "run -14", "run -15",
            "run -16", "length -3", "keep -1", "show -1", "show -11", "forget -1", "put -3");

    private static final Map<String, Integer> seen = new TreeMap<>();

    private record Call(String name, String arguments, Function<ArrayWords, Object> asked,
            Function<Model, Object> due) {
    }

    private final ArrayWords x = new ArrayWords();
    private final Model model = new Model();
    private final Queue<Call> planned = new ArrayDeque<>();
    private int made = 0;

    public static void main(String[] args) {
        Check.sentence("An object is used for at most 512 calls after it has been made");
        for (int round = 0; round < ROUNDS; round++) {
            inTurn(round);
        }
        for (String refusal : REFUSALS) {
            int times = seen.getOrDefault(refusal, 0);
            Check.due("seen often enough: " + refusal + ", " + times + " times", times >= SEEN_ENOUGH, true);
        }
        Check.end();
    }

    /** Uses several objects up, each call being made on any of them. */
    private static void inTurn(int round) {
        List<LifeTest> lives = new ArrayList<>();
        for (int k = 0; k < IN_TURN; k++) {
            lives.add(new LifeTest());
        }
        while (!lives.isEmpty()) {
            LifeTest life = lives.get(Draw.below(lives.size()));
            life.makeCall(round);
            if (life.made == CALLS) {
                lives.remove(life);
            }
        }
    }

    private void makeCall(int round) {
        while (planned.isEmpty()) {
            plan();
        }
        Call call = planned.remove();
        made++;
        Object want = call.due.apply(model);
        seen.merge(call.name + " " + want, 1, Integer::sum);
        String what = "round " + round + ", call " + made + ", " + call.name + call.arguments;
        Check.due(what, call.asked.apply(x), want);
    }

    private void plan() {
        switch (Draw.below(8)) {
            case 0, 1, 2 -> planStatement();
            case 3 -> planAnyText();
            case 4 -> planOtherEnd();
            case 5 -> planName(Draw.oneIn(3) ? Draw.oddNumber() : Draw.below(6));
            case 6 -> planPut(Draw.oneIn(3) ? Draw.oddNumber() : Draw.below(6));
            default -> planQuestions(Draw.oneIn(2) ? Draw.oddNumber() : Draw.below(36));
        }
    }

    private void planStatement() {
        planClear();
        for (int[] four : Draw.inFours(Draw.oneIn(4) ? Draw.someShape() : Draw.someText())) {
            planTokens(four);
        }
        planRun();
        if (Draw.oneIn(2)) {
            planQuestions(Draw.below(4));
        }
        if (Draw.oneIn(2)) {
            planKeep(Draw.below(6));
        }
    }

    /** Tokens without any order, now and then more than a text can have. */
    private void planAnyText() {
        for (int k = Draw.below(9); k > 0; k--) {
            int[] four = new int[4];
            for (int i = 0; i < 4; i++) {
                four[i] = Draw.oneIn(40) ? Draw.oddNumber() : Draw.oneIn(8) ? -1 : Draw.anyToken();
            }
            planTokens(four);
        }
        planRun();
    }

    /** Other tokens where the text ends. */
    private void planOtherEnd() {
        for (int k = Draw.below(4); k > 0; k--) {
            add("untoken", "()", ArrayWords::untoken, Model::untoken);
        }
        for (int k = Draw.below(3); k > 0; k--) {
            planTokens(new int[] {-1, Draw.anyToken(), -1, Draw.below(10)});
        }
        planRun();
    }

    private void planName(int n) {
        switch (Draw.below(4)) {
            case 0 -> planKeep(n);
            case 1 -> add("forget", "(" + n + ")", a -> a.forget(n), m -> m.forget(n));
            default -> add("show", "(" + n + ")", a -> a.show(n), m -> m.show(n));
        }
    }

    private void planPut(int i) {
        int number = Draw.oneIn(2) ? Draw.oddNumber() : Draw.below(12) - 3;
        add("put", "(" + i + ", " + number + ")", a -> a.put(i, number), m -> m.put(i, number));
    }

    private void planQuestions(int i) {
        add("rank", "()", ArrayWords::rank, Model::rank);
        add("length", "(" + i + ")", a -> a.length(i), m -> m.length(i));
        add("size", "()", ArrayWords::size, Model::size);
        add("at", "(" + i + ")", a -> a.at(i), m -> m.at(i));
        add("digest", "()", ArrayWords::digest, Model::digest);
    }

    private void planClear() {
        add("clear", "()", a -> {
            a.clear();
            return "nothing";
        }, m -> {
            m.clear();
            return "nothing";
        });
    }

    private void planTokens(int[] t) {
        add("tokens", "(" + t[0] + ", " + t[1] + ", " + t[2] + ", " + t[3] + ")",
                a -> a.tokens(t[0], t[1], t[2], t[3]), m -> m.tokens(t[0], t[1], t[2], t[3]));
    }

    private void planRun() {
        if (Draw.oneIn(3)) {
            add("reads", "()", ArrayWords::reads, Model::reads);
        }
        add("run", "()", ArrayWords::run, Model::run);
    }

    private void planKeep(int n) {
        add("keep", "(" + n + ")", a -> a.keep(n), m -> m.keep(n));
    }

    private void add(String name, String arguments, Function<ArrayWords, Object> asked, Function<Model, Object> due) {
        planned.add(new Call(name, arguments, asked, due));
    }
}
