import java.util.ArrayList;
import java.util.Arrays;
import java.util.HashMap;
import java.util.List;
import java.util.Map;

/**
 * "A call that throws changes nothing, but where it is said": a refused call is made in many states, and then all
 * that can be asked answers as if the call had not been. After a refused rule nothing is typed; no more than that.
 */
public final class RefusedCallTest {
    /** What an object is given: types of rules (null for none), characters that are typed, bytes. */
    record State(List<String> rules, String typed, String bytes) {
        Due made() {
            Due d = new Due();
            for (int i = 0; i < rules.size(); i++) {
                if (rules.get(i) != null) {
                    d.typed(rules.get(i)).x.rule(i);
                }
            }
            return d.bytes(bytes).typed(typed);
        }

        State withNothingTyped() {
            return new State(rules, "", bytes);
        }
    }

    interface Refused {
        Object call(ShapedItems x);
    }

    private static final String[][] RULES = {
        {},
        {"i", "[*A]", "{?1:t,*y:y}", "#1(D/i)", "E", "[E]", "G/i", null},
        {"B", "C", "D", "E", "F", "G", "H", "i/#9(A)"},
        {"A", "i/[B]", "(C/[*i])", "[H]", "\"abc\"", "-1..5", "[A]", null},
    };
    private static final String[] TYPED = {"", "\"a", "[i,", "i", "\"" + "x".repeat(36), "\"" + "x".repeat(38),
        "\"" + "x".repeat(38) + "\""};
    private static final String[] BYTES = {"", "05", "82 01", "82 01 02", "97" + "00".repeat(23), "c9 c9 00", "1c",
        "58 26" + "07".repeat(38), "58 26" + "07".repeat(37), "a1 01 63 616263", "05 05"};

    private static final Map<State, String> PORTRAITS = new HashMap<>();
    private static int tried = 0;

    /** What is typed and the bytes in all pairs, with one sort of rules after another. */
    private static List<State> states() {
        List<State> states = new ArrayList<>();
        for (String typed : TYPED) {
            for (String bytes : BYTES) {
                states.add(new State(Arrays.asList(RULES[states.size() % RULES.length]), typed, bytes));
            }
        }
        return states;
    }

    private static void ask(StringBuilder answers, Due.Call call) {
        answers.append(Due.answerOf(call)).append(' ');
    }

    private static void askItems(StringBuilder answers, ShapedItems x) {
        ask(answers, () -> x.items());
        for (int i = 0; i < 24; i++) {
            int k = i;
            ask(answers, () -> x.major(k));
            ask(answers, () -> x.number(k));
            ask(answers, () -> x.depth(k));
        }
    }

    private static void askRules(StringBuilder answers, ShapedItems x) {
        for (int i = 0; i < 8; i++) {
            int rule = i;
            ask(answers, () -> x.check(rule));
            ask(answers, () -> x.matches(rule));
            for (int j = 0; j < 24; j++) {
                int k = j;
                ask(answers, () -> x.matchesAt(rule, k));
            }
        }
    }

    /** What was typed shows in the TYPE that it is when a quote is typed behind it, if there is room. */
    private static void askTyped(StringBuilder answers, Due d) {
        ask(answers, () -> d.x.type('"'));
        ask(answers, () -> d.x.rule(7));
        for (String bytes : new String[] {"61 61", "60", "00", "78 24" + "78".repeat(36), "78 26" + "78".repeat(38)}) {
            d.bytes(bytes);
            ask(answers, () -> d.x.matches(7));
        }
    }

    /** How many characters are still let in, and what the bytes are with more behind them. */
    private static void askRoom(StringBuilder answers, ShapedItems x) {
        for (int i = 0; i < 41; i++) {
            ask(answers, () -> x.type('i'));
        }
        ask(answers, () -> x.feed(7, 1));
        askItems(answers, x);
        ask(answers, () -> x.wipe());
        for (int i = 0; i < 8; i++) {
            int rule = i;
            ask(answers, () -> x.forget(rule));
        }
    }

    interface Making {
        Due made();
    }

    /** All that can be asked; some of it changes the object, so that it is made twice. */
    private static String portrait(Making making) {
        StringBuilder answers = new StringBuilder();
        Due d = making.made();
        askItems(answers, d.x);
        askRules(answers, d.x);
        askTyped(answers, d);
        askRoom(answers, making.made().x);
        return answers.toString();
    }

    private static boolean isRefused(Object answer) {
        return answer.equals(false) || answer.equals(ShapedItems.NONE) || answer.toString().startsWith("throws.");
    }

    private static void leaves(State state, State then, String what, Refused refused) {
        if (!isRefused(Due.answerOf(() -> refused.call(state.made().x)))) {
            return;
        }
        tried++;
        String due = PORTRAITS.computeIfAbsent(then, t -> portrait(t::made));
        Due.due("after " + what + " in " + state, due, () -> portrait(() -> {
            Due d = state.made();
            Due.answerOf(() -> refused.call(d.x));
            return d;
        }));
    }

    private static void types(State state) {
        for (int four : new int[] {0x1f, 0x7f, 0x6161ff61, 0x01616161, -1, 0x61616161, 0x616161, 0x6161, 0x61}) {
            leaves(state, state, "type(" + four + ")", x -> x.type(four));
        }
    }

    private static void feeds(State state) {
        for (int n : new int[] {0, 9, -1, Integer.MIN_VALUE, Integer.MAX_VALUE, 1, 2, 8}) {
            leaves(state, state, "feed(-1, " + n + ")", x -> x.feed(-1, n));
        }
    }

    private static void rules(State state) {
        for (int rule : new int[] {-1, 8, 0, 7}) {
            leaves(state, state.withNothingTyped(), "rule(" + rule + ")", x -> x.rule(rule));
        }
        for (int rule : new int[] {-1, 8}) {
            leaves(state, state, "forget(" + rule + ")", x -> x.forget(rule));
        }
    }

    private static void asks(State state) {
        leaves(state, state, "items()", x -> x.items());
        for (int k : new int[] {-1, 0, 2, 24}) {
            leaves(state, state, "major(" + k + ")", x -> x.major(k));
            leaves(state, state, "number(" + k + ")", x -> x.number(k));
            leaves(state, state, "depth(" + k + ")", x -> x.depth(k));
            leaves(state, state, "matchesAt(1, " + k + ")", x -> x.matchesAt(1, k));
        }
        for (int rule : new int[] {-1, 0, 1, 5, 8}) {
            leaves(state, state, "check(" + rule + ")", x -> x.check(rule));
            leaves(state, state, "matches(" + rule + ")", x -> x.matches(rule));
            leaves(state, state, "matchesAt(" + rule + ", 0)", x -> x.matchesAt(rule, 0));
        }
    }

    public static void main(String[] args) {
        for (State state : states()) {
            types(state);
            feeds(state);
            rules(state);
            asks(state);
        }
        System.out.println(tried + " refused calls");
        Due.due("enough was refused", true, () -> tried > 3000);
        Due.end();
    }
}
