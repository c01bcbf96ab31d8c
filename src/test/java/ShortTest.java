import java.util.ArrayList;
import java.util.List;

/** All short inputs, as terms and as texts of orders, and all terms of few nodes, compared with the model. */
public final class ShortTest {
    private interface Answer {
        Object get();
    }

    private static final int MOST_NODES = 6;

    private static int wrong;
    private static int inputs;
    private static int typed;

    private static String told(Answer answer) {
        try {
            return String.valueOf(answer.get());
        } catch (RuntimeException e) {
            return "throws." + e.getClass().getSimpleName();
        }
    }

    private static void same(String input, String call, Answer ofClass, Answer ofModel) {
        String got = told(ofClass);
        String due = told(ofModel);
        if (!got.equals(due)) {
            wrong++;
            if (wrong < 20) {
                System.out.println("ShortTest: " + input + ": " + call + " answered " + got + ", the model " + due);
            }
        }
    }

    private static String line(TypeTutor t, int length) {
        StringBuilder text = new StringBuilder();
        for (int k = 0; k < length; k++) {
            text.append(t.character(k));
        }
        return text.toString();
    }

    private static String line(Model m, int length) {
        return m.line.substring(0, length);
    }

    private static void append(String input, TypeTutor t, Model m) {
        inputs++;
        for (int k = 0; k < input.length(); k++) {
            t.append(input.charAt(k));
            m.append(input.charAt(k));
        }
    }

    private static void asTerm(String input) {
        TypeTutor t = new TypeTutor();
        Model m = new Model();
        append(input, t, m);
        same(input, "lesson", t::lesson, m::lesson);
        same(input, "faultPosition", t::faultPosition, m::faultPosition);
        if (m.fault >= 0 || t.faultPosition() >= 0) {
            return;
        }
        typed += m.isTyped(0) ? 1 : 0;
        same(input, "nodes", () -> t.nodes(0), () -> m.nodes(0));
        same(input, "unbound", () -> t.unbound(0), () -> m.unbound(0));
        same(input, "tellTerm", () -> line(t, t.tellTerm(0)), () -> line(m, m.tellTerm(0)));
        same(input, "tell", () -> line(t, t.tell(0)), () -> line(m, m.tell(0)));
        same(input, "fit", () -> t.fit(0, 0), () -> m.fit(0, 0));
        same(input, "isTold", t::isTold, m::isTold);
        for (int number = 0; number < 5; number++) {
            int what = number;
            same(input, "failure " + what, () -> t.failure(0, what), () -> m.failure(0, what));
            same(input, "typeOf " + what, () -> t.typeOf(0, what), () -> m.typeOf(0, what));
            same(input, "typeAgain " + what, () -> t.typeAgain(0, what), () -> m.typeAgain(0, what));
        }
        for (int number = 0; number < m.nodes(0); number++) {
            asNode(input, t, m, number);
        }
    }

    private static void asNode(String input, TypeTutor t, Model m, int node) {
        for (int number = 0; number < 6; number++) {
            int what = number;
            same(input, "nodeOf " + node + " " + what, () -> t.nodeOf(0, node, what), () -> m.nodeOf(0, node, what));
        }
        same(input, "signOf " + node, () -> t.signOf(0, node), () -> m.signOf(0, node));
        same(input, "binder " + node, () -> t.binder(0, node), () -> m.binder(0, node));
        same(input, "uses " + node, () -> t.uses(0, node), () -> m.uses(0, node));
        same(input, "tellNode " + node, () -> line(t, t.tellNode(0, node)), () -> line(m, m.tellNode(0, node)));
    }

    private static void asText(String input) {
        TypeTutor t = new TypeTutor();
        Model m = new Model();
        append("1", t, m);
        same(input, "lesson", t::lesson, m::lesson);
        append(input, t, m);
        same(input, "run", t::run, m::run);
        same(input, "faultPosition", t::faultPosition, m::faultPosition);
        for (int number = 0; number < 2; number++) {
            int depth = number;
            same(input, "reason " + depth, () -> t.reason(depth, false), () -> m.reason(depth, false));
            same(input, "its detail " + depth, () -> t.reason(depth, true), () -> m.reason(depth, true));
        }
        same(input, "lessons", () -> t.account(0), () -> m.account(0));
        same(input, "isKept", () -> t.isKept(0), () -> m.isKept(0));
    }

    /** All inputs of some signs, up to a length. */
    private static List<String> inputs(String signs, int length) {
        List<String> all = new ArrayList<>(List.of(""));
        int start = 0;
        for (int k = 0; k < length; k++) {
            int end = all.size();
            for (int i = start; i < end; i++) {
                for (int s = 0; s < signs.length(); s++) {
                    all.add(all.get(i) + signs.charAt(s));
                }
            }
            start = end;
        }
        return all;
    }

    /** All terms of two names and a few signs, by how many nodes they have. */
    private static List<List<String>> terms() {
        List<List<String>> terms = new ArrayList<>();
        terms.add(List.of());
        terms.add(List.of("x", "y", "1", "<", "?"));
        for (int nodes = 2; nodes <= MOST_NODES; nodes++) {
            List<String> some = new ArrayList<>();
            for (String body : terms.get(nodes - 1)) {
                some.add("^x." + body);
                some.add("^y." + body);
            }
            for (int first = 1; first < nodes - 1; first++) {
                for (String one : terms.get(first)) {
                    for (String other : terms.get(nodes - 1 - first)) {
                        some.add("!x=" + one + ";" + other);
                        some.add("(" + one + ")(" + other + ")");
                    }
                }
            }
            terms.add(some);
        }
        return terms;
    }

    public static void main(String[] arguments) {
        for (String input : inputs("x^.!=;()1<", 5)) {
            asTerm(input);
        }
        for (String input : inputs("kux0A;1", 6)) {
            asText(input);
        }
        for (List<String> some : terms()) {
            for (String term : some) {
                asTerm(term);
            }
        }
        boolean isRight = wrong == 0 && typed > 0;
        System.out.println("ShortTest: " + (isRight ? inputs + " inputs are read alike" : wrong + " answers differ"));
        if (!isRight) {
            System.exit(1);
        }
    }
}
