import java.util.ArrayList;
import java.util.Collections;
import java.util.HashMap;
import java.util.HashSet;
import java.util.IdentityHashMap;
import java.util.LinkedHashMap;
import java.util.List;
import java.util.Map;
import java.util.NoSuchElementException;
import java.util.Set;

/**
 * The document once more, written as plainly as can be and with other means than the class
 * under test (trees, recursion, maps), so that both can be compared call by call.
 */
final class Model {
    static final class Fault extends RuntimeException {
        private static final long serialVersionUID = 1;
        final int position;

        Fault(int position) {
            this.position = position;
        }
    }

    static final class Failure extends RuntimeException {
        private static final long serialVersionUID = 1;
        final int reason;
        final int node;
        final int one;
        final int other;

        Failure(int reason, int node, int one, int other) {
            super(null, null, false, false);
            this.reason = reason;
            this.node = node;
            this.one = one;
            this.other = other;
        }
    }

    static final class Node {
        int kind;
        char letter;
        Node parent;
        final List<Node> parts = new ArrayList<>();
        int start;
        int number;

        Node(int kind, char letter, int start) {
            this.kind = kind;
            this.letter = letter;
            this.start = start;
        }

        void add(Node part) {
            part.parent = this;
            parts.add(part);
        }

        int depth() {
            return parent == null ? 0 : 1 + parent.depth();
        }
    }

    /** Reads a term by recursion. */
    static final class Reader {
        final String text;
        int at;

        Reader(String text) {
            this.text = text;
        }

        char look() {
            return at < text.length() ? text.charAt(at) : 0;
        }

        char need(String signs) {
            if (at >= text.length() || signs.indexOf(look()) < 0) {
                throw new Fault(at);
            }
            return text.charAt(at++);
        }

        static final String LETTERS = "abcdefghijklmnopqrstuvwxyz";
        static final String LEAVES = LETTERS + "ABCDEFGH0123456789+<?";

        Node whole() {
            Node node = term();
            if (at < text.length()) {
                throw new Fault(at);
            }
            return node;
        }

        Node term() {
            int start = at;
            if (look() == '^') {
                at++;
                Node node = new Node(4, need(LETTERS), start);
                need(".");
                node.add(term());
                return node;
            }
            if (look() == '!') {
                at++;
                Node node = new Node(5, need(LETTERS), start);
                need("=");
                node.add(term());
                need(";");
                node.add(term());
                return node;
            }
            Node left = part();
            while (at < text.length() && (LEAVES + "(").indexOf(look()) >= 0) {
                Node application = new Node(6, (char) 0, left.start);
                application.add(left);
                application.add(part());
                left = application;
            }
            return left;
        }

        Node part() {
            int start = at;
            char sign = need(LEAVES + "(");
            if (sign == '(') {
                Node node = term();
                need(")");
                return node;
            }
            int kind = sign >= 'a' && sign <= 'z' ? 0 : sign >= 'A' && sign <= 'H' ? 1 : sign >= '0' && sign <= '9' ? 2 : 3;
            return new Node(kind, sign, start);
        }
    }

    static final class Term {
        final Node root;
        final List<Node> nodes = new ArrayList<>();

        Term(Node root) {
            this.root = root;
            number(root);
        }

        void number(Node node) {
            node.number = nodes.size();
            nodes.add(node);
            for (Node part : node.parts) {
                number(part);
            }
        }
    }

    /** N, B, an arrow, or a variable, which may have become another type. */
    static final class Type {
        final int kind;
        Type from;
        Type to;
        Type became;

        Type(int kind) {
            this.kind = kind;
        }

        Type known() {
            return became == null ? this : became.known();
        }
    }

    static final Type N = new Type(0);
    static final Type B = new Type(1);

    static Type arrow(Type from, Type to) {
        Type type = new Type(2);
        type.from = from;
        type.to = to;
        return type;
    }

    static Type variable() {
        return new Type(3);
    }

    static long size(Type type) {
        return size(type, new IdentityHashMap<>());
    }

    static long size(Type type, Map<Type, Long> sizes) {
        Type t = type.known();
        Long size = sizes.get(t);
        if (size == null) {
            size = t.kind != 2 ? 1L : Math.min(1000000L, 1 + size(t.from, sizes) + size(t.to, sizes));
            sizes.put(t, size);
        }
        return size;
    }

    static int arrows(Type type) {
        Type t = type.known();
        return t.kind != 2 ? 0 : 1 + arrows(t.from) + arrows(t.to);
    }

    static int order(Type type) {
        Type t = type.known();
        return t.kind != 2 ? 0 : Math.max(1 + order(t.from), order(t.to));
    }

    static int places(Type type) {
        Type t = type.known();
        return t.kind != 2 ? 0 : 1 + places(t.to);
    }

    static void variables(Type type, Set<Type> into, Set<Type> seen) {
        Type t = type.known();
        if (!seen.add(t)) {
            return;
        }
        if (t.kind == 3) {
            into.add(t);
        } else if (t.kind == 2) {
            variables(t.from, into, seen);
            variables(t.to, into, seen);
        }
    }

    static Set<Type> variables(Type type) {
        Set<Type> into = Collections.newSetFromMap(new IdentityHashMap<>());
        variables(type, into, Collections.newSetFromMap(new IdentityHashMap<>()));
        return into;
    }

    static int measure(Type type, int what) {
        switch (what) {
            case 0: return (int) size(type);
            case 1: return arrows(type);
            case 2: return variables(type).size();
            case 3: return order(type);
            default: return places(type);
        }
    }

    static String told(Type type) {
        return told(type, new IdentityHashMap<>());
    }

    static String told(Type type, Map<Type, String> names) {
        Type t = type.known();
        if (t.kind == 0) return "N";
        if (t.kind == 1) return "B";
        if (t.kind == 3) {
            String name = names.get(t);
            if (name == null) {
                int number = names.size();
                name = (char) ('a' + number % 26) + (number < 26 ? "" : String.valueOf(number / 26));
                names.put(t, name);
            }
            return name;
        }
        String from = told(t.from, names);
        String to = told(t.to, names);
        return (t.from.known().kind == 2 ? "(" + from + ")" : from) + ">" + to;
    }

    static Type copy(Type type, Map<Type, Type> with) {
        Type t = type.known();
        if (t.kind == 3) {
            return with.getOrDefault(t, t);
        }
        return t.kind != 2 ? t : arrow(copy(t.from, with), copy(t.to, with));
    }

    static Type anew(Type type, Set<Type> which) {
        Map<Type, Type> with = new IdentityHashMap<>();
        for (Type variable : which) {
            with.put(variable, variable());
        }
        return copy(type, with);
    }

    static Type anew(Type type) {
        return anew(type, variables(type));
    }

    /** Makes types fit; the failure has no node yet. */
    static void fits(Type one, Type other) {
        Type a = one.known();
        Type b = other.known();
        if (a == b) {
            return;
        }
        if (a.kind == 3) {
            becomes(a, b);
        } else if (b.kind == 3) {
            becomes(b, a);
        } else if (a.kind == 2 && b.kind == 2) {
            fits(a.from, b.from);
            fits(a.to, b.to);
        } else {
            throw new Failure(4, -1, a.kind, b.kind);
        }
    }

    static void becomes(Type variable, Type type) {
        if (variables(type).contains(variable)) {
            throw new Failure(5, -1, -1, -1);
        }
        variable.became = type;
    }

    /** What a name stands for: a function's variable; or what a let binds, with its type and where it is bound. */
    static final class Bound {
        Type type;
        boolean isLet;
        Set<Type> free;
        Node bound;
        Map<Character, Bound> around;
        Node binder;
    }

    final class Finding {
        final Type[] types;
        final boolean isAgain;
        int gone;

        Finding(Term term, boolean isAgain) {
            types = new Type[term.nodes.size()];
            this.isAgain = isAgain;
        }

        Type go(Node node, Map<Character, Bound> names, List<Type> functions) {
            gone++;
            if (isAgain && gone > 300) {
                throw new Failure(99, -1, -1, -1);
            }
            Type type = find(node, names, functions);
            types[node.number] = type;
            return type;
        }

        void need(Type type, Node node) {
            if (!isAgain && size(type) > 200) {
                throw new Failure(10, node.number, -1, -1);
            }
        }

        Type find(Node node, Map<Character, Bound> names, List<Type> functions) {
            switch (node.kind) {
                case 0: {
                    Bound bound = names.get(node.letter);
                    if (bound == null) {
                        throw new Failure(3, node.number, -1, -1);
                    }
                    if (bound.isLet) {
                        return isAgain ? go(bound.bound, bound.around, functions) : anew(bound.type, bound.free);
                    }
                    return bound.type;
                }
                case 1: {
                    Type kept = state.kept[node.letter - 'A'];
                    if (kept == null) {
                        throw new Failure(3, node.number, -1, -1);
                    }
                    return anew(kept);
                }
                case 2:
                    return N;
                case 3: {
                    if (node.letter == '?') {
                        Type a = variable();
                        return arrow(B, arrow(a, arrow(a, a)));
                    }
                    return arrow(N, arrow(N, node.letter == '+' ? N : B));
                }
                case 4: {
                    Bound bound = new Bound();
                    bound.type = variable();
                    Map<Character, Bound> inside = new HashMap<>(names);
                    inside.put(node.letter, bound);
                    List<Type> more = new ArrayList<>(functions);
                    more.add(bound.type);
                    return arrow(bound.type, go(node.parts.get(0), inside, more));
                }
                case 5: {
                    Bound bound = new Bound();
                    bound.isLet = true;
                    bound.type = go(node.parts.get(0), names, functions);
                    need(bound.type, node);
                    if (!isAgain) {
                        bound.free = variables(bound.type);
                        for (Type function : functions) {
                            bound.free.removeAll(variables(function));
                        }
                    }
                    bound.bound = node.parts.get(0);
                    bound.around = names;
                    Map<Character, Bound> inside = new HashMap<>(names);
                    inside.put(node.letter, bound);
                    return go(node.parts.get(1), inside, functions);
                }
                default: {
                    Type function = go(node.parts.get(0), names, functions);
                    Type argument = go(node.parts.get(1), names, functions);
                    need(function, node);
                    need(argument, node);
                    Type answer = variable();
                    try {
                        fits(function, arrow(argument, answer));
                    } catch (Failure f) {
                        throw new Failure(f.reason, node.number, f.one, f.other);
                    }
                    need(function, node);
                    return answer;
                }
            }
        }
    }

    static final class Found {
        Failure failure;
        Type type;
        Type[] types;
    }

    Found find(int lesson) {
        Term term = lessonAt(lesson);
        Finding finding = new Finding(term, false);
        Found found = new Found();
        try {
            found.type = finding.go(term.root, new HashMap<>(), new ArrayList<>());
            for (Node node : term.nodes) {
                finding.need(finding.types[node.number], node);
            }
            found.types = finding.types;
        } catch (Failure f) {
            found.failure = f;
        }
        return found;
    }

    Type typed(int lesson) {
        Found found = find(lesson);
        if (found.failure != null) {
            throw new IllegalStateException();
        }
        return found.type;
    }

    /** The type by the second way, or null if that goes through too many nodes. */
    Type again(int lesson) {
        Term term = lessonAt(lesson);
        try {
            return new Finding(term, true).go(term.root, new HashMap<>(), new ArrayList<>());
        } catch (Failure f) {
            if (f.reason == 99) {
                return null;
            }
            throw new RuntimeException("the second way failed for " + f.reason);
        }
    }

    static final class State {
        List<Term> lessons = new ArrayList<>();
        Type[] kept = new Type[8];
        int given;
        int keptEver;

        State copy() {
            State copy = new State();
            copy.lessons.addAll(lessons);
            copy.kept = kept.clone();
            copy.given = given;
            copy.keptEver = keptEver;
            return copy;
        }
    }

    static final class Refused extends RuntimeException {
        private static final long serialVersionUID = 1;
        final int number;
        final int detail;
        Refused cause;

        Refused(int number, int detail) {
            this.number = number;
            this.detail = detail;
        }
    }

    State state = new State();
    State saved;
    final List<State> history = new ArrayList<>();
    String input = "";
    String line = "";
    int fault = -1;
    Refused refused;

    Term lessonAt(int lesson) {
        if (lesson < 0 || lesson >= state.lessons.size()) {
            throw new IndexOutOfBoundsException();
        }
        return state.lessons.get(lesson);
    }

    Node nodeAt(int lesson, int node) {
        Term term = lessonAt(lesson);
        if (node < 0 || node >= term.nodes.size()) {
            throw new IndexOutOfBoundsException();
        }
        return term.nodes.get(node);
    }

    void change(State ahead) {
        history.add(ahead);
        if (history.size() > 8) {
            history.remove(0);
        }
    }

    UnsupportedOperationException refuse(Refused r) {
        refused = r;
        return new UnsupportedOperationException();
    }

    int lesson() {
        String text = input;
        input = "";
        Term term;
        try {
            term = new Term(new Reader(text).whole());
            fault = -1;
        } catch (Fault f) {
            fault = f.position;
            throw new IllegalArgumentException();
        }
        if (state.lessons.size() == 6) {
            throw refuse(new Refused(1, 6));
        }
        State ahead = state.copy();
        state.lessons.add(term);
        state.given++;
        change(ahead);
        return state.lessons.size() - 1;
    }

    int doDrop(int lesson) {
        if (lesson < 0 || lesson >= state.lessons.size()) {
            throw new Refused(2, lesson);
        }
        return state.lessons.remove(lesson).nodes.size();
    }

    int doKeep(int lesson, int capital) {
        if (lesson < 0 || lesson >= state.lessons.size()) {
            throw new Refused(2, lesson);
        }
        if (capital < 0 || capital > 7) {
            throw new Refused(8, capital);
        }
        Found found = find(lesson);
        if (found.failure != null) {
            throw new Refused(found.failure.reason, found.failure.node);
        }
        if (size(found.type) > 24) {
            throw new Refused(7, (int) size(found.type));
        }
        state.kept[capital] = anew(found.type);
        state.keptEver++;
        return variables(found.type).size();
    }

    int doUnkeep(int capital) {
        if (capital < 0 || capital > 7) {
            throw new Refused(8, capital);
        }
        if (state.kept[capital] == null) {
            throw new Refused(6, capital);
        }
        int size = (int) size(state.kept[capital]);
        state.kept[capital] = null;
        return size;
    }

    int drop(int lesson) {
        State ahead = state.copy();
        try {
            int answer = doDrop(lesson);
            change(ahead);
            return answer;
        } catch (Refused r) {
            throw refuse(r);
        }
    }

    int keep(int lesson, int capital) {
        State ahead = state.copy();
        try {
            int answer = doKeep(lesson, capital);
            change(ahead);
            return answer;
        } catch (Refused r) {
            throw refuse(r);
        }
    }

    int unkeep(int capital) {
        State ahead = state.copy();
        try {
            int answer = doUnkeep(capital);
            change(ahead);
            return answer;
        } catch (Refused r) {
            throw refuse(r);
        }
    }

    static int faultOfOrders(String text) {
        int at = 0;
        while (true) {
            String order = at >= text.length() ? "" : text.charAt(at) == 'k' ? "kDC" : text.charAt(at) == 'u' ? "uC" : "xD";
            if (order.isEmpty()) {
                return at;
            }
            for (int k = 0; k < order.length(); k++) {
                char due = order.charAt(k);
                char sign = at < text.length() ? text.charAt(at) : 0;
                boolean isRight = due == 'D' ? sign >= '0' && sign <= '9' : due == 'C' ? sign >= 'A' && sign <= 'H' : sign == due;
                if (!isRight) {
                    return at;
                }
                at++;
            }
            if (at == text.length()) {
                return -1;
            }
            if (text.charAt(at) != ';') {
                return at;
            }
            at++;
        }
    }

    int run() {
        String text = input;
        input = "";
        fault = faultOfOrders(text);
        if (fault >= 0) {
            throw new IllegalArgumentException();
        }
        State ahead = state.copy();
        String[] orders = text.split(";");
        for (int k = 0; k < orders.length; k++) {
            String o = orders[k];
            try {
                if (o.charAt(0) == 'k') {
                    doKeep(o.charAt(1) - '0', o.charAt(2) - 'A');
                } else if (o.charAt(0) == 'u') {
                    doUnkeep(o.charAt(1) - 'A');
                } else {
                    doDrop(o.charAt(1) - '0');
                }
            } catch (Refused r) {
                Refused whole = new Refused(9, k);
                whole.cause = r;
                state = ahead;
                throw refuse(whole);
            }
        }
        change(ahead);
        return orders.length;
    }

    int nodes(int lesson) {
        return lessonAt(lesson).nodes.size();
    }

    int nodeOf(int lesson, int node, int what) {
        Node n = nodeAt(lesson, node);
        switch (what) {
            case 0: return n.kind;
            case 1: return n.parent == null ? -1 : n.parent.number;
            case 2: return n.parts.isEmpty() ? -1 : n.parts.get(0).number;
            case 3: return n.parts.size() < 2 ? -1 : n.parts.get(1).number;
            case 4: return n.depth();
            case 5: return n.start;
            default: throw new IllegalArgumentException();
        }
    }

    char signOf(int lesson, int node) {
        Node n = nodeAt(lesson, node);
        if (n.kind == 6) {
            throw new NoSuchElementException();
        }
        return n.letter;
    }

    static Node binderOf(Node name) {
        for (Node part = name; part.parent != null; part = part.parent) {
            Node p = part.parent;
            if (p.letter == name.letter && (p.kind == 4 || p.kind == 5 && p.parts.get(1) == part)) {
                return p;
            }
        }
        return null;
    }

    int binder(int lesson, int node) {
        Node n = nodeAt(lesson, node);
        if (n.kind != 0 || binderOf(n) == null) {
            throw new NoSuchElementException();
        }
        return binderOf(n).number;
    }

    int uses(int lesson, int node) {
        Node n = nodeAt(lesson, node);
        if (n.kind != 4 && n.kind != 5) {
            throw new IllegalArgumentException();
        }
        return bound(lesson, n);
    }

    int bound(int lesson, Node binder) {
        int names = 0;
        for (Node n : lessonAt(lesson).nodes) {
            if (n.kind == 0 && binderOf(n) == binder) {
                names++;
            }
        }
        return names;
    }

    int unbound(int lesson) {
        return bound(lesson, null);
    }

    boolean isTyped(int lesson) {
        return find(lesson).failure == null;
    }

    int failure(int lesson, int what) {
        lessonAt(lesson);
        if (what < 0 || what > 3) {
            throw new IllegalArgumentException();
        }
        Failure f = find(lesson).failure;
        if (f == null) {
            throw new NoSuchElementException();
        }
        return what == 0 ? f.reason : what == 1 ? f.node : what == 2 ? f.one : f.other;
    }

    static void needWhat(int what) {
        if (what < 0 || what > 4) {
            throw new IllegalArgumentException();
        }
    }

    int typeOf(int lesson, int what) {
        lessonAt(lesson);
        needWhat(what);
        return measure(typed(lesson), what);
    }

    int typeAgain(int lesson, int what) {
        lessonAt(lesson);
        needWhat(what);
        typed(lesson);
        Type again = again(lesson);
        if (again == null) {
            throw new IllegalStateException();
        }
        return measure(again, what);
    }

    Type typeOfNode(int lesson, int node) {
        Found found = find(lesson);
        if (found.failure != null) {
            throw new IllegalStateException();
        }
        return found.types[node];
    }

    int nodeType(int lesson, int node, int what) {
        nodeAt(lesson, node);
        needWhat(what);
        return measure(typeOfNode(lesson, node), what);
    }

    boolean isAlike(int one, int other) {
        lessonAt(one);
        lessonAt(other);
        Type a = typed(one);
        Type b = typed(other);
        return told(a).equals(told(b));
    }

    static boolean covers(Type one, Type other, Map<Type, String> with, Map<Type, String> names) {
        Type a = one.known();
        Type b = other.known();
        if (a.kind == 3) {
            String told = told(b, names);
            String was = with.putIfAbsent(a, told);
            return was == null || was.equals(told);
        }
        if (a.kind != b.kind) {
            return false;
        }
        return a.kind != 2 || covers(a.from, b.from, with, names) && covers(a.to, b.to, with, names);
    }

    boolean isAsGeneral(int one, int other) {
        lessonAt(one);
        lessonAt(other);
        Type a = typed(one);
        Type b = typed(other);
        return covers(a, b, new IdentityHashMap<>(), new IdentityHashMap<>());
    }

    int fit(int function, int argument) {
        lessonAt(function);
        lessonAt(argument);
        Type f = typed(function);
        Type a = typed(argument);
        Type answer = variable();
        try {
            fits(anew(f), arrow(anew(a), answer));
        } catch (Failure e) {
            throw new NoSuchElementException();
        }
        if (size(answer) > 200) {
            throw new NoSuchElementException();
        }
        return (int) size(answer);
    }

    int fitting(int function) {
        lessonAt(function);
        typed(function);
        int fitting = 0;
        for (int k = 0; k < state.lessons.size(); k++) {
            try {
                fit(function, k);
                fitting++;
            } catch (NoSuchElementException | IllegalStateException e) {
                continue;
            }
        }
        return fitting;
    }

    static void needCapital(int capital) {
        if (capital < 0 || capital > 7) {
            throw new IndexOutOfBoundsException();
        }
    }

    boolean isKept(int capital) {
        needCapital(capital);
        return state.kept[capital] != null;
    }

    int largest() {
        int best = -1;
        for (int k = 0; k < state.lessons.size(); k++) {
            if (isTyped(k) && (best < 0 || size(typed(k)) > size(typed(best)))) {
                best = k;
            }
        }
        if (best < 0) {
            throw new NoSuchElementException();
        }
        return best;
    }

    int ranked(int place) {
        List<Integer> order = new ArrayList<>();
        for (int k = 0; k < state.lessons.size(); k++) {
            order.add(k);
        }
        order.sort((a, b) -> nodes(b) - nodes(a));
        if (place < 0 || place >= order.size()) {
            throw new NoSuchElementException();
        }
        return order.get(place);
    }

    boolean isTold() {
        for (int k = 0; k < state.lessons.size(); k++) {
            if (isTyped(k)) {
                Type again = again(k);
                if (again != null && !told(again).equals(told(typed(k)))) {
                    return false;
                }
            }
        }
        return true;
    }

    int append(char character) {
        if (character < 33 || character > 126) {
            throw new IllegalArgumentException();
        }
        if (input.length() == 60) {
            throw new IllegalStateException();
        }
        input += character;
        return input.length();
    }

    int faultPosition() {
        return fault;
    }

    int reason(int depth, boolean isDetail) {
        if (depth != 0 && depth != 1) {
            throw new IllegalArgumentException();
        }
        if (refused == null || depth == 1 && refused.cause == null) {
            throw new NoSuchElementException();
        }
        Refused r = depth == 0 ? refused : refused.cause;
        return isDetail ? r.detail : r.number;
    }

    int tell(int lesson) {
        lessonAt(lesson);
        line = told(typed(lesson));
        return line.length();
    }

    int tellNode(int lesson, int node) {
        nodeAt(lesson, node);
        line = told(typeOfNode(lesson, node));
        return line.length();
    }

    int tellKept(int capital) {
        needCapital(capital);
        if (state.kept[capital] == null) {
            throw new NoSuchElementException();
        }
        line = told(state.kept[capital]);
        return line.length();
    }

    static String spelled(Node node) {
        switch (node.kind) {
            case 4: return "^" + node.letter + "." + within(node.parts.get(0));
            case 5: return "!" + node.letter + "=" + within(node.parts.get(0)) + ";" + within(node.parts.get(1));
            case 6: return within(node.parts.get(0)) + within(node.parts.get(1));
            default: return String.valueOf(node.letter);
        }
    }

    static String within(Node node) {
        return node.kind >= 4 ? "(" + spelled(node) + ")" : spelled(node);
    }

    int tellTerm(int lesson) {
        line = spelled(lessonAt(lesson).root);
        return line.length();
    }

    char character(int index) {
        if (index < 0 || index >= line.length()) {
            throw new IndexOutOfBoundsException();
        }
        return line.charAt(index);
    }

    int account(int what) {
        Map<Integer, Integer> reasons = new LinkedHashMap<>();
        int nodes = 0;
        int plain = 0;
        for (int k = 0; k < state.lessons.size(); k++) {
            Found found = find(k);
            reasons.merge(found.failure == null ? 0 : found.failure.reason, 1, Integer::sum);
            nodes += nodes(k);
            plain += found.failure == null && variables(found.type).isEmpty() ? 1 : 0;
        }
        int kept = 0;
        for (Type type : state.kept) {
            kept += type == null ? 0 : 1;
        }
        switch (what) {
            case 0: return state.lessons.size();
            case 1: return reasons.getOrDefault(0, 0);
            case 2:
            case 3:
            case 4: return reasons.getOrDefault(what + 1, 0);
            case 5: return nodes;
            case 6: return kept;
            case 7: return state.given;
            case 8: return state.keptEver;
            case 9: return plain;
            case 10: return input.length();
            case 11: return history.size();
            case 12: return reasons.getOrDefault(10, 0);
            default: throw new IllegalArgumentException();
        }
    }

    double meanSize() {
        int typed = 0;
        long sum = 0;
        for (int k = 0; k < state.lessons.size(); k++) {
            if (isTyped(k)) {
                typed++;
                sum += size(typed(k));
            }
        }
        if (typed == 0) {
            throw new ArithmeticException();
        }
        return (double) sum / typed;
    }

    float typedShare() {
        if (state.lessons.isEmpty()) {
            throw new ArithmeticException();
        }
        return (float) account(1) / state.lessons.size();
    }

    int undo() {
        if (history.isEmpty()) {
            throw new IllegalStateException();
        }
        state = history.remove(history.size() - 1);
        return history.size();
    }

    int save() {
        saved = state.copy();
        return state.lessons.size();
    }

    int restore() {
        if (saved == null) {
            throw new IllegalStateException();
        }
        state = saved.copy();
        history.clear();
        return state.lessons.size();
    }
}
