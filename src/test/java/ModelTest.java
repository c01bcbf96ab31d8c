import java.util.ArrayList;
import java.util.List;
import java.util.Map;
import java.util.TreeMap;

/** Long runs of calls on the class and on the model of the document; each answer must be the same. */
public final class ModelTest {
    /** An object is used for so many calls at most; what later ones answer is free. */
    private static final int CALLS = 512;

    /** The object has no more calls. */
    private static final class Spent extends RuntimeException {
        private static final long serialVersionUID = 1;

        private Spent() {
            super(null, null, false, false);
        }
    }

    private interface Answer {
        Object get();
    }

    private static long seed;
    private static int wrong;
    private static final Map<String, Integer> SEEN = new TreeMap<>();

    private static int pick(int bound) {
        seed = seed * 6364136223846793005L + 1442695040888963407L;
        return (int) ((seed >>> 33) % bound);
    }

    /** Terms that make the rarer things come up: copies of copies, large types, names left alone. */
    private static final String[] TERMS = {
        "^x.x", "^x.^y.x", "^x.^y.^z.xz(yz)", "^f.^x.f(fx)", "^f.^g.^x.f(gx)", "+1", "<1", "?(<12)", "?", "+", "<", "7",
        "!i=^x.x;ii", "!i=^x.x;?(i(<12))(i3)4", "(^i.?(i(<12))(i3)4)(^x.x)", "^x.xx", "^x.y", "^x.!y=x;yy",
        "^x.!y=x;?(<(y1)2)(y3)", "^g.!p=^z.zgg;!q=^z.zpp;q", "^x.!y=^z.x;+(y1)(y(<1))",
        "!a=^z.z11;!b=^z.zaa;!c=^z.zbb;!d=^z.zcc;d", "!a=^z.z11;!b=^z.zaa;!c=^z.zbb;!d=^z.zcc;!e=^z.zdd;e",
        "!a=^z.z11;!b=^z.zaa;!c=^z.zbb;!d=^z.zcc;!e=^z.zdd;^z.zee", "!a=^z.z11;!b=^z.zaa;!c=^z.zbb;!d=^z.zcc;^z.zdd",
        "!a=^z.z11;!b=^z.zaa;!c=^z.zbb;!d=^z.zcc;(^x.x)(^z.zdd)", "!a=^z.z11;!b=^z.zaa;!c=^z.zbb;!d=^z.zcc;^x.+1(^z.zdd)",
        "!a=^z.z11;!b=^z.zaa;!c=^z.zbb;!d=^z.zcc;(^z.zdd)1", "!a=^z.z11;!b=^z.zaa;!c=^z.zbb;!d=^z.zcc;^y.y(^z.zdd)",
        "!a=^x.xx;1", "!a=b;1", "!a=a;1", "!a=1;!a=<a;a", "^a.^a.!b=a;b", "^a.!b=a;^a.!c=b;c(ab)",
        "AB", "A", "B", "C(AB)", "ABA", "^x.A(Bx)", "!z=A;z(zB)", "H", "A1", "B1", "^z.zAB",
        "^a.^b.^c.^d.^e.^f.^g.^h.^i.^j.^k.^l.^m.^n.^o.^p.^q.^r.1", "(((((((((((1)))))))))))",
        "!a=^x.x;!b=aa;!c=bb;!d=cc;!e=dd;ee", "!a=^x.x;!b=aaa;!c=bbb;!d=ccc;ddd", "!a=^x.x;!b=aaa;!c=bbb;!d=ccc;!e=ddd;ee",
        "^x.!a=x;!b=^y.yaa;!c=^y.ybb;x1", "^x.!a=^y.xy;!b=^z.a(az);b", "^f.!g=^x.f(fx);!h=^x.g(gx);h",
        "^x.^y.?(<(x1)2)xy", "^x.!y=^z.?(<12)xz;!w=y(^u.u);x", "!k=^x.^y.x;!s=^f.^g.^x.fx(gx);skk",
        "^p.p(^x.^y.x)", "^x.^f.fx", "^c.^f.f(cf)", "^n.^f.^x.f(nfx)", "^x.?x1(<12)", "^x.+x(x1)", "^x.?x(+x)1", "12", "<<", "?1", "(<1)(<1)",
        "^a.^b.^c.^d.^e.^f.zabcdef", "abcdefghijklmnopqrstuvwxyzabcdefghijklmnopqrstuvwxyzabcdefgh",
        "^x.!y=x;!z=y;!w=^u.zu;w(w1)", "!f=^x.!y=x;y;f(f1)", "^f.(^x.f(xx))(^x.f(xx))", "^x.^y.^z.?(<xy)z(zx)",
        "(^a.^b.a(^x.b)(bx))", "^x.(^y.y)x", "!t=^x.^y.x;!p=^a.^b.^f.fab;p1(pt(<12))t",
    };

    private static final String SIGNS = "abcxyzABCDH0123+<?()^!.=;";

    private static String leaf(String names) {
        if (!names.isEmpty() && pick(4) > 0) {
            return "" + names.charAt(pick(names.length()));
        }
        String signs = pick(3) == 0 ? "DEFGHabxyz" : "ABC0123456789+++<<<???";
        return "" + signs.charAt(pick(signs.length()));
    }

    private static String made(int room, String names) {
        int form = pick(8);
        if (room <= 0) {
            return leaf(names);
        }
        String letter = "" + "abcxyz".charAt(pick(6));
        if (form < 2) {
            return "^" + letter + "." + made(room - 1, names + letter);
        }
        if (form < 4) {
            return "!" + letter + "=" + made(room - 2, names) + ";" + made(room - 1, names + letter);
        }
        StringBuilder parts = new StringBuilder();
        int count = 1 + pick(3);
        for (int k = 0; k < count; k++) {
            parts.append(pick(2) == 0 ? leaf(names) : "(" + made(room - 2, names) + ")");
        }
        return parts.toString();
    }

    private static String term() {
        int how = pick(10);
        String text = how < 6 ? TERMS[pick(TERMS.length)] : made(1 + pick(5), "");
        if (how == 5 || how == 9) {
            int at = pick(text.length() + 1);
            int end = Math.min(text.length(), at + pick(3));
            text = text.substring(0, at) + (pick(3) == 0 ? "" : "" + SIGNS.charAt(pick(SIGNS.length()))) + text.substring(end);
        }
        return text.length() > 60 ? text.substring(0, 60) : text;
    }

    private static String orders() {
        StringBuilder text = new StringBuilder();
        int count = 1 + pick(4);
        for (int k = 0; k < count; k++) {
            int which = pick(5);
            text.append(k == 0 ? "" : ";");
            String capital = "" + (char) ('A' + (pick(3) == 0 ? pick(8) : pick(3)));
            text.append(which < 3 ? "k" + pick(pick(4) == 0 ? 10 : 3) + capital : which == 3 ? "u" + capital : "x" + pick(4));
        }
        if (pick(6) == 0) {
            int at = pick(text.length());
            text.setCharAt(at, "kux;0AZ9HI".charAt(pick(10)));
        }
        if (pick(12) == 0) {
            text.setLength(pick(text.length() + 1));
        }
        return text.toString();
    }

    private static String told(Answer answer) {
        try {
            return String.valueOf(answer.get());
        } catch (RuntimeException e) {
            return "throws." + e.getClass().getSimpleName();
        }
    }

    private static String same(String call, Answer ofClass, Answer ofModel, List<String> calls) {
        if (calls.size() >= CALLS) {
            throw new Spent();
        }
        String got = told(ofClass);
        String due = told(ofModel);
        calls.add(call + " -> " + got);
        SEEN.merge(call.substring(0, call.indexOf('(')) + (due.startsWith("throws") ? " " + due : ""), 1, Integer::sum);
        if (!got.equals(due)) {
            wrong++;
            if (wrong < 5) {
                for (String earlier : calls) {
                    System.out.println("  " + earlier);
                }
            }
            System.out.println(call + " answered " + got + ", the model " + due);
        }
        return due;
    }

    private static void type(String text, TypeTutor t, Model m, List<String> calls) {
        for (int k = 0; k < text.length(); k++) {
            char sign = text.charAt(k);
            same("append(" + sign + ")", () -> t.append(sign), () -> m.append(sign), calls);
        }
    }

    /** A number below a bound, or now and then one beyond its bounds or the farthest one. */
    private static int number(int bound) {
        if (bound > 0 && pick(9) > 0) {
            return pick(bound);
        }
        int[] beyond = {-1, bound, bound + 1, Integer.MIN_VALUE, Integer.MAX_VALUE};
        return beyond[pick(beyond.length)];
    }

    private static void characters(String call, Answer ofClass, Answer ofModel, TypeTutor t, Model m, List<String> calls) {
        same(call, ofClass, ofModel, calls);
        for (int k = 0; k < 4; k++) {
            int index = k == 0 ? m.line.length() - 1 : number(m.line.length());
            same("character(" + index + ")", () -> t.character(index), () -> m.character(index), calls);
        }
    }

    private static void askOfLesson(TypeTutor t, Model m, int l, List<String> calls) {
        int w = number(6);
        String one = "(" + l + ")";
        String two = "(" + l + "," + w + ")";
        switch (pick(9)) {
            case 0: same("nodes" + one, () -> t.nodes(l), () -> m.nodes(l), calls); break;
            case 1: same("unbound" + one, () -> t.unbound(l), () -> m.unbound(l), calls); break;
            case 2: same("isTyped" + one, () -> t.isTyped(l), () -> m.isTyped(l), calls); break;
            case 3:
                String told = same("failure" + two, () -> t.failure(l, w), () -> m.failure(l, w), calls);
                SEEN.merge("failure " + w + " " + told, 1, Integer::sum);
                break;
            case 4: same("typeOf" + two, () -> t.typeOf(l, w), () -> m.typeOf(l, w), calls); break;
            case 5: same("typeAgain" + two, () -> t.typeAgain(l, w), () -> m.typeAgain(l, w), calls); break;
            case 6: same("fitting" + one, () -> t.fitting(l), () -> m.fitting(l), calls); break;
            case 7: characters("tell" + one, () -> t.tell(l), () -> m.tell(l), t, m, calls); break;
            default: characters("tellTerm" + one, () -> t.tellTerm(l), () -> m.tellTerm(l), t, m, calls); break;
        }
    }

    private static void askOfNode(TypeTutor t, Model m, int l, List<String> calls) {
        int n = number(l >= 0 && l < m.state.lessons.size() ? m.nodes(l) : 1);
        int w = number(6);
        String two = "(" + l + "," + n + ")";
        String three = "(" + l + "," + n + "," + w + ")";
        switch (pick(6)) {
            case 0: same("nodeOf" + three, () -> t.nodeOf(l, n, w), () -> m.nodeOf(l, n, w), calls); break;
            case 1: same("signOf" + two, () -> t.signOf(l, n), () -> m.signOf(l, n), calls); break;
            case 2: same("binder" + two, () -> t.binder(l, n), () -> m.binder(l, n), calls); break;
            case 3: same("uses" + two, () -> t.uses(l, n), () -> m.uses(l, n), calls); break;
            case 4: same("nodeType" + three, () -> t.nodeType(l, n, w), () -> m.nodeType(l, n, w), calls); break;
            default: characters("tellNode" + two, () -> t.tellNode(l, n), () -> m.tellNode(l, n), t, m, calls); break;
        }
    }

    private static void askOfTwo(TypeTutor t, Model m, int a, int b, List<String> calls) {
        String two = "(" + a + "," + b + ")";
        switch (pick(3)) {
            case 0: same("isAlike" + two, () -> t.isAlike(a, b), () -> m.isAlike(a, b), calls); break;
            case 1: same("isAsGeneral" + two, () -> t.isAsGeneral(a, b), () -> m.isAsGeneral(a, b), calls); break;
            default: same("fit" + two, () -> t.fit(a, b), () -> m.fit(a, b), calls); break;
        }
    }

    private static void askOfAll(TypeTutor t, Model m, List<String> calls) {
        int c = pick(2) == 0 ? number(8) : pick(3);
        int p = number(m.state.lessons.size());
        int d = number(2);
        int w = number(13);
        boolean isDetail = pick(2) == 0;
        switch (pick(10)) {
            case 0: same("isKept(" + c + ")", () -> t.isKept(c), () -> m.isKept(c), calls); break;
            case 1: characters("tellKept(" + c + ")", () -> t.tellKept(c), () -> m.tellKept(c), t, m, calls); break;
            case 2: same("ranked(" + p + ")", () -> t.ranked(p), () -> m.ranked(p), calls); break;
            case 3:
                String call = "reason(" + d + "," + isDetail + ")";
                same(call, () -> t.reason(d, isDetail), () -> m.reason(d, isDetail), calls);
                break;
            case 4: same("largest()", t::largest, m::largest, calls); break;
            case 5: same("isTold()", t::isTold, m::isTold, calls); break;
            case 6: same("meanSize()", t::meanSize, m::meanSize, calls); break;
            case 7: same("typedShare()", t::typedShare, m::typedShare, calls); break;
            case 8: same("faultPosition()", t::faultPosition, m::faultPosition, calls); break;
            default: same("account(" + w + ")", () -> t.account(w), () -> m.account(w), calls); break;
        }
    }

    private static void ask(TypeTutor t, Model m, List<String> calls) {
        int l = number(m.state.lessons.size());
        switch (pick(4)) {
            case 0: askOfLesson(t, m, l, calls); break;
            case 1: askOfNode(t, m, l, calls); break;
            case 2: askOfTwo(t, m, l, number(m.state.lessons.size()), calls); break;
            default: askOfAll(t, m, calls); break;
        }
    }

    private static void change(TypeTutor t, Model m, List<String> calls) {
        int which = pick(20);
        int l = number(m.state.lessons.size());
        int c = pick(3) == 0 ? number(8) : pick(3);
        if (which < 8) {
            type(term(), t, m, calls);
            same("lesson()", t::lesson, m::lesson, calls);
        } else if (which < 12) {
            same("keep(" + l + "," + c + ")", () -> t.keep(l, c), () -> m.keep(l, c), calls);
        } else if (which < 13) {
            same("unkeep(" + c + ")", () -> t.unkeep(c), () -> m.unkeep(c), calls);
        } else if (which < 15) {
            same("drop(" + l + ")", () -> t.drop(l), () -> m.drop(l), calls);
        } else if (which < 17) {
            type(orders(), t, m, calls);
            same("run()", t::run, m::run, calls);
        } else if (which < 18) {
            same("undo()", t::undo, m::undo, calls);
        } else if (which < 19) {
            same("save()", t::save, m::save, calls);
        } else if (pick(3) == 0) {
            same("restore()", t::restore, m::restore, calls);
        } else {
            char sign = (char) (pick(110) + 25);
            same("append(" + (int) sign + ")", () -> t.append(sign), () -> m.append(sign), calls);
        }
        if (m.refused != null) {
            SEEN.merge("refused " + m.refused.number + (m.refused.cause == null ? "" : " for " + m.refused.cause.number), 1, Integer::sum);
        }
    }

    /** One run: changes and questions, until the object has no more calls. */
    private static void run(List<String> calls) {
        TypeTutor t = new TypeTutor();
        Model m = new Model();
        int asked = 1 + pick(12);
        if (pick(2) == 0) {
            // Terms that name a capital have types more often then.
            type(TERMS[pick(12)], t, m, calls);
            same("lesson()", t::lesson, m::lesson, calls);
            same("keep(0,0)", () -> t.keep(0, 0), () -> m.keep(0, 0), calls);
            same("keep(0,1)", () -> t.keep(0, 1), () -> m.keep(0, 1), calls);
        }
        while (calls.size() < CALLS) {
            change(t, m, calls);
            for (int k = 0; k < asked; k++) {
                ask(t, m, calls);
            }
        }
    }

    public static void main(String[] arguments) {
        int runs = arguments.length > 0 ? Integer.parseInt(arguments[0]) : 4000;
        for (int run = 0; run < runs && wrong < 20; run++) {
            seed = 77 + run;
            try {
                run(new ArrayList<>());
            } catch (Spent e) {
                SEEN.merge("runs to the last call", 1, Integer::sum);
            }
        }
        if (arguments.length > 0) {
            SEEN.forEach((what, count) -> System.out.println(count + " " + what));
        }
        System.out.println(wrong == 0 ? "ModelTest: all answers are the same" : "ModelTest: " + wrong + " answers differ");
        if (wrong != 0) {
            System.exit(1);
        }
    }
}
