import java.util.ArrayList;
import java.util.List;
import java.util.Map;
import java.util.TreeMap;

/** Long runs of calls on the class and on the model of the document; each answer must be the same. */
public final class ModelTest {
    private interface Answer {
        Object get();
    }

    private static long seed;
    private static int wrong;
    private static final Map<String, Integer> SEEN = new TreeMap<>();

    private static int pick(int bound) {
        seed = seed * 6364136223846793005L + 1442695040888963407L;
        return (int) ((seed >>> 33) % bound);
    }

    /** Terms that make the rarer things come up: copies of copies, large types, names left alone. */
    private static final String[] TERMS = {
        "^x.x", "^x.^y.x", "^x.^y.^z.xz(yz)", "^f.^x.f(fx)", "^f.^g.^x.f(gx)", "+1", "<1", "?(<12)", "?", "+", "<", "7",
        "!i=^x.x;ii", "!i=^x.x;?(i(<12))(i3)4", "(^i.?(i(<12))(i3)4)(^x.x)", "^x.xx", "^x.y", "^x.!y=x;yy",
        "^x.!y=x;?(<(y1)2)(y3)", "^g.!p=^z.zgg;!q=^z.zpp;q", "^x.!y=^z.x;+(y1)(y(<1))",
        "!a=^z.z11;!b=^z.zaa;!c=^z.zbb;!d=^z.zcc;d", "!a=^z.z11;!b=^z.zaa;!c=^z.zbb;!d=^z.zcc;!e=^z.zdd;e",
        "!a=^z.z11;!b=^z.zaa;!c=^z.zbb;!d=^z.zcc;!e=^z.zdd;^z.zee", "!a=^z.z11;!b=^z.zaa;!c=^z.zbb;!d=^z.zcc;^z.zdd",
        "!a=^z.z11;!b=^z.zaa;!c=^z.zbb;!d=^z.zcc;(^x.x)(^z.zdd)", "!a=^z.z11;!b=^z.zaa;!c=^z.zbb;!d=^z.zcc;^x.+1(^z.zdd)",
        "!a=^z.z11;!b=^z.zaa;!c=^z.zbb;!d=^z.zcc;(^z.zdd)1", "!a=^z.z11;!b=^z.zaa;!c=^z.zbb;!d=^z.zcc;^y.y(^z.zdd)",
        "!a=^x.xx;1", "!a=b;1", "!a=a;1", "!a=1;!a=<a;a", "^a.^a.!b=a;b", "^a.!b=a;^a.!c=b;c(ab)",
        "AB", "A", "B", "C(AB)", "ABA", "^x.A(Bx)", "!z=A;z(zB)", "H", "A1", "B1", "^z.zAB",
        "^a.^b.^c.^d.^e.^f.^g.^h.^i.^j.^k.^l.^m.^n.^o.^p.^q.^r.1", "(((((((((((1)))))))))))",
        "!a=^x.x;!b=aa;!c=bb;!d=cc;!e=dd;ee", "!a=^x.x;!b=aaa;!c=bbb;!d=ccc;ddd", "!a=^x.x;!b=aaa;!c=bbb;!d=ccc;!e=ddd;ee",
        "^x.!a=x;!b=^y.yaa;!c=^y.ybb;x1", "^x.!a=^y.xy;!b=^z.a(az);b", "^f.!g=^x.f(fx);!h=^x.g(gx);h",
        "^x.^y.?(<(x1)2)xy", "^x.!y=^z.?(<12)xz;!w=y(^u.u);x", "!k=^x.^y.x;!s=^f.^g.^x.fx(gx);skk",
        "^p.p(^x.^y.x)", "^x.^f.fx", "^c.^f.f(cf)", "^n.^f.^x.f(nfx)", "^x.?x1(<12)", "^x.+x(x1)", "^x.?x(+x)1", "12", "<<", "?1", "(<1)(<1)",
        "^a.^b.^c.^d.^e.^f.zabcdef", "abcdefghijklmnopqrstuvwxyzabcdefghijklmnopqrstuvwxyzabcdefgh",
        "^x.!y=x;!z=y;!w=^u.zu;w(w1)", "!f=^x.!y=x;y;f(f1)", "^f.(^x.f(xx))(^x.f(xx))", "^x.^y.^z.?(<xy)z(zx)",
        "(^a.^b.a(^x.b)(bx))", "^x.(^y.y)x", "!t=^x.^y.x;!p=^a.^b.^f.fab;p1(pt(<12))t",
    };

    private static final String SIGNS = "abcxyzABCDH0123+<?()^!.=;";

    private static String leaf(String names) {
        if (!names.isEmpty() && pick(4) > 0) {
            return "" + names.charAt(pick(names.length()));
        }
        String signs = pick(3) == 0 ? "DEFGHabxyz" : "ABC0123456789+++<<<???";
        return "" + signs.charAt(pick(signs.length()));
    }

    private static String made(int room, String names) {
        int form = pick(8);
        if (room <= 0) {
            return leaf(names);
        }
        String letter = "" + "abcxyz".charAt(pick(6));
        if (form < 2) {
            return "^" + letter + "." + made(room - 1, names + letter);
        }
        if (form < 4) {
            return "!" + letter + "=" + made(room - 2, names) + ";" + made(room - 1, names + letter);
        }
        StringBuilder parts = new StringBuilder();
        int count = 1 + pick(3);
        for (int k = 0; k < count; k++) {
            parts.append(pick(2) == 0 ? leaf(names) : "(" + made(room - 2, names) + ")");
        }
        return parts.toString();
    }

    private static String term() {
        int how = pick(10);
        String text = how < 6 ? TERMS[pick(TERMS.length)] : made(1 + pick(5), "");
        if (how == 5 || how == 9) {
            int at = pick(text.length() + 1);
            int end = Math.min(text.length(), at + pick(3));
            text = text.substring(0, at) + (pick(3) == 0 ? "" : "" + SIGNS.charAt(pick(SIGNS.length()))) + text.substring(end);
        }
        return text.length() > 60 ? text.substring(0, 60) : text;
    }

    private static String orders() {
        StringBuilder text = new StringBuilder();
        int count = 1 + pick(4);
        for (int k = 0; k < count; k++) {
            int which = pick(5);
            text.append(k == 0 ? "" : ";");
            String capital = "" + (char) ('A' + (pick(3) == 0 ? pick(8) : pick(3)));
            text.append(which < 3 ? "k" + pick(pick(4) == 0 ? 10 : 3) + capital : which == 3 ? "u" + capital : "x" + pick(4));
        }
        if (pick(6) == 0) {
            int at = pick(text.length());
            text.setCharAt(at, "kux;0AZ9HI".charAt(pick(10)));
        }
        if (pick(12) == 0) {
            text.setLength(pick(text.length() + 1));
        }
        return text.toString();
    }

    private static String told(Answer answer) {
        try {
            return String.valueOf(answer.get());
        } catch (RuntimeException e) {
            return "throws." + e.getClass().getSimpleName();
        }
    }

    private static String same(String call, Answer ofClass, Answer ofModel, List<String> calls) {
        String got = told(ofClass);
        String due = told(ofModel);
        calls.add(call + " -> " + got);
        SEEN.merge(call.substring(0, call.indexOf('(')) + (due.startsWith("throws") ? " " + due : ""), 1, Integer::sum);
        if (!got.equals(due)) {
            wrong++;
            if (wrong < 5) {
                for (String earlier : calls) {
                    System.out.println("  " + earlier);
                }
            }
            System.out.println(call + " answered " + got + ", the model " + due);
        }
        return due;
    }

    private static void type(String text, TypeTutor t, Model m, List<String> calls) {
        for (int k = 0; k < text.length(); k++) {
            char sign = text.charAt(k);
            same("append(" + sign + ")", () -> t.append(sign), () -> m.append(sign), calls);
        }
    }

    private static void line(String call, Answer ofClass, Answer ofModel, TypeTutor t, Model m, List<String> calls) {
        same(call, ofClass, ofModel, calls);
        StringBuilder got = new StringBuilder();
        for (int k = 0; k < m.line.length(); k++) {
            int index = k;
            String sign = told(() -> t.character(index));
            got.append(sign);
        }
        same("line()", () -> got.toString() + told(() -> t.character(m.line.length())),
            () -> m.line + "throws.IndexOutOfBoundsException", calls);
    }

    private static void lessonChecks(TypeTutor t, Model m, int l, List<String> calls) {
        same("nodes(" + l + ")", () -> t.nodes(l), () -> m.nodes(l), calls);
        same("unbound(" + l + ")", () -> t.unbound(l), () -> m.unbound(l), calls);
        same("isTyped(" + l + ")", () -> t.isTyped(l), () -> m.isTyped(l), calls);
        int due = l >= 0 && l < m.state.lessons.size() ? m.nodes(l) : 1;
        for (int w = -1; w <= 5; w++) {
            int what = w;
            String told = same("failure(" + l + "," + what + ")", () -> t.failure(l, what), () -> m.failure(l, what), calls);
            if (what == 0) {
                SEEN.merge("reason " + told, 1, Integer::sum);
            }
            same("typeOf(" + l + "," + what + ")", () -> t.typeOf(l, what), () -> m.typeOf(l, what), calls);
            same("typeAgain(" + l + "," + what + ")", () -> t.typeAgain(l, what), () -> m.typeAgain(l, what), calls);
        }
        line("tell(" + l + ")", () -> t.tell(l), () -> m.tell(l), t, m, calls);
        line("tellTerm(" + l + ")", () -> t.tellTerm(l), () -> m.tellTerm(l), t, m, calls);
        for (int n = -1; n <= due; n++) {
            int node = n;
            for (int w = -1; w <= 6; w++) {
                int what = w;
                String arguments = "(" + l + "," + node + "," + what + ")";
                same("nodeOf" + arguments, () -> t.nodeOf(l, node, what), () -> m.nodeOf(l, node, what), calls);
            }
            String arguments = "(" + l + "," + node + ")";
            same("signOf" + arguments, () -> t.signOf(l, node), () -> m.signOf(l, node), calls);
            same("binder" + arguments, () -> t.binder(l, node), () -> m.binder(l, node), calls);
            same("uses" + arguments, () -> t.uses(l, node), () -> m.uses(l, node), calls);
            int what = pick(7) - 1;
            same("nodeType(" + l + "," + node + "," + what + ")", () -> t.nodeType(l, node, what), () -> m.nodeType(l, node, what), calls);
            if (pick(4) == 0) {
                line("tellNode" + arguments, () -> t.tellNode(l, node), () -> m.tellNode(l, node), t, m, calls);
            }
        }
    }

    private static void allChecks(TypeTutor t, Model m, List<String> calls) {
        for (int k = -1; k <= 8; k++) {
            int c = k;
            same("isKept(" + c + ")", () -> t.isKept(c), () -> m.isKept(c), calls);
            line("tellKept(" + c + ")", () -> t.tellKept(c), () -> m.tellKept(c), t, m, calls);
            same("ranked(" + c + ")", () -> t.ranked(c), () -> m.ranked(c), calls);
        }
        for (int k = -1; k <= 13; k++) {
            int w = k;
            same("account(" + w + ")", () -> t.account(w), () -> m.account(w), calls);
        }
        for (int k = -1; k <= 2; k++) {
            int d = k;
            same("reason(" + d + ",true)", () -> t.reason(d, true), () -> m.reason(d, true), calls);
            same("reason(" + d + ",false)", () -> t.reason(d, false), () -> m.reason(d, false), calls);
        }
        same("largest()", t::largest, m::largest, calls);
        same("isTold()", t::isTold, m::isTold, calls);
        same("meanSize()", t::meanSize, m::meanSize, calls);
        same("typedShare()", t::typedShare, m::typedShare, calls);
        same("faultPosition()", t::faultPosition, m::faultPosition, calls);
        for (int k = -1; k <= m.state.lessons.size(); k++) {
            int a = k;
            same("fitting(" + a + ")", () -> t.fitting(a), () -> m.fitting(a), calls);
            for (int j = -1; j <= m.state.lessons.size(); j++) {
                int b = j;
                String arguments = "(" + a + "," + b + ")";
                String alike = same("isAlike" + arguments, () -> t.isAlike(a, b), () -> m.isAlike(a, b), calls);
                String general = same("isAsGeneral" + arguments, () -> t.isAsGeneral(a, b), () -> m.isAsGeneral(a, b), calls);
                same("fit" + arguments, () -> t.fit(a, b), () -> m.fit(a, b), calls);
                SEEN.merge("alike " + alike + " general " + general, 1, Integer::sum);
            }
        }
    }

    private static void change(TypeTutor t, Model m, List<String> calls) {
        int which = pick(20);
        int l = pick(8) - 1;
        int c = pick(10) - 1;
        if (which < 9) {
            type(term(), t, m, calls);
            same("lesson()", t::lesson, m::lesson, calls);
        } else if (which < 12) {
            same("keep(" + l + "," + c + ")", () -> t.keep(l, c), () -> m.keep(l, c), calls);
        } else if (which < 13) {
            same("unkeep(" + c + ")", () -> t.unkeep(c), () -> m.unkeep(c), calls);
        } else if (which < 15) {
            same("drop(" + l + ")", () -> t.drop(l), () -> m.drop(l), calls);
        } else if (which < 17) {
            type(orders(), t, m, calls);
            same("run()", t::run, m::run, calls);
        } else if (which < 18) {
            same("undo()", t::undo, m::undo, calls);
        } else if (which < 19) {
            same("save()", t::save, m::save, calls);
        } else if (pick(3) == 0) {
            same("restore()", t::restore, m::restore, calls);
        } else {
            char sign = (char) (pick(110) + 25);
            same("append(" + (int) sign + ")", () -> t.append(sign), () -> m.append(sign), calls);
        }
        if (m.refused != null) {
            SEEN.merge("refused " + m.refused.number + (m.refused.cause == null ? "" : " for " + m.refused.cause.number), 1, Integer::sum);
        }
    }

    public static void main(String[] arguments) {
        int runs = arguments.length > 0 ? Integer.parseInt(arguments[0]) : 300;
        for (int run = 0; run < runs && wrong < 20; run++) {
            seed = 77 + run;
            TypeTutor t = new TypeTutor();
            Model m = new Model();
            List<String> calls = new ArrayList<>();
            for (int step = 0; step < 30; step++) {
                change(t, m, calls);
                if (pick(3) == 0) {
                    lessonChecks(t, m, pick(7) - (pick(9) == 0 ? 1 : 0), calls);
                }
                if (pick(6) == 0) {
                    allChecks(t, m, calls);
                }
            }
            allChecks(t, m, calls);
        }
        if (arguments.length > 0) {
            SEEN.forEach((what, count) -> System.out.println(count + " " + what));
        }
        System.out.println(wrong == 0 ? "ModelTest: all answers are the same" : "ModelTest: " + wrong + " answers differ");
        if (wrong != 0) {
            System.exit(1);
        }
    }
}
