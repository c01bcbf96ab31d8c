/** Each promise of the document, with answers worked out by hand. */
public final class PromiseTest extends Checks {
    // Types of sizes 7, 19, 43, 91 and 187; the next one of this kind has 379.
    private static final String DOUBLES = "!a=?;!b=^z.zaa;!c=^z.zbb;!d=^z.zcc;!e=^z.zdd;";

    /** The call fails, and the counts are as before; that all is as before is tested sentence by sentence. */
    private static void failsAlone(TypeTutor t, Class<?> due, Call call) {
        String before = look(t);
        fails(due, call);
        is(look(t), before);
    }

    private static void refuses(TypeTutor t, int reason, int detail, Call call) {
        failsAlone(t, UOE, call);
        is(t.reason(0, false), reason);
        is(t.reason(0, true), detail);
        fails(NSE, () -> t.reason(1, false));
    }

    /** The counts of what changes: few calls, as an object has 512 of them. */
    private static String look(TypeTutor t) {
        StringBuilder text = new StringBuilder();
        for (int what = 5; what <= 8; what++) {
            text.append(t.account(what)).append(' ');
        }
        return text.append(t.account(11)).toString();
    }

    private static void promise1() {
        TypeTutor t = new TypeTutor();
        for (int what = 0; what <= 12; what++) {
            is(t.account(what), 0);
        }
        is(t.faultPosition(), -1);
        is(line(t), "");
        is(t.isTold(), true);
        fails(IOB, () -> t.nodes(0));
        fails(NSE, () -> t.reason(0, false));
        fails(ISE, t::undo);
        fails(ISE, t::restore);
    }

    private static void fault(String term, int position) {
        TypeTutor t = with("1");
        type(t, term);
        failsAlone(t, IAE, t::lesson);
        is(t.faultPosition(), position);
        is(t.account(10), 0);
        fails(NSE, () -> t.reason(0, false));
    }

    private static void promise2() {
        TypeTutor t = new TypeTutor();
        is(give(t, "^x.x"), 0);
        is(t.faultPosition(), -1);
        is(t.account(10), 0);
        is(give(t, "!a=1;!b=(^x.x);ba"), 1);
        fault("", 0);
        fault("^", 1);
        fault("^x", 2);
        fault("^x.", 3);
        fault("^X.x", 1);
        fault("^x;x", 2);
        fault("!a", 2);
        fault("!a=", 3);
        fault("!a=1", 4);
        fault("!a=1;", 5);
        fault("!A=1;1", 1);
        fault("!a.1;1", 2);
        fault("!a=;1", 3);
        fault("!a=1)1", 4);
        fault("(!a=1)", 5);
        fault("!a=(1;1", 5);
        fault("x)", 1);
        fault("(x", 2);
        fault("(x))", 3);
        fault("(x;", 2);
        fault("()", 1);
        fault("x;", 1);
        fault("f^x.x", 1);
        fault("f!x=1;x", 1);
        fault("I", 0);
        fault("Z", 0);
        fault("xH.", 2);
        fault("1-1", 1);
        fault(".", 0);
        fault("((((((((((((((((((((((((((((((((((((((((((((((((((((((((((((", 60);
        fault("xxxxxxxxxxxxxxxxxxxxxxxxxxxxxxxxxxxxxxxxxxxxxxxxxxxxxxxxxxx;", 59);
        for (int k = 2; k < 6; k++) {
            is(give(t, "abcdefghijklmnopqrstuvwxyzABCDEFGH0123456789+<?(abcdefghijk)"), k);
        }
        type(t, "1");
        refuses(t, 1, 6, t::lesson);
        is(t.account(10), 0);
        is(t.faultPosition(), -1);
        type(t, "1;");
        failsAlone(t, IAE, t::lesson);
        is(t.faultPosition(), 1);
        is(t.reason(0, true), 6);
        is(t.drop(0), 2);
        is(give(t, "1"), 5);
        TypeTutor u = new TypeTutor();
        type(u, "((x");
        fails(IAE, u::lesson);
        is(give(u, "1"), 0);
        type(u, "x)");
        fails(IAE, u::lesson);
        is(u.faultPosition(), 1);
        type(u, "!a=1");
        fails(IAE, u::lesson);
        type(u, "1;1");
        fails(IAE, u::lesson);
        is(u.faultPosition(), 1);
    }

    private static void promise3() {
        TypeTutor t = with("1", "12", "^x.x", "^x.^y.x");
        is(t.drop(1), 3);
        is(t.account(0), 3);
        is(t.nodes(0), 1);
        is(t.nodes(1), 2);
        is(t.nodes(2), 3);
        refuses(t, 2, 3, () -> t.drop(3));
        refuses(t, 2, -1, () -> t.drop(-1));
        refuses(t, 2, Integer.MAX_VALUE, () -> t.drop(Integer.MAX_VALUE));
        is(t.drop(2), 3);
        is(t.drop(0), 1);
        is(t.drop(0), 2);
        refuses(t, 2, 0, () -> t.drop(0));
    }

    private static void promise4() {
        TypeTutor t = with("^x.^y.x", "11", "y", "^x.xx", DOUBLES + "(^x.x)e", "!a=?;!b=^z.zaa;^z.zb");
        is(t.keep(0, 0), 2);
        is(t.tellKept(0), 5);
        is(line(t), "a>b>a");
        refuses(t, 2, 6, () -> t.keep(6, 8));
        refuses(t, 2, -1, () -> t.keep(-1, 0));
        refuses(t, 8, 8, () -> t.keep(2, 8));
        refuses(t, 8, -1, () -> t.keep(0, -1));
        refuses(t, 3, 0, () -> t.keep(2, 7));
        refuses(t, 4, 0, () -> t.keep(1, 0));
        refuses(t, 5, 1, () -> t.keep(3, 0));
        refuses(t, 10, 30, () -> t.keep(4, 0));
        is(t.typeOf(5, 0), 23);
        is(t.keep(5, 7), 4);
        t.drop(5);
        is(give(t, "!a=?;!b=^z.zaa;^z.zb1"), 5);
        refuses(t, 7, 25, () -> t.keep(5, 0));
        t.drop(5);
        // By what the capital kept before.
        is(give(t, "^z.A"), 5);
        is(t.keep(5, 0), 3);
        is(t.typeOf(5, 0), 9);
        is(t.keep(5, 0), 4);
        is(told(t, 5), "a>b>c>d>e>d");
    }

    private static void promise5() {
        TypeTutor t = with("^x.^y.x", "A");
        refuses(t, 6, 0, () -> t.unkeep(0));
        refuses(t, 8, 8, () -> t.unkeep(8));
        refuses(t, 8, -1, () -> t.unkeep(-1));
        t.keep(0, 0);
        is(t.isTyped(1), true);
        is(t.unkeep(0), 5);
        is(t.isTyped(1), false);
        is(t.isKept(0), false);
        refuses(t, 6, 0, () -> t.unkeep(0));
        refuses(t, 6, 7, () -> t.unkeep(7));
    }

    private static void noLesson(TypeTutor t, int lesson, Call call) {
        is(lesson < 0 || lesson >= t.account(0), true);
        failsAlone(t, IOB, call);
    }

    private static void promise6() {
        TypeTutor t = with("(((1)))", "xyz", "^x.!a=1;+ax");
        is(t.nodes(0), 1);
        is(t.nodes(1), 5);
        is(t.nodes(2), 8);
        noLesson(t, 3, () -> t.nodes(3));
        noLesson(t, -1, () -> t.nodes(-1));
    }

    private static void node(TypeTutor t, int node, int... due) {
        for (int what = 0; what <= 5; what++) {
            is(t.nodeOf(0, node, what), due[what]);
        }
    }

    private static void promise7() {
        TypeTutor t = with("((^x.(x)A)1)(!a=+;a)");
        node(t, 0, 6, -1, 1, 7, 0, 2);
        node(t, 1, 6, 0, 2, 6, 1, 2);
        // The application within starts where its first part starts, without brackets.
        node(t, 2, 4, 1, 3, -1, 2, 2);
        node(t, 3, 6, 2, 4, 5, 3, 6);
        node(t, 4, 0, 3, -1, -1, 4, 6);
        node(t, 5, 1, 3, -1, -1, 4, 8);
        node(t, 6, 2, 1, -1, -1, 2, 10);
        node(t, 7, 5, 0, 8, 9, 1, 13);
        node(t, 8, 3, 7, -1, -1, 2, 16);
        node(t, 9, 0, 7, -1, -1, 2, 18);
        noLesson(t, 1, () -> t.nodeOf(1, 0, 9));
        failsAlone(t, IOB, () -> t.nodeOf(0, 10, 9));
        failsAlone(t, IOB, () -> t.nodeOf(0, -1, 0));
        failsAlone(t, IAE, () -> t.nodeOf(0, 0, 6));
        failsAlone(t, IAE, () -> t.nodeOf(0, 0, -1));
    }

    private static void promise8() {
        TypeTutor t = with("^x.!a=<;aH7(?x)");
        char[] due = {'x', 'a', '<', 0, 0, 0, 'a', 'H', '7', 0, '?', 'x'};
        for (int k = 0; k < due.length; k++) {
            int node = k;
            if (due[k] == 0) {
                failsAlone(t, NSE, () -> t.signOf(0, node));
            } else {
                is(t.signOf(0, node), due[k]);
            }
        }
        failsAlone(t, IOB, () -> t.signOf(0, 12));
        failsAlone(t, IOB, () -> t.signOf(0, -1));
        noLesson(t, 1, () -> t.signOf(1, 0));
    }

    private static void promise9() {
        // 0 ^x, 1 !x, 2 x, 3 ^y, 4 app, 5 app, 6 x, 7 y, 8 z
        TypeTutor t = with("^x.!x=x;^y.xyz", "A");
        is(t.binder(0, 2), 0);
        is(t.binder(0, 6), 1);
        is(t.binder(0, 7), 3);
        failsAlone(t, NSE, () -> t.binder(0, 8));
        failsAlone(t, NSE, () -> t.binder(0, 0));
        failsAlone(t, NSE, () -> t.binder(0, 4));
        failsAlone(t, NSE, () -> t.binder(1, 0));
        failsAlone(t, IOB, () -> t.binder(0, 9));
        failsAlone(t, IOB, () -> t.binder(0, -1));
        noLesson(t, 2, () -> t.binder(2, 0));
        TypeTutor u = with("^x.^x.x", "!a=a;1");
        is(u.binder(0, 2), 1);
        failsAlone(u, NSE, () -> u.binder(1, 1));
    }

    private static void promise10() {
        TypeTutor t = with("^x.x(!x=xx;x)x(^x.1)");
        // 0 ^x, 1 app, 2 app, 3 app, 4 x, 5 !x, 6 app, 7 x, 8 x, 9 x, 10 x, 11 ^x, 12 1
        is(t.uses(0, 0), 4);
        is(t.uses(0, 5), 1);
        is(t.uses(0, 11), 0);
        failsAlone(t, IAE, () -> t.uses(0, 1));
        failsAlone(t, IAE, () -> t.uses(0, 4));
        failsAlone(t, IAE, () -> t.uses(0, 12));
        failsAlone(t, IOB, () -> t.uses(0, 13));
        failsAlone(t, IOB, () -> t.uses(0, -1));
        noLesson(t, -1, () -> t.uses(-1, 0));
    }

    private static void promise11() {
        TypeTutor t = with("^x.xyzA", "!y=y;y", "^x.x");
        is(t.unbound(0), 2);
        is(t.unbound(1), 1);
        is(t.unbound(2), 0);
        noLesson(t, 3, () -> t.unbound(3));
        is(with("y").unbound(0), 1);
    }

    private static void promise12() {
        TypeTutor t = with("^x.x", "^x.xx", "A", "!i=^x.x;?(i(<12))(i3)4", "(^i.?(i(<12))(i3)4)(^x.x)");
        is(t.isTyped(0), true);
        is(t.isTyped(1), false);
        is(t.isTyped(2), false);
        is(t.isTyped(3), true);
        is(t.isTyped(4), false);
        t.keep(0, 0);
        is(t.isTyped(2), true);
        noLesson(t, 5, () -> t.isTyped(5));
        noLesson(t, -1, () -> t.isTyped(-1));
    }

    private static void promise13() {
        failed("^x.y", 3, 1, -1, -1);
        failed("B", 3, 0, -1, -1);
        failed("!a=a;1", 3, 1, -1, -1);
        failed("+(<12)", 4, 0, 0, 1);
        failed("?1", 4, 0, 1, 0);
        failed("11", 4, 0, 0, 2);
        failed("+(^x.x)", 4, 0, 0, 2);
        failed("?(^x.x)", 4, 0, 1, 2);
        failed("(^x.x1)1", 4, 0, 2, 0);
        failed("(^x.?x12)+", 4, 0, 1, 2);
        failed("(^f.+(f1)(?(f2)34))1", 4, 10, 1, 0);
        // What they are from clashes ahead of what they are to.
        failed("(^f.?(f1))(^x.?x12)", 4, 0, 0, 1);
        failed("(^f.?(f1))(^x.x)", 4, 0, 1, 0);
        failed("^x.xx", 5, 1, -1, -1);
        failed("^x.+x(x1)", 4, 5, 0, 2);
        failed("^f.f(f1)(<(f2)f)", 4, 7, 0, 2);
        // The first that comes up counts, be it what is bound by a let that is not used.
        failed("!a=11;y", 4, 1, 0, 2);
        failed("y(11)", 3, 1, -1, -1);
        failed("(11)y", 4, 1, 0, 2);
        failed("!a=^x.xx;1", 5, 2, -1, -1);
        failed("(^f.^g.?(f1)(f2)g)(^x.x)", 4, 0, 1, 0);
        // Of a clash and a type that would contain itself, the one that comes up first counts.
        failed("^x.(^f.+1(fx))(^g.!a=gx;<12)", 5, 1, -1, -1);
        failed("^x.(^f.?(<12)(f1)x)(^t.!a=?t12;^y.?(<12)xy)", 4, 1, 0, 1);
        failed("^x.(^f.?(<12)(f1)x)(^t.!a=+t1;^y.?(<12)xy)", 5, 1, -1, -1);
    }

    private static void promise13b() {
        // 10: what is applied or to what, ahead; what is applied, behind; what a let binds; a node at last.
        failed(DOUBLES + "(^x.x)e", 10, 30, -1, -1);
        failed(DOUBLES + "(^z.zee)1", 10, 30, -1, -1);
        failed(DOUBLES + "^y.y(^z.zee)", 10, 31, -1, -1);
        failed(DOUBLES + "!f=^z.zee;1", 10, 30, -1, -1);
        failed(DOUBLES + "^z.zee", 10, 0, -1, -1);
        failed(DOUBLES + "(^x.1)(^z.zee)y", 10, 31, -1, -1);
        TypeTutor t = with("!a=?;!b=^z.zaa;!c=^z.zbb;!d=^z.zcc;^z.zdd111111", "1");
        is(t.typeOf(0, 0), 199);
        failed("!a=?;!b=^z.zaa;!c=^z.zbb;!d=^z.zcc;^z.zdd1111111", 10, 0, -1, -1);
        failsAlone(t, NSE, () -> t.failure(0, 0));
        failsAlone(t, NSE, () -> t.failure(1, 3));
        failsAlone(t, IAE, () -> t.failure(1, 4));
        failsAlone(t, IAE, () -> t.failure(1, -1));
        noLesson(t, 2, () -> t.failure(2, 9));
    }

    private static void measures(String term, String type, int... due) {
        TypeTutor t = with(term);
        is(told(t, 0), type);
        for (int what = 0; what <= 4; what++) {
            is(t.typeOf(0, what), due[what]);
            is(t.typeAgain(0, what), due[what]);
            is(t.nodeType(0, 0, what), due[what]);
        }
    }

    private static void promise14() {
        measures("^f.^x.f(fx)", "(a>a)>a>a", 7, 3, 1, 2, 2);
        measures("1", "N", 1, 0, 0, 0, 0);
        measures("<12", "B", 1, 0, 0, 0, 0);
        measures("?", "B>a>a>a", 7, 3, 1, 1, 3);
        measures("+", "N>N>N", 5, 2, 0, 1, 2);
        measures("<", "N>N>B", 5, 2, 0, 1, 2);
        measures("^x.^y.^z.xz(yz)", "(a>b>c)>(a>b)>a>c", 13, 6, 3, 2, 3);
        measures("^f.f(^x.x)", "((a>a)>b)>b", 7, 3, 2, 3, 1);
        measures("^x.!y=x;y", "a>a", 3, 1, 1, 1, 1);
        measures("!i=^x.x;?(i(<12))(i3)4", "N", 1, 0, 0, 0, 0);
        measures("!i=^x.x;ii", "a>a", 3, 1, 1, 1, 1);
        measures("^x.!f=^y.x;f1", "a>a", 3, 1, 1, 1, 1);
        measures("^x.!f=^y.x;+(f1)(f+)", "N>N", 3, 1, 0, 1, 1);
        measures("^g.!p=^z.zgg;!q=^z.zpp;q", "a>(((a>a>b)>b)>((a>a>c)>c)>d)>d", 21, 10, 4, 4, 2);
        measures("!a=1;!b=+;!c=^x.x;!d=<12;?d(ba)(c(b1))", "N>N", 3, 1, 0, 1, 1);
        measures("^x.1", "a>N", 3, 1, 1, 1, 1);
        measures("^f.^x.?(f1)x", "(N>B)>a>a>a", 9, 4, 1, 2, 3);
        TypeTutor t = with("^x.xx", "1");
        failsAlone(t, ISE, () -> t.typeOf(0, 0));
        failsAlone(t, IAE, () -> t.typeOf(0, 5));
        failsAlone(t, IAE, () -> t.typeOf(1, -1));
        noLesson(t, 2, () -> t.typeOf(2, 5));
        deepTypes();
        // A name of a function that a let leaves alone has one type for all nodes.
        failed("^x.!y=x;?(<(y1)2)(y3)(y+)", 4, 17, 0, 2);
    }

    private static TypeTutor deep() {
        TypeTutor t = with("!f=^y.^z.zy;^y.f(f(f(f(fy))))", "!f=^y.^z.zy;^y.f(f(f(fy)))");
        is(run(t, "k0A;k1B;x0;x0"), 4);
        give(t, "^z.z(^z.z(^z.z(^z.z(^z.z(^z.z(^z.z(A(A(A(A(A1)))))))))))");
        return t;
    }

    /** Types that are arrows from arrows, many times over: each N>a, from which again is an arrow. */
    private static void deepTypes() {
        TypeTutor t = deep();
        give(t, "^u.^k.+(ku)(k(A(A(A(A(B1))))))");
        give(t, "A(A(A(A(B1))))");
        StringBuilder due = new StringBuilder("N");
        for (int k = 0; k < 32; k++) {
            due.insert(0, k > 0 ? "((" : "(").append(k > 0 ? ")>" : ">").append(name(k)).append(")>").append(name(k));
        }
        is(told(deep(), 0), due.toString());
        is(t.typeOf(0, 0), 129);
        is(t.typeOf(0, 3), 64);
        is(t.typeOf(0, 4), 1);
        is(t.typeOf(1, 0), 199);
        is(t.typeOf(2, 0), 97);
        is(t.fit(1, 2), 101);
        fails(NSE, () -> t.fit(1, 0));
        is(t.isAsGeneral(2, 2), true);
        is(t.isAsGeneral(2, 0), false);
        is(t.isTold(), true);
    }

    private static void promise15() {
        String text = "!a=^x.x;!b=aa;!c=bb;!d=cc;!e=dd;";
        TypeTutor t = with(text + "edcbaa1", text + "edd", text + "e", "^x.xx", "!a=^x.x;!b=aa;1");
        is(t.typeAgain(0, 0), 1);
        failsAlone(t, ISE, () -> t.typeAgain(1, 0));
        is(t.typeOf(1, 0), 3);
        is(t.typeAgain(2, 0), 3);
        is(t.typeAgain(2, 2), 1);
        failsAlone(t, ISE, () -> t.typeAgain(3, 0));
        failsAlone(t, IAE, () -> t.typeAgain(3, 5));
        failsAlone(t, IAE, () -> t.typeAgain(0, -1));
        noLesson(t, 5, () -> t.typeAgain(5, 5));
        is(t.typeAgain(4, 3), 0);
        // No type by its size alone, which the second way does not look at.
        String large = "!a=?;!b=^z.zaa;!c=^z.zbb;!d=^z.zcc;";
        TypeTutor u = with(large + "^z.zdd1111111", large + "(^x.1)(^z.zdd1111111)");
        is(u.failure(0, 0), 10);
        is(u.failure(1, 0), 10);
        failsAlone(u, ISE, () -> u.typeAgain(0, 0));
        failsAlone(u, ISE, () -> u.typeAgain(1, 0));
        is(u.isTold(), true);
        fails(NSE, u::largest);
        fails(AE, u::meanSize);
        is(u.account(9), 0);
        give(u, "^x.x");
        is(u.fitting(2), 1);
    }

    private static void promise16() {
        TypeTutor t = with("?(<12)34", "^f.^x.f(fx)", "^x.xx", "!i=^x.x;i(i1)");
        // 0 app, 1 app, 2 app, 3 ?, 4 app, 5 app, 6 <, 7 1, 8 2, 9 3, 10 4
        is(t.nodeType(0, 3, 0), 7);
        is(t.nodeType(0, 3, 2), 0);
        is(t.nodeType(0, 2, 4), 2);
        is(t.nodeType(0, 4, 1), 0);
        is(t.nodeType(1, 3, 0), 3);
        is(t.nodeType(1, 1, 3), 1);
        // What is bound keeps its variables; each node that is the name has its own type.
        is(t.nodeType(3, 1, 2), 1);
        is(t.nodeType(3, 4, 2), 0);
        failsAlone(t, ISE, () -> t.nodeType(2, 0, 0));
        failsAlone(t, IAE, () -> t.nodeType(2, 0, 5));
        failsAlone(t, IAE, () -> t.nodeType(0, 0, -1));
        failsAlone(t, IOB, () -> t.nodeType(2, 4, 5));
        failsAlone(t, IOB, () -> t.nodeType(2, -1, 5));
        noLesson(t, 4, () -> t.nodeType(4, 0, 0));
    }

    private static void promise17() {
        TypeTutor t = with("^x.x", "^y.(^z.z)y", "+1", "^x.^y.x", "^x.^y.y", "^x.xx");
        is(t.isAlike(0, 1), true);
        is(t.isAlike(0, 0), true);
        is(t.isAlike(0, 2), false);
        is(t.isAlike(3, 4), false);
        is(t.isAlike(2, 3), false);
        failsAlone(t, ISE, () -> t.isAlike(0, 5));
        failsAlone(t, ISE, () -> t.isAlike(5, 0));
        failsAlone(t, IOB, () -> t.isAlike(5, 6));
        failsAlone(t, IOB, () -> t.isAlike(-1, 5));
    }

    private static void promise18() {
        TypeTutor t = with("^x.x", "+1", "^x.^y.x", "?(<12)", "^x.xx", "^f.^x.f(fx)");
        is(t.isAsGeneral(0, 1), true);
        is(t.isAsGeneral(1, 0), false);
        is(t.isAsGeneral(0, 0), true);
        is(t.isAsGeneral(2, 3), true);
        is(t.isAsGeneral(3, 2), false);
        is(t.isAsGeneral(0, 5), true);
        is(t.isAsGeneral(5, 0), false);
        is(t.isAsGeneral(0, 2), false);
        is(t.isAsGeneral(2, 0), false);
        failsAlone(t, ISE, () -> t.isAsGeneral(4, 0));
        failsAlone(t, ISE, () -> t.isAsGeneral(0, 4));
        failsAlone(t, IOB, () -> t.isAsGeneral(4, 6));
        failsAlone(t, IOB, () -> t.isAsGeneral(-1, 4));
    }

    private static void promise19() {
        TypeTutor t = with("^x.x", "+1", "3", "^f.f(f2)", "^x.xx", DOUBLES + "e");
        is(t.fit(1, 2), 1);
        is(t.fit(0, 0), 3);
        is(t.fit(0, 1), 3);
        is(t.fit(3, 1), 1);
        is(t.fit(3, 0), 1);
        failsAlone(t, NSE, () -> t.fit(2, 2));
        failsAlone(t, NSE, () -> t.fit(1, 0));
        failsAlone(t, NSE, () -> t.fit(3, 3));
        failsAlone(t, ISE, () -> t.fit(0, 4));
        failsAlone(t, ISE, () -> t.fit(4, 0));
        failsAlone(t, IOB, () -> t.fit(4, 6));
        failsAlone(t, IOB, () -> t.fit(-1, 4));
        // Its own size alone is looked at.
        is(t.fit(0, 5), 187);
        t.drop(4);
        is(give(t, "^x.^z.zxx"), 5);
        is(t.fit(5, 2), 7);
        failsAlone(t, NSE, () -> t.fit(5, 4));
        t.drop(5);
        // Both have variables of their own, so what would contain itself in one term need not here.
        is(give(t, "^f.fff"), 5);
        failsAlone(t, ISE, () -> t.fit(5, 0));
        t.drop(5);
        is(give(t, "^x.^y.x"), 5);
        is(t.fit(5, 5), 7);
        failsAlone(t, NSE, () -> t.fit(3, 5));
    }

    private static void promise20() {
        TypeTutor t = with("^x.x", "+1", "3", "^f.f(f2)", "^x.xx", "^x.^y.x");
        is(t.fitting(0), 5);
        is(t.fitting(1), 1);
        is(t.fitting(2), 0);
        is(t.fitting(3), 2);
        is(t.fitting(5), 5);
        failsAlone(t, ISE, () -> t.fitting(4));
        noLesson(t, 6, () -> t.fitting(6));
        noLesson(t, -1, () -> t.fitting(-1));
    }

    private static void promise21() {
        TypeTutor t = with("1");
        is(t.isKept(0), false);
        t.keep(0, 7);
        is(t.isKept(7), true);
        is(t.isKept(6), false);
        failsAlone(t, IOB, () -> t.isKept(8));
        failsAlone(t, IOB, () -> t.isKept(-1));
    }

    private static void promise22() {
        TypeTutor t = with("^x.xx", "1", "^x.x", "+1");
        is(t.largest(), 2);
        is(give(t, "+"), 4);
        is(t.largest(), 4);
        is(with("1", "2").largest(), 0);
        is(with("+", "^x.x", "1").largest(), 0);
        TypeTutor u = with("^x.xx");
        failsAlone(u, NSE, u::largest);
        give(u, "1");
        is(u.largest(), 1);
    }

    private static void promise23() {
        TypeTutor t = with("1", "^x.x", "2", "xyz", "^y.y");
        int[] due = {3, 1, 4, 0, 2};
        for (int place = 0; place < 5; place++) {
            is(t.ranked(place), due[place]);
        }
        failsAlone(t, NSE, () -> t.ranked(5));
        failsAlone(t, NSE, () -> t.ranked(-1));
    }

    private static void promise24() {
        TypeTutor t = with("^x.xx", "!i=^x.x;ii", "^g.!p=^z.zgg;!q=^z.zpp;q", "^x.!f=^y.x;+(f1)(f+)",
            "!a=^x.x;!b=aa;!c=bb;!d=cc;!e=dd;ee", "!a=^x.x;!b=aa;!c=bb;!d=cc;!e=dd;edcbaa1");
        is(t.isTold(), true);
        failsAlone(t, ISE, () -> t.typeAgain(4, 0));
    }

    private static void promise25() {
        TypeTutor t = new TypeTutor();
        failsAlone(t, IAE, () -> t.append((char) 32));
        failsAlone(t, IAE, () -> t.append((char) 127));
        failsAlone(t, IAE, () -> t.append((char) 65535));
        failsAlone(t, IAE, () -> t.append((char) 0));
        is(t.account(10), 0);
        is(t.append((char) 33), 1);
        is(t.append((char) 126), 2);
        for (int k = 3; k <= 60; k++) {
            is(t.append('x'), k);
        }
        failsAlone(t, ISE, () -> t.append('x'));
        failsAlone(t, IAE, () -> t.append(' '));
        is(t.account(10), 60);
    }

    private static void ordersFault(String text, int position) {
        TypeTutor t = with("1");
        type(t, text);
        failsAlone(t, IAE, t::run);
        is(t.faultPosition(), position);
        is(t.account(10), 0);
        fails(NSE, () -> t.reason(0, false));
    }

    private static void ordersRefused(TypeTutor t, String text, int index, int reason, int detail) {
        type(t, text);
        String before = look(t);
        fails(UOE, t::run);
        is(look(t), before);
        is(t.account(10), 0);
        is(t.faultPosition(), -1);
        is(t.reason(0, false), 9);
        is(t.reason(0, true), index);
        is(t.reason(1, false), reason);
        is(t.reason(1, true), detail);
    }

    private static void promise26() {
        TypeTutor t = with("^x.^y.x", "A", "11", "^x.xx", "!a=?;!b=^z.zaa;^z.zb1", DOUBLES + "(^x.x)e");
        is(run(t, "k0A"), 1);
        is(t.account(11), 7);
        is(run(t, "uA;k0H;k0A;k1B;x0"), 5);
        is(t.account(11), 8);
        is(t.account(0), 5);
        is(t.account(8), 4);
        is(t.isKept(7), true);
        is(t.undo(), 7);
        is(t.account(0), 6);
        is(t.account(8), 1);
        is(t.isKept(7), false);
        is(t.isKept(0), true);
        ordersRefused(t, "x0;x0;x9", 2, 2, 9);
        ordersRefused(t, "k6A", 0, 2, 6);
        ordersRefused(t, "k0B;uA;uA", 2, 6, 0);
        ordersRefused(t, "uH", 0, 6, 7);
        ordersRefused(t, "uA;k1B", 1, 3, 0);
        ordersRefused(t, "k2A", 0, 4, 0);
        ordersRefused(t, "k0A;k3A", 1, 5, 1);
        ordersRefused(t, "k4A", 0, 7, 25);
        ordersRefused(t, "x0;k4A", 1, 10, 30);
        ordersRefused(t, "x0;x0;x0;x0;x0;x0;x0", 6, 2, 0);
        ordersFault("", 0);
        ordersFault("k", 1);
        ordersFault("k0", 2);
        ordersFault("kA0", 1);
        ordersFault("k0I", 2);
        ordersFault("k0a", 2);
        ordersFault("k0A;", 4);
        ordersFault("k0A;;", 4);
        ordersFault("k0Ax0", 3);
        ordersFault("u0", 1);
        ordersFault("x", 1);
        ordersFault("xA", 1);
        ordersFault("x0;y", 3);
        ordersFault("^x.x", 0);
        is(run(t, "x5;x4;x3;x2;x1;x0"), 6);
        is(t.account(0), 0);
        is(run(with("1"), "k0A"), 1);
    }

    private static void promise27() {
        TypeTutor t = new TypeTutor();
        is(t.faultPosition(), -1);
        type(t, "xx)");
        fails(IAE, t::lesson);
        is(t.faultPosition(), 2);
        fails(UOE, () -> t.drop(0));
        is(t.faultPosition(), 2);
        give(t, "1");
        is(t.faultPosition(), -1);
        type(t, "x0;");
        fails(IAE, t::run);
        is(t.faultPosition(), 3);
        t.undo();
        is(t.faultPosition(), 3);
        type(t, "x3");
        fails(UOE, t::run);
        is(t.faultPosition(), -1);
    }

    private static void promise28() {
        TypeTutor t = with("1");
        failsAlone(t, NSE, () -> t.reason(0, true));
        failsAlone(t, NSE, () -> t.reason(1, true));
        failsAlone(t, IAE, () -> t.reason(2, true));
        failsAlone(t, IAE, () -> t.reason(-1, false));
        ordersRefused(t, "k0A;uB", 1, 6, 1);
        t.keep(0, 0);
        t.undo();
        t.save();
        t.restore();
        is(t.reason(1, true), 1);
        refuses(t, 2, 5, () -> t.drop(5));
        failsAlone(t, IAE, () -> t.reason(2, true));
    }

    private static void promise29() {
        is(typed("^f.^x.<(fx)1"), "(a>N)>a>B");
        is(typed("^x.^y.y"), "a>b>b");
        is(typed("^f.^g.f(^x.gx)"), "((a>b)>c)>(a>b)>c");
        is(typed("1"), "N");
        StringBuilder due = new StringBuilder();
        for (int k = 0; k < 7; k++) {
            due.append('(');
            for (int j = 0; j < 4; j++) {
                due.append(name(4 * k + j)).append('>');
            }
            due.append("N)>");
        }
        is(typed("!a=^x.^x.^x.^x.1;^z.zaaaaaaa"), "(" + due + "c1)>c1");
        is(typed("!a=^x.^x.^x.1;!b=^z.zaaaa;^z.zbbbb").contains(">z)>z)>(((a1>b1>c1>N)>"), true);
        is(typed("!a=^x.^x.^x.1;!b=^z.zaaaa;^z.zbbbb").endsWith(">a2)>a2"), true);
        TypeTutor t = with("1", "^x.xx");
        t.tell(0);
        failsAlone(t, ISE, () -> t.tell(1));
        noLesson(t, 2, () -> t.tell(2));
        is(line(t), "N");
    }

    private static void promise30() {
        TypeTutor t = with("^f.^x.f(fx)", "?(<12)34", "^x.xx", "!i=^x.x;i(i1)", "^x.^y.y");
        is(toldNode(t, 0, 0), "(a>a)>a>a");
        is(toldNode(t, 0, 1), "a>a");
        is(toldNode(t, 0, 6), "a");
        is(toldNode(t, 1, 3), "B>N>N>N");
        is(toldNode(t, 1, 1), "N>N");
        is(toldNode(t, 3, 1), "a>a");
        is(toldNode(t, 3, 4), "N>N");
        is(toldNode(t, 4, 1), "a>a");
        failsAlone(t, ISE, () -> t.tellNode(2, 0));
        failsAlone(t, IOB, () -> t.tellNode(2, 4));
        failsAlone(t, IOB, () -> t.tellNode(0, -1));
        noLesson(t, 5, () -> t.tellNode(5, 0));
    }

    private static void promise31() {
        TypeTutor t = with("^f.^x.f(fx)");
        failsAlone(t, NSE, () -> t.tellKept(2));
        t.keep(0, 2);
        t.drop(0);
        is(t.tellKept(2), 9);
        is(line(t), "(a>a)>a>a");
        failsAlone(t, NSE, () -> t.tellKept(1));
        failsAlone(t, IOB, () -> t.tellKept(8));
        failsAlone(t, IOB, () -> t.tellKept(-1));
    }

    private static void spelled(String term, String due) {
        TypeTutor t = with(term);
        is(t.tellTerm(0), due.length());
        is(line(t), due);
    }

    private static void promise32() {
        spelled("1", "1");
        spelled("(((1)))", "1");
        spelled("xyz", "(xy)z");
        spelled("x(yz)", "x(yz)");
        spelled("^x.xy", "^x.(xy)");
        spelled("^x.^y.x", "^x.(^y.x)");
        spelled("!a=1;a", "!a=1;a");
        spelled("!a=(^x.x);!b=(aa);b1", "!a=(^x.x);(!b=(aa);(b1))");
        spelled("(!a=1;a)((^x.x))((2))", "((!a=1;a)(^x.x))2");
        spelled("!a=!b=1;b;a", "!a=(!b=1;b);a");
        StringBuilder due = new StringBuilder("xx");
        for (int k = 0; k < 58; k++) {
            due.insert(0, '(').append(")x");
        }
        spelled("xxxxxxxxxxxxxxxxxxxxxxxxxxxxxxxxxxxxxxxxxxxxxxxxxxxxxxxxxxxx", due.toString());
        TypeTutor t = with("y");
        is(t.tellTerm(0), 1);
        is(t.tellTerm(0), 1);
        noLesson(t, 1, () -> t.tellTerm(1));
        noLesson(t, -1, () -> t.tellTerm(-1));
    }

    private static void promise33() {
        TypeTutor t = with("^x.x");
        failsAlone(t, IOB, () -> t.character(0));
        t.tell(0);
        is(t.character(0), 'a');
        is(t.character(1), '>');
        is(t.character(2), 'a');
        failsAlone(t, IOB, () -> t.character(3));
        failsAlone(t, IOB, () -> t.character(-1));
        t.undo();
        is(line(t), "a>a");
    }

    private static void promise34() {
        TypeTutor t = with("^x.x", "y", "11", "^x.xx", DOUBLES + "^z.zee", "+1");
        t.keep(0, 0);
        t.keep(5, 0);
        t.keep(5, 3);
        type(t, "abc");
        int[] due = {6, 2, 1, 1, 1, 49, 2, 6, 3, 1, 3, 8, 1};
        for (int what = 0; what <= 12; what++) {
            is(t.account(what), due[what]);
        }
        failsAlone(t, IAE, () -> t.account(13));
        failsAlone(t, IAE, () -> t.account(-1));
        t.drop(0);
        t.unkeep(0);
        is(t.account(7), 6);
        is(t.account(8), 3);
        is(t.account(6), 1);
        is(t.account(0), 5);
        is(with("1", "+", "^x.x", "^x.1", "<12").account(9), 3);
    }

    private static void promise35() {
        TypeTutor t = with("^x.xx");
        failsAlone(t, AE, t::meanSize);
        give(t, "1");
        give(t, "+");
        give(t, "<1");
        is(t.meanSize(), 3.0);
        give(t, "^x.^y.^z.1");
        give(t, "1");
        is(t.meanSize(), 17 / 5.0);
        is(with("+", "1").meanSize(), 3.0);
        TypeTutor none = new TypeTutor();
        failsAlone(none, AE, none::meanSize);
    }

    private static void promise36() {
        TypeTutor t = new TypeTutor();
        failsAlone(t, AE, t::typedShare);
        give(t, "^x.xx");
        is(t.typedShare(), 0.0f);
        give(t, "1");
        give(t, "2");
        is(t.typedShare(), 2.0f / 3);
    }

    private static void promise37() {
        TypeTutor t = with("1", "^x.x");
        is(t.keep(1, 0), 1);
        is(t.keep(0, 0), 0);
        t.unkeep(0);
        t.drop(0);
        String text = "abc";
        type(t, text);
        t.tell(0);
        is(t.account(11), 6);
        is(t.undo(), 5);
        is(t.account(0), 2);
        is(t.isTyped(0), true);
        is(t.undo(), 4);
        is(t.tellKept(0), 1);
        is(t.undo(), 3);
        is(t.tellKept(0), 3);
        is(t.account(8), 1);
        is(t.undo(), 2);
        is(t.isKept(0), false);
        is(t.undo(), 1);
        is(t.account(7), 1);
        is(t.undo(), 0);
        is(t.account(7), 0);
        is(t.account(10), 3);
        is(line(t), "a>a");
        failsAlone(t, ISE, t::undo);
    }

    private static void promise37b() {
        // The latest 8 alone, also of changes by which nothing is different; and again behind an undone one.
        TypeTutor t = with("1");
        for (int k = 0; k < 11; k++) {
            t.keep(0, 0);
        }
        is(t.account(11), 8);
        is(t.account(8), 11);
        fails(UOE, () -> t.drop(4));
        is(t.account(11), 8);
        is(t.undo(), 7);
        is(t.account(8), 10);
        t.drop(0);
        is(t.account(11), 8);
        is(t.undo(), 7);
        is(t.account(0), 1);
        for (int k = 6; k >= 0; k--) {
            is(t.undo(), k);
        }
        is(t.account(8), 3);
        failsAlone(t, ISE, t::undo);
        is(t.isKept(0), true);
    }

    private static void promise37c() {
        // Each undone change gives back what was seen ahead of it.
        Use[] changes = {
            t -> t.keep(1, 0), t -> t.drop(0), t -> give(t, "^x.xx"), t -> t.keep(1, 4), t -> t.unkeep(0),
            t -> run(t, "x2;k0H"), t -> t.drop(1), t -> t.unkeep(7), t -> give(t, "+"), t -> t.drop(0),
        };
        for (int undone = 1; undone <= 8; undone++) {
            TypeTutor t = changed(changes, 10);
            for (int k = 1; k <= undone; k++) {
                is(t.undo(), 8 - k);
            }
            is(state(t), state(changed(changes, 10 - undone)));
        }
        TypeTutor t = changed(changes, 10);
        t.restore();
        is(state(t), state(changed(changes, 0)));
    }

    private static TypeTutor changed(Use[] changes, int count) {
        TypeTutor t = with("1", "^x.x", "A");
        t.save();
        for (int k = 0; k < count; k++) {
            changes[k].on(t);
            fails(UOE, () -> t.drop(6));
        }
        return t;
    }

    /** What goes back when a change is undone. */
    private static String state(TypeTutor t) {
        StringBuilder text = new StringBuilder();
        for (int what = 0; what <= 12; what++) {
            text.append(' ').append(what == 10 || what == 11 ? 0 : t.account(what));
        }
        for (int lesson = 0; lesson < t.account(0); lesson++) {
            t.tellTerm(lesson);
            text.append(' ').append(line(t));
        }
        for (int capital = 0; capital < 8; capital++) {
            if (t.isKept(capital)) {
                t.tellKept(capital);
                text.append(' ').append(capital).append(line(t));
            }
        }
        return text.toString();
    }

    private static void promise38() {
        TypeTutor t = with("1", "+");
        t.keep(0, 1);
        is(t.save(), 2);
        is(t.account(11), 3);
        t.drop(0);
        t.unkeep(1);
        is(t.undo(), 4);
        is(t.restore(), 2);
        is(t.isKept(1), true);
        is(t.nodes(0), 1);
        t.drop(1);
        is(t.save(), 1);
        give(t, "1");
        is(t.restore(), 1);
        is(new TypeTutor().save(), 0);
    }

    private static void promise39() {
        TypeTutor t = new TypeTutor();
        failsAlone(t, ISE, t::restore);
        give(t, "^x.x");
        t.keep(0, 0);
        t.save();
        t.drop(0);
        give(t, "1");
        give(t, "2");
        t.keep(1, 0);
        is(t.account(7), 3);
        is(t.account(8), 2);
        is(t.restore(), 1);
        is(t.account(7), 1);
        is(t.account(8), 1);
        is(t.tellKept(0), 3);
        is(t.account(11), 0);
        failsAlone(t, ISE, t::undo);
        t.drop(0);
        is(t.restore(), 1);
        is(t.nodes(0), 2);
        TypeTutor u = new TypeTutor();
        u.save();
        give(u, "1");
        is(u.restore(), 0);
    }

    public static void main(String[] arguments) {
        Runnable[] all = {
            PromiseTest::promise1, PromiseTest::promise2, PromiseTest::promise3, PromiseTest::promise4,
            PromiseTest::promise5, PromiseTest::promise6, PromiseTest::promise7, PromiseTest::promise8,
            PromiseTest::promise9, PromiseTest::promise10, PromiseTest::promise11, PromiseTest::promise12,
            PromiseTest::promise13, PromiseTest::promise14, PromiseTest::promise15, PromiseTest::promise16,
            PromiseTest::promise17, PromiseTest::promise18, PromiseTest::promise19, PromiseTest::promise20,
            PromiseTest::promise21, PromiseTest::promise22, PromiseTest::promise23, PromiseTest::promise24,
            PromiseTest::promise25, PromiseTest::promise26, PromiseTest::promise27, PromiseTest::promise28,
            PromiseTest::promise29, PromiseTest::promise30, PromiseTest::promise31, PromiseTest::promise32,
            PromiseTest::promise33, PromiseTest::promise34, PromiseTest::promise35, PromiseTest::promise36,
            PromiseTest::promise37, PromiseTest::promise38, PromiseTest::promise39,
        };
        for (int k = 0; k < all.length; k++) {
            about = "promise " + (k + 1);
            all[k].run();
        }
        about = "promise 13";
        promise13b();
        about = "promise 37";
        promise37b();
        promise37c();
        end("PromiseTest");
    }
}
