/** The sentences of the general sections about lessons, refusals, changes, details and exceptions. */
final class RuleSentences extends Sentences {
    /** A lesson of each kind: two with a type, then one that fails for each of the reasons 3, 4, 5 and 10. */
    static final String[] ALL_KINDS = {"^x.x", "1", "y", "11", "^x.xx", TypeSentences.LARGE + TypeSentences.SIZE_201};

    /** Types of the sizes 23 and 25: the bound of what can be kept lies between them. */
    static final String SIZE_23 = repeated("^x.", 11) + "1";
    static final String SIZE_25 = repeated("^x.", 12) + "1";

    static void all() {
        section("Terms");
        lessons();
        refusals();
        changes();
        detailsOfTypes();
        detailsOfTheSecondWay();
        detailsOfLets();
        exceptions();
    }

    static TypeTutor allKinds() {
        TypeTutor t = with(ALL_KINDS);
        t.keep(0, 0);
        t.tell(0);
        return t;
    }

    private static void lessons() {
        says("Lessons. At most 6 lessons are given, numbered from 0, each with a term.", () -> {
            TypeTutor t = new TypeTutor();
            for (int k = 0; k < 6; k++) {
                is(give(t, repeated("x", k + 1)), k);
                is(t.account(0), k + 1);
            }
            for (int k = 0; k < 6; k++) {
                is(toldTerm(t, k).replaceAll("[()]", ""), repeated("x", k + 1));
            }
            type(t, "1");
            fails(UOE, () -> t.lesson());
            is(t.account(0), 6);
            is(t.drop(5), 11);
            is(give(t, "1"), 5);
            type(t, "1");
            fails(UOE, () -> t.lesson());
        });
        says("Under each capital a type can be kept.", () -> {
            TypeTutor t = with("1", "^x.1", "^x.^x.1", "^x.^x.^x.1");
            for (int capital = 0; capital < 8; capital++) {
                is(t.isKept(capital), false);
                is(t.keep(capital % 4, capital), capital % 4);
                is(t.account(6), capital + 1);
            }
            for (int capital = 0; capital < 8; capital++) {
                is(t.tellKept(capital), 1 + 2 * (capital % 4));
            }
        });
    }

    private static void refusals() {
        says("Refusals. Something is refused for the first that applies of the reasons that its method names, in the order in which "
            + "it names them, with a detail:", () -> {
                Maker five = () -> with("y", "11", "^x.xx", TypeSentences.LARGE + TypeSentences.SIZE_201, SIZE_25);
                refuses(five, 2, 5, t -> t.keep(5, 8));
                refuses(five, 2, -1, t -> t.keep(-1, -1));
                for (int k = 0; k < 5; k++) {
                    int lesson = k;
                    refuses(five, 8, 8, t -> t.keep(lesson, 8));
                    refuses(five, 8, -1, t -> t.keep(lesson, -1));
                }
                refuses(five, 10, 0, t -> t.keep(3, 0));
                refuses(five, 7, 25, t -> t.keep(4, 0));
            });
        says("1, there are as many as there can be: this number;", () ->
            refuses(() -> with("1", "2", "3", "4", "5", "6"), 1, 6, t -> give(t, "7")));
        says("2, there is no such lesson: its number;", () -> {
            for (int lesson : outside(0, 1)) {
                refuses(() -> with("1", "2"), 2, lesson, t -> t.drop(lesson));
                refuses(() -> with("1", "2"), 2, lesson, t -> t.keep(lesson, 0));
            }
            refuses(() -> new TypeTutor(), 2, 0, t -> t.drop(0));
            refuses(() -> new TypeTutor(), 2, 0, t -> t.keep(0, 0));
            refuses(() -> with("1", "2", "3", "4", "5", "6"), 2, 6, t -> t.drop(6));
            refusedText(() -> with("1", "2"), "x2", 0, 2, 2);
            refusedText(() -> with("1", "2"), "k9A", 0, 2, 9);
        });
        says("3, 4, 5 or 10, the lesson has no type: the node that is told for its failure;", () -> {
            refuses(() -> with("y"), 3, 0, t -> t.keep(0, 0));
            refuses(() -> with("^x.+xH"), 3, 5, t -> t.keep(0, 0));
            refuses(() -> with("^x.11"), 4, 1, t -> t.keep(0, 7));
            refuses(() -> with("^x.xx"), 5, 1, t -> t.keep(0, 0));
            refuses(() -> with(TypeSentences.LARGE + "1(" + TypeSentences.SIZE_201 + ")"), 10, 23, t -> t.keep(0, 0));
            refuses(() -> with(TypeSentences.LARGE + "^y.?(<12)yd"), 10, 26, t -> t.keep(0, 0));
        });
        says("6, nothing is kept there: the number of the capital, 0 for A;", () -> {
            for (int k = 0; k < 8; k++) {
                int capital = k;
                refuses(() -> with("1"), 6, capital, t -> t.unkeep(capital));
                refusedText(() -> with("1"), "u" + CAPITALS.charAt(k), 0, 6, capital);
            }
        });
        says("7, the type is too large to be kept, as its size is above 24: the size;", () -> {
            TypeTutor largest = with(SIZE_23);
            is(largest.typeOf(0, 0), 23);
            is(largest.keep(0, 0), 11);
            is(largest.unkeep(0), 23);
            refuses(() -> with(SIZE_25), 7, 25, t -> t.keep(0, 0));
            refuses(() -> with(TypeSentences.LARGE + TypeSentences.SIZE_199), 7, 199, t -> t.keep(0, 7));
        });
        says("8, the number of a capital is out of range: it;", () -> {
            for (int capital : outside(0, 7)) {
                refuses(() -> allKinds(), 8, capital, t -> t.keep(0, capital));
                refuses(() -> allKinds(), 8, capital, t -> t.unkeep(capital));
            }
        });
        says("9, an order of a text is refused: its index, from 0, with the reason of the order as its cause.", () -> {
            refusedText(() -> with("1"), "x1", 0, 2, 1);
            refusedText(() -> with("1"), "k0A;uA;uA", 2, 6, 0);
            refusedText(() -> with("1"), repeated("k0A;", 14) + "x7", 14, 2, 7);
            refusedText(() -> with("1", "2"), "x0;x0;x0;x0", 2, 2, 0);
        });
    }

    private static void changes() {
        says("Changes. The changes are the calls of lesson, drop, keep, unkeep and run that throw no exception, also if nothing is "
            + "different then.", () -> {
                TypeTutor t = new TypeTutor();
                give(t, "1");
                is(t.account(11), 1);
                t.keep(0, 0);
                is(t.account(11), 2);
                t.keep(0, 0);
                is(t.account(11), 3);
                t.unkeep(0);
                is(t.account(11), 4);
                run(t, "k0A;uA;k0A;uA");
                is(t.account(11), 5);
                t.drop(0);
                is(t.account(11), 6);
                fails(UOE, () -> t.drop(0));
                fails(UOE, () -> t.keep(0, 0));
                fails(UOE, () -> t.unkeep(0));
                fails(UOE, () -> run(t, "x0"));
                fails(IAE, () -> run(t, "x"));
                fails(IAE, () -> give(t, "x)"));
                t.append('1');
                t.save();
                t.isTold();
                is(t.account(11), 6);
                is(t.undo(), 5);
                is(t.account(11), 5);
                // A text by which nothing is different, and the same type kept once more.
                TypeTutor same = with("1");
                same.keep(0, 0);
                run(same, "k0A");
                same.keep(0, 0);
                is(same.undo(), 3);
                is(same.undo(), 2);
                is(same.isKept(0), true);
            });
        says("The latest 8 can be undone, the latest one first.", () -> {
            for (int changes = 0; changes <= 20; changes++) {
                TypeTutor t = new TypeTutor();
                for (int k = 0; k < changes; k++) {
                    make(t, k);
                }
                is(t.account(11), Math.min(changes, 8));
                for (int k = changes - 1; k >= 0 && k >= changes - 8; k--) {
                    is(t.undo(), k - Math.max(changes - 8, 0));
                    TypeTutor due = new TypeTutor();
                    for (int j = 0; j < k; j++) {
                        make(due, j);
                    }
                    is(summary(t), summary(due));
                }
                fails(ISE, () -> t.undo());
                is(t.account(11), 0);
            }
        });
        says("The input, the fault position, the reason with what is behind it, the line of text and what was saved stay as they are "
            + "when a change is undone.", () -> {
                TypeTutor t = with("^x.x");
                t.save();
                t.keep(0, 0);
                fails(UOE, () -> run(t, "k0A;x4"));
                fails(IAE, () -> give(t, "xyz)"));
                t.tell(0);
                type(t, "12");
                is(t.undo(), 1);
                is(t.undo(), 0);
                is(t.account(0), 0);
                is(t.account(10), 2);
                is(t.faultPosition(), 3);
                is(t.reason(0, false), 9);
                is(t.reason(0, true), 1);
                is(t.reason(1, false), 2);
                is(t.reason(1, true), 4);
                is(line(t), "a>a");
                is(t.lesson(), 0);
                is(toldTerm(t, 0), "12");
                is(t.restore(), 1);
                is(told(t, 0), "a>a");
                is(t.isKept(0), false);
            });
    }

    /** One of some changes of all kinds, by its number. */
    private static void make(TypeTutor t, int number) {
        switch (number % 5) {
            case 0: give(t, "^x." + number % 10); break;
            case 1: t.keep(0, 3); break;
            case 2: run(t, "k0" + CAPITALS.charAt(number % 8)); break;
            case 3: t.unkeep(3); break;
            default: t.drop(0); break;
        }
    }

    private static String summary(TypeTutor t) {
        StringBuilder text = new StringBuilder();
        for (int lesson = 0; lesson < t.account(0); lesson++) {
            text.append(toldTerm(t, lesson)).append(' ');
        }
        for (int capital = 0; capital < 8; capital++) {
            text.append(t.isKept(capital) ? toldKept(t, capital) : "-").append(' ');
        }
        return text.append(t.account(7)).append(' ').append(t.account(8)).toString();
    }

    private static void detailsOfTypes() {
        says("Details. Types are found anew at each question, by what capitals keep then;", () -> {
            // Nothing is left behind by a lesson that has no type, whatever the reason is.
            for (int k = 0; k < 6; k++) {
                TypeTutor all = with(ALL_KINDS);
                all.isTyped(k);
                is(all.isTyped(1), true);
                all.isTyped(k);
                is(all.tell(0), 3);
                all.isTyped(k);
                is(all.fit(0, 1), 1);
                all.isTyped(k);
                is(all.fit(0, 0), 3);
            }
            TypeTutor t = with("A", "+", "1", "!b=A;bA", "A1");
            is(t.failure(0, 0), 3);
            is(t.account(1), 2);
            t.keep(1, 0);
            is(told(t, 0), "N>N>N");
            is(told(t, 4), "N>N");
            is(toldNode(t, 4, 1), "N>N>N");
            t.keep(2, 0);
            is(told(t, 0), "N");
            is(t.failure(4, 0), 4);
            t.unkeep(0);
            is(t.failure(0, 0), 3);
            t.undo();
            is(told(t, 0), "N");
            t.undo();
            is(told(t, 0), "N>N>N");
            t.undo();
            is(t.isTyped(0), false);
        });
        says("a lesson that names the capital under which its type is kept is found by what this kept before.", () -> {
            TypeTutor t = with("1", "^x.A", "A");
            refuses(() -> with("A"), 3, 0, u -> u.keep(0, 0));
            t.keep(0, 0);
            is(t.keep(1, 0), 1);
            is(toldKept(t, 0), "a>N");
            is(told(t, 1), "a>b>N");
            is(t.keep(1, 0), 2);
            is(toldKept(t, 0), "a>b>N");
            is(t.keep(2, 0), 2);
            is(toldKept(t, 0), "a>b>N");
            is(run(t, "k1A;k1A"), 2);
            is(toldKept(t, 0), "a>b>c>d>N");
        });
        says("Names of lets around a let leave no variables alone.", () -> {
            is(typed("!i=^x.x;!j=i;^k.kjj"), "((a>a)>(b>b)>c)>c");
            is(typed("!i=^x.x;!j=^y.iy;?(j(<12))(j3)4"), "N");
            is(typed("^x.!i=^z.x;!j=i;^k.kjj"), "a>((b>a)>(c>a)>d)>d");
        });
        says("Of a clash and a type that would contain itself in one fitting, the one that comes up first counts.", () -> {
            failed("^x.(^f.+(fx)1)(^g.!a=gx;<12)", 5, 1, -1, -1);
            failed("^x.(^f.?(<12)(f1)x)(^t.!a=?t12;^u.x)", 4, 1, 0, 1);
            failed("^x.(^f.?(<12)(f1)x)(^t.!a=+t1;^u.x)", 5, 1, -1, -1);
        });
        says("For an application of a lesson to another one, its own size alone is looked at.", () -> {
            TypeTutor t = with("^x.1", TypeSentences.LARGE + TypeSentences.SIZE_199, "^x.^y.1", "^x.x");
            // In one term, what is applied would have a size of 201 behind the fitting.
            is(t.fit(0, 1), 1);
            is(t.fit(2, 1), 3);
            is(t.fit(3, 1), 199);
            is(t.fitting(0), 4);
            failed(TypeSentences.LARGE + "(^x.1)(" + TypeSentences.SIZE_199 + ")", 10, 23, -1, -1);
        });
        says("Sizes are looked at as types are known at that time.", () -> {
            // What w is bound to gets larger than 200 behind the let; the node of the function tells it, not the let.
            failed(TypeSentences.LARGE + "^y.!w=^p.pyyy;?(<12)yd", 10, 25, -1, -1);
            // What is applied gets larger behind its own fitting.
            failed(TypeSentences.LARGE + "^y.?(<12)yd", 10, 26, -1, -1);
            is(with("!a=?;!b=^z.zaa;!c=^z.zbb;^y.!w=^p.pyyy;?(<12)yc").nodeType(0, 18, 0), 135);
        });
    }

    private static void detailsOfTheSecondWay() {
        // What is bound takes 2, 7, 17, 37 and 77 nodes, a name of it 1 more, and the 5 lets are nodes, too: 145 in all.
        String lets = "!a=^x.x;!b=aa;!c=bb;!d=cc;!e=dd;";
        says("By the second way, too, what is bound is gone through once for the let itself.", () -> {
            // What f is bound to takes 153 nodes, its let and its body 1 each: 300 in all; or 1 more.
            is(with(lets + "!f=edcbaa;1").typeAgain(0, 0), 1);
            fails(ISE, () -> with(lets + "!f=^z.edcbaa;1").typeAgain(0, 0));
            is(with(lets + "!f=^z.edcbaa;1").typeOf(0, 0), 1);
        });
        says("By the second way no size is looked at, as it is taken for lessons that have a type alone;", () -> {
            // Each time that f is used, its x is d, and so the type of k in it has a size above 200.
            TypeTutor t = with(TypeSentences.LARGE + "!f=^x.(^y.1)(^k.kxxx);fd");
            is(told(t, 0), "N");
            is(t.typeAgain(0, 0), 1);
            is(t.isTold(), true);
            failed(TypeSentences.LARGE + "(^x.(^y.1)(^k.kxxx))d", 10, 26, -1, -1);
            // A lesson without a type by its size alone has none by the second way.
            fails(ISE, () -> with(TypeSentences.LARGE + TypeSentences.SIZE_201).typeAgain(0, 0));
        });
        says("each time that a node is gone through by it counts as a node.", () -> {
            // The body takes 155 nodes, and 300 in all; or 1 more.
            is(with(lets + "edcbaa1").typeAgain(0, 0), 1);
            fails(ISE, () -> with(lets + "^z.edcbaa1").typeAgain(0, 0));
            is(with(lets + "^z.edcbaa1").typeOf(0, 0), 3);
            fails(ISE, () -> with(lets + "edd").typeAgain(0, 0));
            is(with(lets + "^z.^y.edcbaa").typeAgain(0, 0), 7);
            fails(ISE, () -> with(lets + "^z.^y.^x.edcbaa").typeAgain(0, 0));
        });
    }

    private static void detailsOfLets() {
        says("A let whose name is not used is gone through by what is bound, too.", () -> {
            failed("!a=11;1", 4, 1, 0, 2);
            failed("!a=y;1", 3, 1, -1, -1);
            failed("!a=^x.xx;1", 5, 2, -1, -1);
            failed(TypeSentences.LARGE + "!f=" + TypeSentences.SIZE_201 + ";1", 10, 23, -1, -1);
            is(typed("^x.!a=+x;x"), "N>N");
        });
        says("The name of a let is not bound in what is bound by it.", () -> {
            failed("!a=a;1", 3, 1, -1, -1);
            TypeTutor t = with("!a=a;1", "^a.!a=a;a");
            fails(NSE, () -> t.binder(0, 1));
            is(t.uses(0, 0), 0);
            is(t.unbound(0), 1);
            is(t.binder(1, 2), 0);
            is(t.binder(1, 3), 1);
            is(t.uses(1, 0), 1);
            is(t.uses(1, 1), 1);
        });
        says("The variables that a let leaves alone are those of functions around it, as they are known when what is bound was gone "
            + "through.", () -> {
                // That x is a function is known by what is bound, so that what it is to belongs to it.
                is(typed("^x.!y=x1;^k.kyy"), "(N>a)>(a>a>b)>b");
                is(typed("^x.!y=^z.x;!w=+(y11);^k.kxw"), "(N>N)>((N>N)>(N>N)>a)>a");
                is(typed("^x.^y.!w=?(<12)xy;!v=x;^k.kvv"), "a>a>(a>a>b)>b");
                is(typed("^x.!y=?(<12)x;^k.kyy"), "a>((a>a)>(a>a)>b)>b");
                // x is N by what is bound, and leaves nothing alone.
                is(typed("^x.!y=^z.(^u.z)(+x);^k.kyy"), "N>((a>a)>(b>b)>c)>c");
            });
        says("The type of a node is told as it is known when the whole term was gone through.", () -> {
            TypeTutor t = with("^x.^y.?(<x1)xy");
            is(toldNode(t, 0, 0), "N>N>N");
            for (int node : new int[] {2, 9, 11, 12}) {
                is(toldNode(t, 0, node), "N");
            }
            is(toldNode(t, 0, 4), "N>N>N");
            is(toldNode(t, 0, 5), "B>N>N>N");
            is(toldNode(with("^x.!y=x;+x1"), 0, 2), "N");
            is(toldNode(with("!i=^x.x;i1"), 0, 1), "a>a");
        });
        says("Variables are named in a line from a on, in the order in which they first come in it; behind z comes a1, then b1, and "
            + "so on.", () -> {
                is(typed("^x.^y.y"), "a>b>b");
                is(toldNode(with("^x.^y.y"), 0, 1), "a>a");
                String due = "((" + names(0, 4) + ")>(" + names(4, 8) + ")>(" + names(8, 12) + ")>(" + names(12, 16) + ")>("
                    + names(16, 20) + ")>(" + names(20, 24) + ")>(y>z>a1>b1>N)>c1)>c1";
                is(typed("!a=^x.^x.^x.^x.1;^z.zaaaaaaa"), due);
                String longer = "((" + four(0) + ")>(" + four(13) + ")>(" + four(26) + ")>(" + four(39) + ")>a2)>a2";
                is(longer.contains("(w1>x1>y1>N)>z1)>z1)>a2)>a2"), true);
                is(typed("!a=^x.^x.^x.1;!b=^z.zaaaa;^z.zbbbb"), longer);
            });
        says("The fault position is told by the latest call of lesson or run.", () -> {
            TypeTutor t = new TypeTutor();
            fails(IAE, () -> give(t, "xx)"));
            is(t.faultPosition(), 2);
            fails(UOE, () -> t.keep(0, 0));
            type(t, "x");
            is(t.faultPosition(), 2);
            fails(IAE, () -> t.run());
            is(t.faultPosition(), 1);
            give(t, "1");
            is(t.faultPosition(), -1);
            fails(IAE, () -> run(t, "x0;"));
            is(t.faultPosition(), 3);
            t.save();
            t.restore();
            is(t.faultPosition(), 3);
            fails(UOE, () -> run(t, "x9"));
            is(t.faultPosition(), -1);
        });
    }

    /** Variables from a number on, ahead of another one, as those of a function to N. */
    private static String names(int first, int end) {
        StringBuilder text = new StringBuilder();
        for (int number = first; number < end; number++) {
            text.append(name(number)).append('>');
        }
        return text.append('N').toString();
    }

    /** Four such functions of three variables each, to which something is applied. */
    private static String four(int first) {
        StringBuilder text = new StringBuilder("(");
        for (int k = 0; k < 4; k++) {
            text.append('(').append(names(first + 3 * k, first + 3 * k + 3)).append(")>");
        }
        return text.append(name(first + 12)).append(")>").append(name(first + 12)).toString();
    }

    private static void exceptions() {
        says("Exceptions. A method that throws an exception leaves the state unchanged, unless it is said otherwise.", () -> {
            Maker maker = () -> {
                TypeTutor t = allKinds();
                fails(UOE, () -> t.drop(6));
                fails(IAE, () -> give(t, "xx)"));
                t.save();
                t.drop(2);
                t.undo();
                return type(t, repeated("1", 60));
            };
            Use[] indices = {
                t -> t.nodes(6), t -> t.nodeOf(6, 0, 0), t -> t.nodeOf(0, 2, 0), t -> t.signOf(6, 0), t -> t.signOf(0, 2),
                t -> t.binder(6, 0), t -> t.binder(0, 2), t -> t.uses(6, 0), t -> t.uses(0, 2), t -> t.unbound(6),
                t -> t.isTyped(6), t -> t.failure(6, 0), t -> t.typeOf(6, 0), t -> t.typeAgain(6, 0), t -> t.nodeType(6, 0, 0),
                t -> t.nodeType(0, 2, 0), t -> t.isAlike(0, 6), t -> t.isAsGeneral(6, 0), t -> t.fit(0, 6), t -> t.fitting(6),
                t -> t.isKept(8), t -> t.tell(6), t -> t.tellNode(6, 0), t -> t.tellNode(0, 2), t -> t.tellKept(8),
                t -> t.tellTerm(6), t -> t.character(3),
            };
            for (Use use : indices) {
                failsAlone(maker, IOB, use);
            }
            Use[] arguments = {
                t -> t.nodeOf(0, 0, 6), t -> t.uses(0, 1), t -> t.failure(2, 4), t -> t.typeOf(0, 5), t -> t.typeAgain(0, 5),
                t -> t.nodeType(0, 0, 5), t -> t.append(' '), t -> t.reason(2, true), t -> t.account(13),
            };
            for (Use use : arguments) {
                failsAlone(maker, IAE, use);
            }
            Use[] states = {
                t -> t.typeOf(2, 0), t -> t.typeAgain(3, 0), t -> t.nodeType(4, 0, 0), t -> t.isAlike(0, 5), t -> t.isAsGeneral(2, 0),
                t -> t.fit(0, 3), t -> t.fitting(4), t -> t.append('1'), t -> t.tell(5), t -> t.tellNode(2, 0),
            };
            for (Use use : states) {
                failsAlone(maker, ISE, use);
            }
            Use[] elements = {
                t -> t.signOf(3, 0), t -> t.binder(2, 0), t -> t.failure(0, 0), t -> t.fit(1, 1), t -> t.ranked(6), t -> t.reason(1, true),
                t -> t.tellKept(1),
            };
            for (Use use : elements) {
                failsAlone(maker, NSE, use);
            }
            failsAlone(() -> type(with("1"), "x"), ISE, t -> t.restore());
            failsAlone(() -> type(with("y"), "x"), AE, t -> t.meanSize());
            failsAlone(() -> type(with("y"), "x"), NSE, t -> t.largest());
            failsAlone(() -> type(new TypeTutor(), "x"), AE, t -> t.typedShare());
            failsAlone(() -> type(new TypeTutor(), "x"), ISE, t -> t.undo());
        });
        says("If several conditions of a method are fulfilled, the one that is listed first determines the exception.", () -> {
            TypeTutor t = allKinds();
            fails(IOB, () -> t.nodeOf(6, 0, 6));
            fails(IOB, () -> t.nodeOf(0, 2, -1));
            fails(IOB, () -> t.failure(6, 4));
            fails(IAE, () -> t.failure(0, 4));
            fails(IOB, () -> t.typeOf(6, 5));
            fails(IAE, () -> t.typeOf(2, 5));
            fails(IOB, () -> t.typeAgain(6, 5));
            fails(IAE, () -> t.typeAgain(2, 5));
            fails(IOB, () -> t.nodeType(6, 0, 5));
            fails(IOB, () -> t.nodeType(2, 1, 5));
            fails(IAE, () -> t.nodeType(2, 0, 5));
            fails(IOB, () -> t.isAlike(2, 6));
            fails(IOB, () -> t.isAlike(6, 2));
            fails(IOB, () -> t.isAsGeneral(2, 6));
            fails(IOB, () -> t.isAsGeneral(6, 2));
            fails(IOB, () -> t.fit(2, 6));
            fails(IOB, () -> t.fit(6, 2));
            fails(ISE, () -> t.fit(1, 2));
            fails(ISE, () -> t.fit(2, 1));
            fails(IOB, () -> t.tellNode(2, 1));
            fails(IAE, () -> new TypeTutor().reason(2, true));
            type(t, repeated("1", 60));
            fails(IAE, () -> t.append(' '));
            fails(ISE, () -> t.append('!'));
            fails(IAE, () -> t.run());
            // As many lessons as there can be, and a fault: it is the fault that counts, and nothing is refused.
            faultyTerm(() -> with(ALL_KINDS), "1)", 1);
            faultyText(() -> with(ALL_KINDS), "x9;x9;", 6);
            faultyText(() -> with(ALL_KINDS), "x9;k2A;y", 7);
        });
        says("If something is refused, its reason is kept, in place of the one before.", () -> {
            TypeTutor t = with("1");
            fails(UOE, () -> run(t, "k0A;uB"));
            is(t.reason(0, false), 9);
            is(t.reason(1, false), 6);
            fails(UOE, () -> t.drop(3));
            is(t.reason(0, false), 2);
            is(t.reason(0, true), 3);
            fails(NSE, () -> t.reason(1, false));
            fails(UOE, () -> t.unkeep(9));
            is(t.reason(0, false), 8);
            is(t.reason(0, true), 9);
            fails(UOE, () -> run(t, "x5"));
            is(t.reason(0, false), 9);
            is(t.reason(0, true), 0);
            is(t.reason(1, true), 5);
            // What is not refused leaves it as it is.
            t.keep(0, 0);
            fails(IAE, () -> give(t, ")"));
            fails(IOB, () -> t.nodes(4));
            t.undo();
            is(t.reason(0, false), 9);
            is(t.reason(1, false), 2);
        });
    }
}
