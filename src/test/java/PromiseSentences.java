/** The sentences of the promises 1 to 24: changes, and questions about terms and types. */
final class PromiseSentences extends Sentences {
    private static final String LARGE = TypeSentences.LARGE;
    private static final String SIZE_199 = TypeSentences.SIZE_199;
    private static final String SIZE_201 = TypeSentences.SIZE_201;
    private static final String MEASURES =
        "- `what`: 0 for its size, 1 for its arrows, 2 for its unlike variables, 3 for its order, 4 for its places";

    /** By the second way 300 nodes are gone through for the one, and 301 for the other. */
    static final String NODES_300 = "!a=^x.x;!b=aa;!c=bb;!d=cc;!e=dd;edcbaa1";
    static final String NODES_301 = "!a=^x.x;!b=aa;!c=bb;!d=cc;!e=dd;^z.edcbaa1";

    static void all() {
        newObject();
        lesson();
        drop();
        keep();
        unkeep();
        nodes();
        nodeOf();
        signOf();
        binder();
        uses();
        unbound();
        isTyped();
        failure();
        typeOf();
        typeAgain();
        nodeType();
        isAlike();
        isAsGeneral();
        fit();
        fitting();
        isKept();
        largest();
        ranked();
        isTold();
    }

    interface NumberUse {
        Object on(TypeTutor t, int number);
    }

    private static TypeTutor dropped() {
        TypeTutor t = with("1");
        t.drop(0);
        return t;
    }

    /** There are no lessons but those that there are: of three, of none, and of one that was dropped. */
    static void noLesson(NumberUse use) {
        for (int lesson : outside(0, 2)) {
            failsAlone(() -> with("1", "2", "3"), IOB, t -> use.on(t, lesson));
        }
        for (int lesson : outside(0, 5)) {
            failsAlone(() -> RuleSentences.allKinds(), IOB, t -> use.on(t, lesson));
        }
        failsAlone(() -> new TypeTutor(), IOB, t -> use.on(t, 0));
        failsAlone(() -> dropped(), IOB, t -> use.on(t, 0));
    }

    /** There are no nodes but those that there are; the last one has the number 4. */
    static void noNode(NumberUse use) {
        for (int node : outside(0, 4)) {
            failsAlone(() -> with("1", "^x.^y.xy"), IOB, t -> use.on(t, node));
        }
    }

    private static void newObject() {
        section("Promise 1");
        says("`TypeTutor()`: Creates a tutor without lessons.", () -> {
            TypeTutor t = new TypeTutor();
            for (int what = 0; what <= 12; what++) {
                is(t.account(what), 0);
            }
            fails(IOB, () -> t.nodes(0));
            for (int k = 0; k < 8; k++) {
                is(t.isKept(k), false);
            }
            is(t.faultPosition(), -1);
            fails(IOB, () -> t.character(0));
            fails(NSE, () -> t.reason(0, false));
            fails(NSE, () -> t.reason(1, false));
            fails(ISE, () -> t.undo());
            fails(ISE, () -> t.restore());
            fails(NSE, () -> t.largest());
            fails(NSE, () -> t.ranked(0));
            fails(AE, () -> t.meanSize());
            fails(AE, () -> t.typedShare());
            is(t.isTold(), true);
            // One object has nothing of another one.
            TypeTutor other = with("1");
            other.keep(0, 0);
            is(new TypeTutor().isKept(0), false);
            is(new TypeTutor().account(7), 0);
        });
    }

    private static void lesson() {
        promise(2);
        says("Reads the input as a term, and gives it as a lesson.", () -> {
            TypeTutor t = new TypeTutor();
            give(t, "1");
            is(t.account(0), 1);
            is(toldTerm(t, 0), "1");
            give(t, repeated("1", 60));
            is(t.nodes(1), 119);
            // A fault behind brackets and lets that are open leaves nothing behind for the next term.
            fails(IAE, () -> give(t, "((!a=(1"));
            is(give(t, "1"), 2);
            fails(IAE, () -> give(t, "1)"));
            fails(IAE, () -> give(t, "1;1"));
            is(t.account(0), 3);
        });
        says("The input is empty afterwards, also if an exception is thrown.", () -> {
            TypeTutor t = with("1");
            is(t.account(10), 0);
            fails(IAE, () -> give(t, "(1"));
            is(t.account(10), 0);
            give(t, "2");
            for (int k = 2; k < 6; k++) {
                give(t, "" + k);
            }
            fails(UOE, () -> give(t, "6"));
            is(t.account(10), 0);
            fails(IAE, () -> t.lesson());
            is(t.faultPosition(), 0);
        });
        says("Returns its number.", () -> {
            TypeTutor t = new TypeTutor();
            for (int k = 0; k < 6; k++) {
                is(give(t, "" + k), k);
            }
            t.drop(0);
            is(give(t, "1"), 5);
        });
        says("Throws `IllegalArgumentException` if the term has a fault", () -> {
            faultyTerm(() -> with("1"), "", 0);
            faultyTerm(() -> with("1"), "1)", 1);
            faultyTerm(() -> RuleSentences.allKinds(), "!a=1", 4);
            faultyTerm(() -> RuleSentences.allKinds(), repeated("(", 60), 60);
        });
        says("Throws `UnsupportedOperationException` if it is refused for the reason 1; the reason is kept", () -> {
            TypeTutor five = with("1", "2", "3", "4", "5");
            is(give(five, "6"), 5);
            TypeTutor t = with("1", "2", "3", "4", "5", "6");
            fails(UOE, () -> give(t, "7"));
            is(t.reason(0, false), 1);
            is(t.reason(0, true), 6);
            is(t.faultPosition(), -1);
            refuses(() -> RuleSentences.allKinds(), 1, 6, u -> give(u, "(7)"));
        });
    }

    private static void drop() {
        promise(3);
        free("- `lesson`: the lesson");
        says("Drops a lesson; the numbers of the later ones become 1 less.", () -> {
            for (int dropped = 0; dropped < 6; dropped++) {
                TypeTutor t = with("1", "12", "123", "1234", "12345", "123456");
                is(t.drop(dropped), 2 * dropped + 1);
                is(t.account(0), 5);
                for (int k = 0; k < 5; k++) {
                    is(t.nodes(k), 2 * (k < dropped ? k : k + 1) + 1);
                }
                fails(IOB, () -> t.nodes(5));
            }
            TypeTutor only = with("1");
            is(only.drop(0), 1);
            is(only.account(0), 0);
        });
        says("Returns how many nodes it had.", () -> {
            is(with("1").drop(0), 1);
            is(with("^x.x").drop(0), 2);
            is(with(repeated("1", 60)).drop(0), 119);
        });
        says("Throws `UnsupportedOperationException` if it is refused for the reason 2; the reason is kept", () -> {
            for (int lesson : outside(0, 5)) {
                refuses(() -> RuleSentences.allKinds(), 2, lesson, t -> t.drop(lesson));
            }
            refuses(() -> new TypeTutor(), 2, 0, t -> t.drop(0));
            refuses(() -> dropped(), 2, 0, t -> t.drop(0));
            refuses(() -> with("1", "2"), 2, 2, t -> t.drop(2));
        });
    }

    private static void keep() {
        promise(4);
        free("- `lesson`: the lesson");
        says("Keeps the type of a lesson under a capital, in place of what is kept there.", () -> {
            TypeTutor t = with("^x.x", "1");
            t.keep(0, 2);
            is(toldKept(t, 2), "a>a");
            t.keep(1, 2);
            is(toldKept(t, 2), "N");
            is(t.account(6), 1);
            // The type stays when its lesson is gone.
            t.keep(0, 3);
            t.drop(0);
            t.drop(0);
            is(toldKept(t, 3), "a>a");
        });
        says("- `capital`: the number of the capital, 0 for A", () -> {
            for (int k = 0; k < 8; k++) {
                TypeTutor t = with("1");
                t.keep(0, k);
                for (int other = 0; other < 8; other++) {
                    is(t.isKept(other), other == k);
                }
                give(t, "" + CAPITALS.charAt(k));
                is(told(t, 1), "N");
            }
        });
        says("Returns how many unlike variables the type has.", () -> {
            is(with("1").keep(0, 0), 0);
            is(with("^x.x").keep(0, 0), 1);
            is(with("^x.^y.x").keep(0, 0), 2);
            is(with("^x.^y.^z.xz(yz)").keep(0, 0), 3);
            is(with(RuleSentences.SIZE_23).keep(0, 0), 11);
        });
        says("Throws `UnsupportedOperationException` if it is refused for the reason 2, 8, 3, 4, 5, 10 or 7; the reason is kept", () -> {
            refuses(() -> with("1"), 2, 1, t -> t.keep(1, 0));
            refuses(() -> with("1"), 2, LEAST, t -> t.keep(LEAST, GREATEST));
            refuses(() -> with("1"), 8, 8, t -> t.keep(0, 8));
            refuses(() -> with("1"), 8, -1, t -> t.keep(0, -1));
            refuses(() -> RuleSentences.allKinds(), 3, 0, t -> t.keep(2, 0));
            refuses(() -> RuleSentences.allKinds(), 4, 0, t -> t.keep(3, 0));
            refuses(() -> RuleSentences.allKinds(), 5, 1, t -> t.keep(4, 0));
            refuses(() -> RuleSentences.allKinds(), 10, 0, t -> t.keep(5, 0));
            refuses(() -> with(RuleSentences.SIZE_25), 7, 25, t -> t.keep(0, 0));
        });
    }

    private static void unkeep() {
        promise(5);
        says("Lets a capital keep nothing.", () -> {
            TypeTutor t = with("1", "A");
            t.keep(0, 0);
            t.keep(0, 7);
            t.unkeep(0);
            is(t.isKept(0), false);
            is(t.isKept(7), true);
            is(t.isTyped(1), false);
            is(t.account(6), 1);
            t.unkeep(7);
            is(t.account(6), 0);
        });
        says("- `capital`: the number of the capital, 0 for A", () -> {
            for (int k = 0; k < 8; k++) {
                TypeTutor t = with("1");
                run(t, "k0A;k0B;k0C;k0D;k0E;k0F;k0G;k0H");
                t.unkeep(k);
                for (int other = 0; other < 8; other++) {
                    is(t.isKept(other), other != k);
                }
            }
        });
        says("Returns the size of the type that it kept.", () -> {
            TypeTutor t = with("1", RuleSentences.SIZE_23, "+");
            t.keep(0, 0);
            t.keep(1, 1);
            t.keep(2, 2);
            t.drop(0);
            is(t.unkeep(0), 1);
            is(t.unkeep(1), 23);
            is(t.unkeep(2), 5);
        });
        says("Throws `UnsupportedOperationException` if it is refused for the reason 8 or 6; the reason is kept", () -> {
            for (int capital : outside(0, 7)) {
                refuses(() -> RuleSentences.allKinds(), 8, capital, t -> t.unkeep(capital));
            }
            for (int k = 1; k < 8; k++) {
                int capital = k;
                refuses(() -> RuleSentences.allKinds(), 6, capital, t -> t.unkeep(capital));
            }
            refuses(() -> new TypeTutor(), 6, 0, t -> t.unkeep(0));
        });
    }

    private static void nodes() {
        promise(6);
        free("- `lesson`: the lesson");
        says("Returns how many nodes a lesson has.", () -> {
            is(with("x").nodes(0), 1);
            is(with("((x))").nodes(0), 1);
            is(with("^x.x").nodes(0), 2);
            is(with("!x=1;x").nodes(0), 3);
            is(with("xx").nodes(0), 3);
            is(with(repeated("^x.", 19) + "x").nodes(0), 20);
        });
        says("Returns how many.", () -> {
            is(with(repeated("x", 60)).nodes(0), 119);
            TypeTutor t = with("1", "2", "3", "4", "5", "12");
            is(t.nodes(0), 1);
            is(t.nodes(5), 3);
        });
        says("Throws `IndexOutOfBoundsException` if there is no such lesson", () -> noLesson((t, lesson) -> t.nodes(lesson)));
    }

    private static void nodeOf() {
        promise(7);
        free("- `lesson`: the lesson");
        free("- `node`: the node");
        says("Returns a number of a node.", () -> {
            TypeTutor t = with("((^x.(x)A)1)(!a=+;a)");
            FormSentences.node(t, 0, 6, -1, 1, 7, 0, 2);
            FormSentences.node(t, 1, 6, 0, 2, 6, 1, 2);
            FormSentences.node(t, 2, 4, 1, 3, -1, 2, 2);
            FormSentences.node(t, 3, 6, 2, 4, 5, 3, 6);
            FormSentences.node(t, 4, 0, 3, -1, -1, 4, 6);
            FormSentences.node(t, 5, 1, 3, -1, -1, 4, 8);
            FormSentences.node(t, 6, 2, 1, -1, -1, 2, 10);
            FormSentences.node(t, 7, 5, 0, 8, 9, 1, 13);
            FormSentences.node(t, 8, 3, 7, -1, -1, 2, 16);
            FormSentences.node(t, 9, 0, 7, -1, -1, 2, 18);
        });
        says("- `what`: 0 for its kind: 0 a name, 1 a kept name, 2 a number, 3 a sign, 4 a function, 5 a let, 6 an application;", () -> {
            String[] terms = {"x", "H", "9", "?", "^x.1", "!x=1;1", "xx"};
            for (int kind = 0; kind <= 6; kind++) {
                is(with(terms[kind]).nodeOf(0, 0, 0), kind);
            }
        });
        says("1 for the node that it is a part of, 2 for its first part, 3 for its second part, each -1 without one;", () -> {
            for (String leaf : new String[] {"x", "A", "1", "+", "<", "?"}) {
                for (int what = 1; what <= 3; what++) {
                    is(with(leaf).nodeOf(0, 0, what), -1);
                }
            }
            is(with("^x.x").nodeOf(0, 0, 3), -1);
            is(with("^x.x").nodeOf(0, 1, 1), 0);
            is(with(repeated("x", 60)).nodeOf(0, 118, 1), 0);
            is(with(repeated("x", 60)).nodeOf(0, 0, 3), 118);
        });
        says("4 for how many nodes it is within;", () -> {
            is(with("x").nodeOf(0, 0, 4), 0);
            is(with("((x))").nodeOf(0, 0, 4), 0);
            is(with(repeated("^x.", 19) + "x").nodeOf(0, 19, 4), 19);
            is(with(repeated("x", 60)).nodeOf(0, 59, 4), 59);
            is(with(repeated("x", 60)).nodeOf(0, 118, 4), 1);
        });
        says("5 for the index of its first character in the term", () -> {
            is(with("x").nodeOf(0, 0, 5), 0);
            is(with(repeated("(", 29) + "x" + repeated(")", 29)).nodeOf(0, 0, 5), 29);
            is(with(repeated("x", 60)).nodeOf(0, 118, 5), 59);
            is(with("!a=^x.1;2").nodeOf(0, 1, 5), 3);
            is(with("!a=^x.1;2").nodeOf(0, 3, 5), 8);
        });
        says("Returns the number.", () -> is(with("^x.x").nodeOf(0, 1, 5), 3));
        says("Throws `IndexOutOfBoundsException` if there is no such lesson or node", () -> {
            noLesson((t, lesson) -> t.nodeOf(lesson, 0, 0));
            noNode((t, node) -> t.nodeOf(1, node, 0));
            is(with("1", "^x.^y.xy").nodeOf(1, 4, 0), 0);
        });
        says("Throws `IllegalArgumentException` if what is not 0 to 5", () -> {
            for (int what : outside(0, 5)) {
                failsAlone(() -> with("1"), IAE, t -> t.nodeOf(0, 0, what));
            }
        });
    }

    private static void signOf() {
        promise(8);
        free("- `lesson`: the lesson");
        free("- `node`: the node");
        says("Returns the letter, capital, digit or sign of a node; for a function or a let, its name.", () -> {
            for (int k = 0; k < LEAVES.length(); k++) {
                is(with("" + LEAVES.charAt(k)).signOf(0, 0), LEAVES.charAt(k));
            }
            is(with("^z.a").signOf(0, 0), 'z');
            is(with("!z=a;b").signOf(0, 0), 'z');
        });
        says("Returns the character.", () -> {
            TypeTutor t = with("^x.!a=<;aH7(?x)");
            String signs = "xa<   aH7 ?x";
            for (int k = 0; k < signs.length(); k++) {
                int node = k;
                if (signs.charAt(k) == ' ') {
                    fails(NSE, () -> t.signOf(0, node));
                } else {
                    is(t.signOf(0, node), signs.charAt(k));
                }
            }
        });
        says("Throws `IndexOutOfBoundsException` if there is no such lesson or node", () -> {
            noLesson((t, lesson) -> t.signOf(lesson, 0));
            noNode((t, node) -> t.signOf(1, node));
            is(with("1", "^x.^y.xy").signOf(1, 4), 'y');
        });
        says("Throws `NoSuchElementException` if it is an application", () -> {
            failsAlone(() -> with("12"), NSE, t -> t.signOf(0, 0));
            failsAlone(() -> with(repeated("x", 60)), NSE, t -> t.signOf(0, 58));
            is(with(repeated("x", 60)).signOf(0, 59), 'x');
        });
    }

    private static void binder() {
        promise(9);
        free("- `lesson`: the lesson");
        free("- `node`: the node");
        says("Returns the function or let that binds a name.", () -> {
            TypeTutor t = with("^x.!x=x;^y.xyz", "^x.^x.x", "^a.!b=a;!a=b;ab", "^a.(^a.a)a");
            is(t.binder(0, 2), 0);
            is(t.binder(0, 6), 1);
            is(t.binder(0, 7), 3);
            is(t.binder(1, 2), 1);
            is(t.binder(2, 2), 0);
            is(t.binder(2, 4), 1);
            is(t.binder(2, 6), 3);
            is(t.binder(2, 7), 1);
            is(t.binder(3, 3), 2);
            is(t.binder(3, 4), 0);
        });
        says("Returns its node.", () -> {
            is(with(repeated("^x.", 19) + "x").binder(0, 19), 18);
            is(with("^y." + repeated("^x.", 18) + "y").binder(0, 19), 0);
        });
        says("Throws `IndexOutOfBoundsException` if there is no such lesson or node", () -> {
            noLesson((t, lesson) -> t.binder(lesson, 0));
            noNode((t, node) -> t.binder(1, node));
            is(with("1", "^x.^y.xy").binder(1, 4), 1);
        });
        says("Throws `NoSuchElementException` if it is no name, or is bound nowhere", () -> {
            for (String term : new String[] {"A", "1", "+", "^x.x", "!x=1;x", "xx", "x"}) {
                failsAlone(() -> with(term), NSE, t -> t.binder(0, 0));
            }
            failsAlone(() -> with("!a=a;1"), NSE, t -> t.binder(0, 1));
            failsAlone(() -> with("(^x.x)x"), NSE, t -> t.binder(0, 3));
            failsAlone(() -> with("(!x=1;x)x"), NSE, t -> t.binder(0, 4));
            failsAlone(() -> with("!x=1;y"), NSE, t -> t.binder(0, 2));
        });
    }

    private static void uses() {
        promise(10);
        free("- `lesson`: the lesson");
        free("- `node`: the node");
        says("Returns how many names a function or let binds.", () -> {
            TypeTutor t = with("^x.x(!x=xx;x)x(^x.1)");
            is(t.uses(0, 0), 4);
            is(t.uses(0, 5), 1);
            is(t.uses(0, 11), 0);
            is(with("!a=a;1").uses(0, 0), 0);
        });
        says("Returns how many.", () -> {
            is(with("^x." + repeated("x", 57)).uses(0, 0), 57);
            is(with("!x=1;" + repeated("x", 55)).uses(0, 0), 55);
            is(with("^x.1").uses(0, 0), 0);
            is(with("!x=1;1").uses(0, 0), 0);
        });
        says("Throws `IndexOutOfBoundsException` if there is no such lesson or node", () -> {
            noLesson((t, lesson) -> t.uses(lesson, 0));
            noNode((t, node) -> t.uses(1, node));
        });
        says("Throws `IllegalArgumentException` if it is neither", () -> {
            for (String term : new String[] {"x", "A", "1", "+", "<", "?", "xx"}) {
                failsAlone(() -> with(term), IAE, t -> t.uses(0, 0));
            }
            failsAlone(() -> with("^x.^y.xy"), IAE, t -> t.uses(0, 4));
        });
    }

    private static void unbound() {
        promise(11);
        free("- `lesson`: the lesson");
        says("Returns how many names of a lesson are bound nowhere.", () -> {
            is(with("x").unbound(0), 1);
            is(with("^x.x").unbound(0), 0);
            is(with("^x.xyzA1").unbound(0), 2);
            is(with("!y=y;y").unbound(0), 1);
            is(with("(^x.x)x").unbound(0), 1);
            is(with("A").unbound(0), 0);
        });
        says("Returns how many.", () -> {
            is(with(repeated("x", 60)).unbound(0), 60);
            is(with("1").unbound(0), 0);
        });
        says("Throws `IndexOutOfBoundsException` if there is no such lesson", () -> noLesson((t, lesson) -> t.unbound(lesson)));
    }

    private static void isTyped() {
        promise(12);
        free("- `lesson`: the lesson");
        says("Returns whether a lesson has a type.", () -> {
            TypeTutor t = with(RuleSentences.ALL_KINDS);
            for (int lesson = 0; lesson < 6; lesson++) {
                is(t.isTyped(lesson), lesson < 2);
            }
        });
        says("Returns whether it has.", () -> {
            is(with(LARGE + SIZE_199).isTyped(0), true);
            is(with(LARGE + SIZE_201).isTyped(0), false);
        });
        says("Throws `IndexOutOfBoundsException` if there is no such lesson", () -> noLesson((t, lesson) -> t.isTyped(lesson)));
    }

    private static void failure() {
        promise(13);
        free("- `lesson`: the lesson");
        says("Returns a number of the failure of a lesson.", () -> {
            failed("^x.y", 3, 1, -1, -1);
            failed("B", 3, 0, -1, -1);
            failed("+(<12)", 4, 0, 0, 1);
            failed("^x.xx", 5, 1, -1, -1);
            failed(LARGE + SIZE_201, 10, 0, -1, -1);
        });
        says("- `what`: 0 for the reason; 1 for the node; 2 and 3 for the first pair of parts that clashed, that of what was applied "
            + "and the other one: 0 N, 1 B, 2 an arrow; -1 for the other reasons", () -> {
                String[] functions = {"+", "?", "(^f.f1)"};
                String[] arguments = {"1", "(<12)", "(^x.x)"};
                for (int one = 0; one <= 2; one++) {
                    for (int other = 0; other <= 2; other++) {
                        if (one == other) {
                            is(with(functions[one] + arguments[other]).isTyped(0), true);
                        } else {
                            failed(functions[one] + arguments[other], 4, 0, one, other);
                        }
                    }
                }
                failed("11", 4, 0, 0, 2);
                failed("<123", 4, 0, 1, 2);
                // The sides stay those of what was applied and of the other one, when a variable stands between.
                failed("^x.?(<x1)x(<12)", 4, 1, 0, 1);
                failed("(^f.?(f1))(^x.x)", 4, 0, 1, 0);
                failed("(^f.+(f(<12)))(^x.x)", 4, 0, 0, 1);
            });
        says("Returns the number.", () -> is(with("^x.11").failure(0, 1), 1));
        says("Throws `IndexOutOfBoundsException` if there is no such lesson", () -> {
            noLesson((t, lesson) -> t.failure(lesson, 0));
            noLesson((t, lesson) -> t.failure(lesson, 4));
        });
        says("Throws `IllegalArgumentException` if what is not 0 to 3", () -> {
            for (int what : outside(0, 3)) {
                failsAlone(() -> with("11"), IAE, t -> t.failure(0, what));
                failsAlone(() -> with("1"), IAE, t -> t.failure(0, what));
            }
        });
        says("Throws `NoSuchElementException` if it has a type", () -> {
            for (int k = 0; k <= 3; k++) {
                int what = k;
                failsAlone(() -> with("1"), NSE, t -> t.failure(0, what));
                failsAlone(() -> with(LARGE + SIZE_199), NSE, t -> t.failure(0, what));
            }
        });
    }

    /** The numbers of types at their bounds, asked in one of three ways. */
    private static void measures(MeasureUse use) {
        measured(use, "1", 1, 0, 0, 0, 0);
        measured(use, "<12", 1, 0, 0, 0, 0);
        measured(use, "^x.x", 3, 1, 1, 1, 1);
        measured(use, "^x.1", 3, 1, 1, 1, 1);
        measured(use, "+", 5, 2, 0, 1, 2);
        measured(use, "?", 7, 3, 1, 1, 3);
        measured(use, "^f.^x.f(fx)", 7, 3, 1, 2, 2);
        measured(use, "^x.^y.^z.xz(yz)", 13, 6, 3, 2, 3);
        measured(use, "^f.f(^x.x)", 7, 3, 2, 3, 1);
        measured(use, "^g.!p=^z.zgg;!q=^z.zpp;q", 21, 10, 4, 4, 2);
        measured(use, repeated("^x.", 19) + "x", 39, 19, 19, 1, 19);
        measured(use, LARGE + SIZE_199, 199, 99, 31, 9, 1);
    }

    interface MeasureUse {
        int on(TypeTutor t, int what);
    }

    private static void measured(MeasureUse use, String term, int... due) {
        TypeTutor t = with(term);
        for (int what = 0; what <= 4; what++) {
            is(term + " " + what + ": " + use.on(t, what), term + " " + what + ": " + due[what]);
        }
    }

    private static void typeOf() {
        promise(14);
        free("- `lesson`: the lesson");
        says("Returns a number of the type of a lesson.", () -> is(with("1", "+", "<1").typeOf(1, 0), 5));
        says(MEASURES, () -> measures((t, what) -> t.typeOf(0, what)));
        says("Returns the number.", () -> is(with(LARGE + SIZE_199).typeOf(0, 0), 199));
        says("Throws `IndexOutOfBoundsException` if there is no such lesson", () -> {
            noLesson((t, lesson) -> t.typeOf(lesson, 0));
            noLesson((t, lesson) -> t.typeOf(lesson, 5));
        });
        says("Throws `IllegalArgumentException` if what is not 0 to 4", () -> {
            for (int what : outside(0, 4)) {
                failsAlone(() -> with("1"), IAE, t -> t.typeOf(0, what));
                failsAlone(() -> with("11"), IAE, t -> t.typeOf(0, what));
            }
        });
        says("Throws `IllegalStateException` if it has no type", () -> {
            for (int k = 2; k < 6; k++) {
                int lesson = k;
                failsAlone(() -> with(RuleSentences.ALL_KINDS), ISE, t -> t.typeOf(lesson, 4));
            }
        });
    }

    private static void typeAgain() {
        promise(15);
        free("- `lesson`: the lesson");
        says("Returns the same by a second way: what is bound by a let is gone through anew for each node that is its name.", () -> {
            is(with("!i=^x.x;?(i(<12))(i3)4").typeAgain(0, 0), 1);
            is(with("!i=^x.x;^k.kii").typeAgain(0, 2), 3);
            is(with("^x.!y=x;^k.kyy").typeAgain(0, 2), 2);
            is(with("^x.!y=^z.x;^k.kyy").typeAgain(0, 2), 4);
            is(with("^x.!f=^y.x;!g=^z.f1;+(g1)(g+)").typeAgain(0, 0), 3);
            // The same name, bound once more between: what is bound is gone through by the names where it stands.
            is(with("^x.!f=^y.x;^x.+(f1)x").typeAgain(0, 1), 2);
            is(with("!a=1;!f=^y.a;!a=+;f2").typeAgain(0, 0), 1);
        });
        says(MEASURES, () -> measures((t, what) -> t.typeAgain(0, what)));
        says("Returns the number.", () -> is(with(LARGE + SIZE_199).typeAgain(0, 0), 199));
        says("Throws `IndexOutOfBoundsException` if there is no such lesson", () -> {
            noLesson((t, lesson) -> t.typeAgain(lesson, 0));
            noLesson((t, lesson) -> t.typeAgain(lesson, 5));
        });
        says("Throws `IllegalArgumentException` if what is not 0 to 4", () -> {
            for (int what : outside(0, 4)) {
                failsAlone(() -> with("1"), IAE, t -> t.typeAgain(0, what));
                failsAlone(() -> with("11"), IAE, t -> t.typeAgain(0, what));
                failsAlone(() -> with(NODES_301), IAE, t -> t.typeAgain(0, what));
            }
        });
        says("Throws `IllegalStateException` if it has no type, or more than 300 nodes would be gone through by the second way", () -> {
            for (int k = 2; k < 6; k++) {
                int lesson = k;
                failsAlone(() -> with(RuleSentences.ALL_KINDS), ISE, t -> t.typeAgain(lesson, 4));
            }
            is(with(NODES_300).typeAgain(0, 0), 1);
            failsAlone(() -> with(NODES_301), ISE, t -> t.typeAgain(0, 0));
            // It goes on as before behind a way that was too long.
            TypeTutor t = with(NODES_301, NODES_300, "!i=^x.x;ii");
            fails(ISE, () -> t.typeAgain(0, 0));
            is(t.typeAgain(1, 0), 1);
            is(t.typeAgain(2, 0), 3);
            is(t.typeOf(0, 0), 3);
        });
    }

    private static void nodeType() {
        promise(16);
        free("- `lesson`: the lesson");
        free("- `node`: the node");
        says("Returns a number of the type of a node.", () -> {
            TypeTutor t = with("?(<12)34", "^f.^x.f(fx)", "!i=^x.x;i(i1)");
            is(t.nodeType(0, 3, 0), 7);
            is(t.nodeType(0, 3, 2), 0);
            is(t.nodeType(0, 2, 4), 2);
            is(t.nodeType(0, 4, 1), 0);
            is(t.nodeType(1, 3, 0), 3);
            is(t.nodeType(1, 1, 3), 1);
            is(t.nodeType(2, 1, 2), 1);
            is(t.nodeType(2, 4, 2), 0);
            is(t.nodeType(2, 7, 0), 1);
        });
        says(MEASURES, () -> measures((t, what) -> t.nodeType(0, 0, what)));
        says("Returns the number.", () -> is(with(LARGE + SIZE_199).nodeType(0, 23, 0), 199));
        says("Throws `IndexOutOfBoundsException` if there is no such lesson or node", () -> {
            noLesson((t, lesson) -> t.nodeType(lesson, 0, 0));
            noLesson((t, lesson) -> t.nodeType(lesson, 0, 5));
            noNode((t, node) -> t.nodeType(1, node, 0));
            noNode((t, node) -> t.nodeType(1, node, 5));
            failsAlone(() -> with("11"), IOB, t -> t.nodeType(0, 3, 0));
            is(with("1", "^x.^y.xy").nodeType(1, 4, 0), 1);
        });
        says("Throws `IllegalArgumentException` if what is not 0 to 4", () -> {
            for (int what : outside(0, 4)) {
                failsAlone(() -> with("1"), IAE, t -> t.nodeType(0, 0, what));
                failsAlone(() -> with("11"), IAE, t -> t.nodeType(0, 2, what));
            }
        });
        says("Throws `IllegalStateException` if it has no type", () -> {
            for (int k = 2; k < 6; k++) {
                int lesson = k;
                failsAlone(() -> with(RuleSentences.ALL_KINDS), ISE, t -> t.nodeType(lesson, 0, 4));
            }
            // The node itself would have one.
            failsAlone(() -> with("11"), ISE, t -> t.nodeType(0, 1, 0));
        });
    }

    private static void isAlike() {
        promise(17);
        free("- `one`: the one lesson");
        free("- `other`: the other one");
        says("Returns whether two lessons have types that differ in the names of their variables alone.", () -> {
            TypeTutor t = with("^x.x", "^y.(^z.z)y", "+1", "^x.^y.x", "^x.^y.y", "^x.^y.1");
            is(t.isAlike(0, 0), true);
            is(t.isAlike(0, 1), true);
            is(t.isAlike(1, 0), true);
            is(t.isAlike(0, 2), false);
            is(t.isAlike(2, 0), false);
            is(t.isAlike(3, 4), false);
            is(t.isAlike(3, 5), false);
            is(t.isAlike(5, 5), true);
            is(with("1", "<12").isAlike(0, 1), false);
            is(with("1", "+1").isAlike(0, 1), false);
            is(with("^x.^y.x", "^x.x").isAlike(0, 1), false);
            is(with("^x.x", "^x.^y.^z.x").isAlike(0, 1), false);
            is(with("^f.f1", "^x.^y.x").isAlike(0, 1), false);
            is(with(LARGE + SIZE_199, LARGE + SIZE_199).isAlike(0, 1), true);
            is(with(LARGE + SIZE_199, LARGE + "^z.zdd11111(<12)").isAlike(0, 1), false);
        });
        says("Returns whether they have.", () -> is(with("+1", "^x.+x1").isAlike(0, 1), true));
        says("Throws `IndexOutOfBoundsException` if there is no such lesson, for either", () -> {
            noLesson((t, lesson) -> t.isAlike(lesson, 0));
            noLesson((t, lesson) -> t.isAlike(0, lesson));
            failsAlone(() -> with("11"), IOB, t -> t.isAlike(0, 1));
            failsAlone(() -> with("11"), IOB, t -> t.isAlike(1, 0));
        });
        says("Throws `IllegalStateException` if one of both has no type", () -> {
            for (int k = 2; k < 6; k++) {
                int lesson = k;
                failsAlone(() -> with(RuleSentences.ALL_KINDS), ISE, t -> t.isAlike(lesson, 0));
                failsAlone(() -> with(RuleSentences.ALL_KINDS), ISE, t -> t.isAlike(0, lesson));
                failsAlone(() -> with(RuleSentences.ALL_KINDS), ISE, t -> t.isAlike(lesson, lesson));
            }
        });
    }

    private static void isAsGeneral() {
        promise(18);
        free("- `one`: the lesson");
        free("- `other`: the other one");
        says("Returns whether the type of a lesson becomes that of another one by putting types in place of its variables.", () -> {
            TypeTutor t = with("^x.x", "+1", "^x.^y.x", "?(<12)", "<1", "^f.^x.f(fx)");
            is(t.isAsGeneral(0, 0), true);
            is(t.isAsGeneral(0, 1), true);
            is(t.isAsGeneral(1, 0), false);
            is(t.isAsGeneral(2, 3), true);
            is(t.isAsGeneral(3, 2), false);
            // The same variable has the same type in both places.
            is(t.isAsGeneral(0, 4), false);
            is(t.isAsGeneral(0, 5), true);
            is(t.isAsGeneral(5, 0), false);
            is(t.isAsGeneral(0, 2), false);
            is(t.isAsGeneral(2, 0), false);
            TypeTutor u = with("1", "2", "<12", "^x.^y.x", "^x.^y.1", "^x.^y.y");
            is(u.isAsGeneral(0, 1), true);
            is(u.isAsGeneral(0, 2), false);
            is(u.isAsGeneral(3, 4), false);
            is(u.isAsGeneral(4, 3), false);
            is(u.isAsGeneral(3, 5), false);
            TypeTutor v = with("^x.^y.^z.y", "^x.^y.^z.?(<12)yz", LARGE + SIZE_199, "^x.x");
            is(v.isAsGeneral(0, 1), true);
            is(v.isAsGeneral(1, 0), false);
            is(v.isAsGeneral(2, 2), true);
            is(v.isAsGeneral(3, 2), false);
        });
        says("Returns whether it does.", () -> is(with("^x.1", LARGE + "^z.1").isAsGeneral(0, 1), true));
        says("Throws `IndexOutOfBoundsException` if there is no such lesson, for either", () -> {
            noLesson((t, lesson) -> t.isAsGeneral(lesson, 0));
            noLesson((t, lesson) -> t.isAsGeneral(0, lesson));
            failsAlone(() -> with("11"), IOB, t -> t.isAsGeneral(0, 1));
            failsAlone(() -> with("11"), IOB, t -> t.isAsGeneral(1, 0));
        });
        says("Throws `IllegalStateException` if one of both has no type", () -> {
            for (int k = 2; k < 6; k++) {
                int lesson = k;
                failsAlone(() -> with(RuleSentences.ALL_KINDS), ISE, t -> t.isAsGeneral(lesson, 0));
                failsAlone(() -> with(RuleSentences.ALL_KINDS), ISE, t -> t.isAsGeneral(0, lesson));
            }
        });
    }

    private static void fit() {
        promise(19);
        free("- `function`: the lesson that is applied");
        free("- `argument`: the other one");
        says("Returns the size of the type that an application of a lesson to another one would have, each with variables of its own.",
            () -> {
                TypeTutor t = with("^x.x", "+1", "3", "^f.f2", "^x.^y.x", "^x.^y.^z.xz(yz)");
                is(t.fit(1, 2), 1);
                is(t.fit(0, 2), 1);
                is(t.fit(0, 1), 3);
                is(t.fit(3, 1), 1);
                is(t.fit(4, 2), 3);
                // A lesson to itself: with the same variables the types would contain themselves.
                is(t.fit(0, 0), 3);
                is(t.fit(4, 4), 7);
                is(t.fit(5, 4), 7);
                is(t.fit(5, 5), 19);
                failed("^x.xx", 5, 1, -1, -1);
            });
        says("Returns the size.", () -> {
            TypeTutor t = with("^x.x", LARGE + SIZE_199);
            is(t.fit(0, 1), 199);
        });
        says("Throws `IndexOutOfBoundsException` if there is no such lesson, for either", () -> {
            noLesson((t, lesson) -> t.fit(lesson, 0));
            noLesson((t, lesson) -> t.fit(0, lesson));
            failsAlone(() -> with("11"), IOB, t -> t.fit(0, 1));
            failsAlone(() -> with("11"), IOB, t -> t.fit(1, 0));
        });
        says("Throws `IllegalStateException` if one of both has no type", () -> {
            for (int k = 2; k < 6; k++) {
                int lesson = k;
                failsAlone(() -> with(RuleSentences.ALL_KINDS), ISE, t -> t.fit(lesson, 0));
                failsAlone(() -> with(RuleSentences.ALL_KINDS), ISE, t -> t.fit(0, lesson));
                failsAlone(() -> with(RuleSentences.ALL_KINDS), ISE, t -> t.fit(1, lesson));
            }
        });
        says("Throws `NoSuchElementException` if they do not fit, or the size would be above 200", () -> {
            failsAlone(() -> with("1"), NSE, t -> t.fit(0, 0));
            failsAlone(() -> with("+", "<12"), NSE, t -> t.fit(0, 1));
            failsAlone(() -> with("+", "^x.x"), NSE, t -> t.fit(0, 1));
            failsAlone(() -> with("^f.f1", "2"), NSE, t -> t.fit(0, 1));
            // A type would contain itself.
            failsAlone(() -> with("^f.^x.?(<12)x(fx)", "^x.^y.x"), NSE, t -> t.fit(0, 1));
            TypeTutor t = with("^x.^z.zxx111111", "^x.^z.zxx1111111", LARGE + "d");
            is(t.fit(0, 2), 199);
            failsAlone(() -> with("^x.^z.zxx1111111", LARGE + "d"), NSE, u -> u.fit(0, 1));
        });
    }

    private static void fitting() {
        promise(20);
        free("- `function`: the lesson that is applied");
        says("Returns to how many lessons a lesson could be applied so.", () -> {
            TypeTutor t = with("^x.x", "+1", "3", "^f.f2", "^x.xx", "^x.^y.x");
            is(t.fitting(0), 5);
            is(t.fitting(1), 1);
            is(t.fitting(2), 0);
            is(t.fitting(3), 3);
            is(t.fitting(5), 5);
            TypeTutor large = with("^x.^z.zxx111111", "^x.^z.zxx1111111", LARGE + "d");
            is(large.fitting(0), 3);
            is(large.fitting(1), 2);
        });
        says("Returns to how many.", () -> {
            is(with("^x.x").fitting(0), 1);
            is(with("1").fitting(0), 0);
            is(with("^x.x", "1", "2", "3", "4", "5").fitting(0), 6);
            is(with("+", "^x.x", "^x.^y.x", "<", "?", "+").fitting(0), 0);
            is(with("+", "1", "^x.^y.x", "A", "11", "y").fitting(0), 1);
        });
        says("Throws `IndexOutOfBoundsException` if there is no such lesson", () -> noLesson((t, lesson) -> t.fitting(lesson)));
        says("Throws `IllegalStateException` if it has no type", () -> {
            for (int k = 2; k < 6; k++) {
                int lesson = k;
                failsAlone(() -> with(RuleSentences.ALL_KINDS), ISE, t -> t.fitting(lesson));
            }
        });
    }

    private static void isKept() {
        promise(21);
        says("Returns whether a capital keeps a type.", () -> {
            TypeTutor t = with("1");
            is(t.isKept(0), false);
            t.keep(0, 0);
            is(t.isKept(0), true);
            is(t.isKept(1), false);
            t.unkeep(0);
            is(t.isKept(0), false);
            t.undo();
            is(t.isKept(0), true);
            t.undo();
            is(t.isKept(0), false);
        });
        says("- `capital`: the number of the capital, 0 for A", () -> {
            TypeTutor t = with("1");
            run(t, "k0A;k0H");
            for (int capital = 0; capital < 8; capital++) {
                is(t.isKept(capital), capital == 0 || capital == 7);
            }
        });
        says("Returns whether it does.", () -> is(new TypeTutor().isKept(7), false));
        says("Throws `IndexOutOfBoundsException` if the number is not 0 to 7", () -> {
            for (int capital : outside(0, 7)) {
                failsAlone(() -> RuleSentences.allKinds(), IOB, t -> t.isKept(capital));
            }
        });
    }

    private static void largest() {
        promise(22);
        says("Returns the lesson with the type of the greatest size; of several the lowest.", () -> {
            is(with("1", "^x.x", "+1").largest(), 1);
            is(with("+1", "^x.x", "1").largest(), 0);
            is(with("1", "2", "3").largest(), 0);
            is(with("^x.xx", "1", "2").largest(), 1);
            is(with("^x.x", "1", "+", "<", "5", "6").largest(), 2);
            is(with("1", "^x.xx", "11", "4", "5", "+1").largest(), 5);
            // The size of the type counts, not how many nodes there are.
            is(with("+1(+1(+12))", "+").largest(), 1);
            is(with("A", LARGE + SIZE_201, "1", LARGE + SIZE_199).largest(), 3);
        });
        says("Returns the lesson.", () -> is(with("1").largest(), 0));
        says("Throws `NoSuchElementException` if none has a type", () -> {
            failsAlone(() -> new TypeTutor(), NSE, t -> t.largest());
            failsAlone(() -> with("y", "11", "^x.xx", LARGE + SIZE_201), NSE, t -> t.largest());
            failsAlone(() -> dropped(), NSE, t -> t.largest());
        });
    }

    private static void ranked() {
        promise(23);
        says("Returns a lesson by its nodes, the most first; of several the lowest one.", () -> {
            TypeTutor t = with("1", "^x.x", "2", "xyz", "^y.y", "xyz");
            int[] due = {3, 5, 1, 4, 0, 2};
            for (int place = 0; place < 6; place++) {
                is(t.ranked(place), due[place]);
            }
            TypeTutor same = with("1", "2", "3", "4", "5", "6");
            for (int place = 0; place < 6; place++) {
                is(same.ranked(place), place);
            }
        });
        says("- `place`: its place in this order, from 0", () -> {
            is(with("1", "12").ranked(0), 1);
            is(with("1", "12").ranked(1), 0);
        });
        says("Returns the lesson.", () -> is(with("1").ranked(0), 0));
        says("Throws `NoSuchElementException` if there is no such place", () -> {
            for (int place : outside(0, 2)) {
                failsAlone(() -> with("1", "2", "3"), NSE, t -> t.ranked(place));
            }
            failsAlone(() -> new TypeTutor(), NSE, t -> t.ranked(0));
            failsAlone(() -> dropped(), NSE, t -> t.ranked(0));
            for (int place : outside(0, 5)) {
                failsAlone(() -> RuleSentences.allKinds(), NSE, t -> t.ranked(place));
            }
        });
    }

    private static void isTold() {
        promise(24);
        says("Returns whether the types of all lessons that have one, and whose second way goes through 300 nodes at most, are told "
            + "alike by both ways.", () -> {
                is(new TypeTutor().isTold(), true);
                is(with("y", "11", "^x.xx", LARGE + SIZE_201).isTold(), true);
                // The second way of 301 nodes stops ahead of a type: it is left out.
                TypeTutor t = with(NODES_301, NODES_300, "!i=^x.x;ii", "^g.!p=^z.zgg;!q=^z.zpp;q", "^x.!y=^z.x;^k.kyy",
                    "!a=^x.x;!b=aa;!c=bb;!d=cc;!e=dd;ee");
                is(t.isTold(), true);
                fails(ISE, () -> t.typeAgain(0, 0));
                fails(ISE, () -> t.typeAgain(5, 0));
                is(with(LARGE + SIZE_199, "^x.!f=^y.x;+(f1)(f+)", LARGE + "!f=^x.(^y.1)(^k.kxxx);fd").isTold(), true);
            });
        says("Returns whether this is so.", () -> is(with("1").isTold(), true));
    }
}
